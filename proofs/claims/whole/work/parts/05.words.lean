/-- the good words of the tables: every method of ours has them all -/
def AL : List Cond := lw_tbl.filter goodWord
theorem AL_good : ∀ w ∈ AL, goodWord w = true := fun _ h => (List.mem_filter.mp h).2
theorem AL_sub : ∀ w ∈ AL, w ∈ lw_tbl := fun _ h => (List.mem_filter.mp h).1
theorem AL_s {w : Cond} (i : Nat) (h : (k2_sels lw_privs)[i]? = some w) (g : goodWord w = true) : w ∈ AL := List.mem_filter.mpr ⟨List.mem_append_left _ (List.mem_of_getElem? h), g⟩
theorem AL_1 {w : Cond} (i : Nat) (h : tables_1_1[i]? = some w) (g : goodWord w = true) : w ∈ AL := List.mem_filter.mpr ⟨List.mem_append_right _ (by unfold tables_1; exact List.mem_append_left _ (List.mem_of_getElem? h)), g⟩
theorem AT_1 {w : Cond} (i : Nat) (h : tables_1_1[i]? = some w) : w ∈ lw_tbl := List.mem_append_right _ (by unfold tables_1; exact List.mem_append_left _ (List.mem_of_getElem? h))
theorem AL_2 {w : Cond} (i : Nat) (h : tables_1_2[i]? = some w) (g : goodWord w = true) : w ∈ AL := List.mem_filter.mpr ⟨List.mem_append_right _ (by unfold tables_1; exact List.mem_append_right _ (List.mem_append_left _ (List.mem_of_getElem? h))), g⟩
theorem AT_2 {w : Cond} (i : Nat) (h : tables_1_2[i]? = some w) : w ∈ lw_tbl := List.mem_append_right _ (by unfold tables_1; exact List.mem_append_right _ (List.mem_append_left _ (List.mem_of_getElem? h)))
theorem AL_3 {w : Cond} (i : Nat) (h : tables_1_3[i]? = some w) (g : goodWord w = true) : w ∈ AL := List.mem_filter.mpr ⟨List.mem_append_right _ (by unfold tables_1; exact List.mem_append_right _ (List.mem_append_right _ (List.mem_append_left _ (List.mem_of_getElem? h)))), g⟩
theorem AT_3 {w : Cond} (i : Nat) (h : tables_1_3[i]? = some w) : w ∈ lw_tbl := List.mem_append_right _ (by unfold tables_1; exact List.mem_append_right _ (List.mem_append_right _ (List.mem_append_left _ (List.mem_of_getElem? h))))
theorem AL_4 {w : Cond} (i : Nat) (h : tables_1_4[i]? = some w) (g : goodWord w = true) : w ∈ AL := List.mem_filter.mpr ⟨List.mem_append_right _ (by unfold tables_1; exact List.mem_append_right _ (List.mem_append_right _ (List.mem_append_right _ (List.mem_append_left _ (List.mem_of_getElem? h))))), g⟩
theorem AT_4 {w : Cond} (i : Nat) (h : tables_1_4[i]? = some w) : w ∈ lw_tbl := List.mem_append_right _ (by unfold tables_1; exact List.mem_append_right _ (List.mem_append_right _ (List.mem_append_right _ (List.mem_append_left _ (List.mem_of_getElem? h)))))
theorem AL_5 {w : Cond} (i : Nat) (h : tables_1_5[i]? = some w) (g : goodWord w = true) : w ∈ AL := List.mem_filter.mpr ⟨List.mem_append_right _ (by unfold tables_1; exact List.mem_append_right _ (List.mem_append_right _ (List.mem_append_right _ (List.mem_append_right _ ((List.mem_of_getElem? h)))))), g⟩
theorem AT_5 {w : Cond} (i : Nat) (h : tables_1_5[i]? = some w) : w ∈ lw_tbl := List.mem_append_right _ (by unfold tables_1; exact List.mem_append_right _ (List.mem_append_right _ (List.mem_append_right _ (List.mem_append_right _ ((List.mem_of_getElem? h))))))
theorem wq0 : (.initialized RL : Cond) ∈ AL := AL_1 0 rfl rfl
theorem wq1 : (.initialized RX5 : Cond) ∈ AL := AL_1 1 rfl rfl
theorem wq2 : (.initialized RX1 : Cond) ∈ AL := AL_1 2 rfl rfl
theorem wq3 : (.initialized RX4 : Cond) ∈ AL := AL_1 3 rfl rfl
theorem wq4 : (.initialized RJxa1e45 : Cond) ∈ AL := AL_1 4 rfl rfl
theorem wq5 : (.initialized RJxc12de : Cond) ∈ AL := AL_1 5 rfl rfl
theorem wq6 : (.initialized RJx4a65c : Cond) ∈ AL := AL_1 6 rfl rfl
theorem wq7 : (.initialized RX6 : Cond) ∈ AL := AL_1 7 rfl rfl
theorem wq8 : (.initialized "java/lang/Throwable" : Cond) ∈ AL := AL_1 8 rfl rfl
theorem wq9 : (.initialized "java/lang/Exception" : Cond) ∈ AL := AL_1 9 rfl rfl
theorem wq10 : (.initialized "java/lang/RuntimeException" : Cond) ∈ AL := AL_1 10 rfl rfl
theorem wq11 : (.initialized "java/lang/IndexOutOfBoundsException" : Cond) ∈ AL := AL_1 11 rfl rfl
theorem wq12 : (.initialized "java/lang/IllegalArgumentException" : Cond) ∈ AL := AL_1 12 rfl rfl
theorem wq13 : (.initialized RJ15 : Cond) ∈ AL := AL_1 13 rfl rfl
theorem wq14 : (.initialized RJ3 : Cond) ∈ AL := AL_1 14 rfl rfl
theorem wq15 : (.initialized "java/lang/IllegalStateException" : Cond) ∈ AL := AL_1 15 rfl rfl
theorem wq16 : (.initialized RX2 : Cond) ∈ AL := AL_1 16 rfl rfl
theorem wq17 : (.initialized RJ8 : Cond) ∈ AL := AL_1 17 rfl rfl
theorem wq18 : (.initialized RJ9 : Cond) ∈ AL := AL_1 18 rfl rfl
theorem wq19 : (.initialized RJ7 : Cond) ∈ AL := AL_1 19 rfl rfl
theorem wq20 : (.initialized RJ10 : Cond) ∈ AL := AL_1 20 rfl rfl
theorem wq21 : (.initialized RX3 : Cond) ∈ AL := AL_1 21 rfl rfl
theorem wq22 : (.initialized RX0 : Cond) ∈ AL := AL_1 22 rfl rfl
theorem wq23 : (.classLink RL 8 RX5 : Cond) ∈ AL := AL_1 23 rfl rfl
theorem wq24 : (.instantiable RX5 3 : Cond) ∈ AL := AL_1 24 rfl rfl
theorem wq25 : (.methodLink RL 74 yX5_init : Cond) ∈ AL := AL_1 25 rfl rfl
theorem wq26 : (.instanceMethod yX5_init : Cond) ∈ AL := AL_1 26 rfl rfl
theorem wq27 : (.code yX5_init cX5_init 1 (none : Option Jvm.ClassFile.FieldType) : Cond) ∈ AL := AL_1 27 rfl rfl
theorem wq28 : (.methodLink RX5 3 objectInit : Cond) ∈ AL := AL_1 28 rfl rfl
theorem wq29 : (.instanceMethod objectInit : Cond) ∈ AL := AL_1 29 rfl rfl
theorem wq30 : (.code objectInit object_method_1_code 1 (none : Option Jvm.ClassFile.FieldType) : Cond) ∈ AL := AL_1 30 rfl rfl
theorem wq31 : (.classLink RX5 9 RX1 : Cond) ∈ AL := AL_1 31 rfl rfl
theorem wq32 : (.instantiable RX1 3 : Cond) ∈ AL := AL_1 32 rfl rfl
theorem wq34 : (.instanceMethod yX1_init : Cond) ∈ AL := AL_1 34 rfl rfl
theorem wq35 : (.code yX1_init cX1_init 1 (none : Option Jvm.ClassFile.FieldType) : Cond) ∈ AL := AL_1 35 rfl rfl
theorem wq36 : (.methodLink RX1 3 objectInit : Cond) ∈ AL := AL_1 36 rfl rfl
theorem wq37 : (.fieldLink RX1 9 "FireEngines$Ground" "kinds" "[I" : Cond) ∈ AL := AL_1 37 rfl rfl
theorem wq38 : (.fieldLink RX1 15 "FireEngines$Ground" "numbers" "[I" : Cond) ∈ AL := AL_1 38 rfl rfl
theorem wq39 : (.fieldLink RX1 18 "FireEngines$Ground" "steps" "[I" : Cond) ∈ AL := AL_1 39 rfl rfl
theorem wq40 : (.laysFinal "FireEngines$Ground" "FireEngines$Ground" "kinds" "[I" : Cond) ∈ AL := AL_1 40 rfl rfl
theorem wq42 : (.laysFinal "FireEngines$Ground" "FireEngines$Ground" "numbers" "[I" : Cond) ∈ AL := AL_1 42 rfl rfl
theorem wq44 : (.laysFinal "FireEngines$Ground" "FireEngines$Ground" "steps" "[I" : Cond) ∈ AL := AL_1 44 rfl rfl
theorem wq47 : (.arrayClass .int : Cond) ∈ AL := AL_1 47 rfl rfl
theorem wq48 : (.classLink RX5 16 RX4 : Cond) ∈ AL := AL_1 48 rfl rfl
theorem wq49 : (.instantiable RX4 4 : Cond) ∈ AL := AL_1 49 rfl rfl
theorem wq51 : (.instanceMethod yX4_init : Cond) ∈ AL := AL_1 51 rfl rfl
theorem wq52 : (.code yX4_init cX4_init 1 (none : Option Jvm.ClassFile.FieldType) : Cond) ∈ AL := AL_1 52 rfl rfl
theorem wq53 : (.methodLink RX4 3 objectInit : Cond) ∈ AL := AL_1 53 rfl rfl
theorem wq54 : (.classLink RX4 9 RJx4a65c : Cond) ∈ AL := AL_1 54 rfl rfl
theorem wq55 : (.instantiable RJx4a65c 3 : Cond) ∈ AL := AL_1 55 rfl rfl
theorem wq56 : (.methodLink RX4 11 yJx4a65c_init_da8c8 : Cond) ∈ AL := AL_1 56 rfl rfl
theorem wq57 : (.instanceMethod yJx4a65c_init_da8c8 : Cond) ∈ AL := AL_1 57 rfl rfl
theorem wq58 : (.code yJx4a65c_init_da8c8 cJx4a65c_init_da8c8 1 (none : Option Jvm.ClassFile.FieldType) : Cond) ∈ AL := AL_1 58 rfl rfl
theorem wq59 : (.methodLink RJx4a65c 1 yJxc12de_init_da8c8 : Cond) ∈ AL := AL_1 59 rfl rfl
theorem wq60 : (.instanceMethod yJxc12de_init_da8c8 : Cond) ∈ AL := AL_1 60 rfl rfl
theorem wq61 : (.code yJxc12de_init_da8c8 cJxc12de_init_da8c8 1 (none : Option Jvm.ClassFile.FieldType) : Cond) ∈ AL := AL_1 61 rfl rfl
theorem wq62 : (.methodLink RJxc12de 1 yJxa1e45_init_da8c8 : Cond) ∈ AL := AL_1 62 rfl rfl
theorem wq63 : (.instanceMethod yJxa1e45_init_da8c8 : Cond) ∈ AL := AL_1 63 rfl rfl
theorem wq64 : (.code yJxa1e45_init_da8c8 cJxa1e45_init_da8c8 1 (none : Option Jvm.ClassFile.FieldType) : Cond) ∈ AL := AL_1 64 rfl rfl
theorem wq65 : (.methodLink RJxa1e45 1 objectInit : Cond) ∈ AL := AL_1 65 rfl rfl
theorem wq66 : (.fieldLink RJx4a65c 39 "java/util/ArrayList" "DEFAULTCAPACITY_EMPTY_ELEMENTDATA" "[Ljava/lang/Object;" : Cond) ∈ AL := AL_1 66 rfl rfl
theorem wt67 : (.laysStatic "java/util/ArrayList" "DEFAULTCAPACITY_EMPTY_ELEMENTDATA" "[Ljava/lang/Object;" : Cond) ∈ lw_tbl := AT_1 67 rfl
theorem wq68 : (.fieldLink RJx4a65c 9 "java/util/ArrayList" "elementData" "[Ljava/lang/Object;" : Cond) ∈ AL := AL_1 68 rfl rfl
theorem wq69 : (.fieldLink RJx4a65c 48 "java/util/ArrayList" "size" "I" : Cond) ∈ AL := AL_1 69 rfl rfl
theorem wq70 : (.fieldLink RJxc12de 7 "java/util/AbstractList" "modCount" "I" : Cond) ∈ AL := AL_1 70 rfl rfl
theorem wq71 : (.fieldLink RJx4a65c 63 "java/util/ArrayList" "modCount" "I" : Cond) ∈ AL := AL_1 71 rfl rfl
theorem wq72 : (.sameField "java/util/ArrayList" "java/util/AbstractList" "modCount" "I" : Cond) ∈ AL := AL_1 72 rfl rfl
theorem wq73 : (.lays "java/util/ArrayList" "java/util/ArrayList" "elementData" "[Ljava/lang/Object;" : Cond) ∈ AL := AL_1 73 rfl rfl
theorem wq75 : (.lays "java/util/ArrayList" "java/util/ArrayList" "size" "I" : Cond) ∈ AL := AL_1 75 rfl rfl
theorem wq77 : (.lays "java/util/ArrayList" "java/util/AbstractList" "modCount" "I" : Cond) ∈ AL := AL_1 77 rfl rfl
theorem wq80 : (.fieldLink RX4 24 "FireEngines$Town" "minute" "I" : Cond) ∈ AL := AL_1 80 rfl rfl
theorem wq81 : (.fieldLink RX4 12 "FireEngines$Town" "houses" "Ljava/util/ArrayList;" : Cond) ∈ AL := AL_1 81 rfl rfl
theorem wq83 : (.fieldLink RX4 18 "FireEngines$Town" "ponds" "Ljava/util/ArrayList;" : Cond) ∈ AL := AL_1 83 rfl rfl
theorem wq85 : (.fieldLink RX4 21 "FireEngines$Town" "engines" "Ljava/util/ArrayList;" : Cond) ∈ AL := AL_1 85 rfl rfl
theorem wq87 : (.lays "FireEngines$Town" "FireEngines$Town" "minute" "I" : Cond) ∈ AL := AL_1 87 rfl rfl
theorem wq89 : (.laysFinal "FireEngines$Town" "FireEngines$Town" "houses" "Ljava/util/ArrayList;" : Cond) ∈ AL := AL_1 89 rfl rfl
theorem wq91 : (.laysFinal "FireEngines$Town" "FireEngines$Town" "ponds" "Ljava/util/ArrayList;" : Cond) ∈ AL := AL_1 91 rfl rfl
theorem wq93 : (.laysFinal "FireEngines$Town" "FireEngines$Town" "engines" "Ljava/util/ArrayList;" : Cond) ∈ AL := AL_1 93 rfl rfl
theorem wq96 : (.fieldLink RX5 12 "FireEngines" "ground" "LFireEngines$Ground;" : Cond) ∈ AL := AL_1 96 rfl rfl
theorem wq97 : (.fieldLink RX5 19 "FireEngines" "town" "LFireEngines$Town;" : Cond) ∈ AL := AL_1 97 rfl rfl
theorem wq98 : (.fieldLink RX5 23 "FireEngines" "ahead" "LFireEngines$Town;" : Cond) ∈ AL := AL_1 98 rfl rfl
theorem wq99 : (.laysFinal "FireEngines" "FireEngines" "ground" "LFireEngines$Ground;" : Cond) ∈ AL := AL_1 99 rfl rfl
theorem wq101 : (.laysFinal "FireEngines" "FireEngines" "town" "LFireEngines$Town;" : Cond) ∈ AL := AL_1 101 rfl rfl
theorem wq103 : (.laysFinal "FireEngines" "FireEngines" "ahead" "LFireEngines$Town;" : Cond) ∈ AL := AL_1 103 rfl rfl
theorem wq106 : (.methodLink RL 136 yX5_lasts : Cond) ∈ AL := AL_1 106 rfl rfl
theorem wq107 : (.instanceMethod yX5_lasts : Cond) ∈ AL := AL_1 107 rfl rfl
theorem wq108 : (.selects RX5 yX5_lasts yX5_lasts : Cond) ∈ AL := AL_1 108 rfl rfl
theorem wq109 : (.code yX5_lasts cX5_lasts 2 (some .int) : Cond) ∈ AL := AL_1 109 rfl rfl
theorem wq110 : (.methodLink RX5 174 yX4_copyFrom : Cond) ∈ AL := AL_1 110 rfl rfl
theorem wq111 : (.instanceMethod yX4_copyFrom : Cond) ∈ AL := AL_1 111 rfl rfl
theorem wq112 : (.selects RX4 yX4_copyFrom yX4_copyFrom : Cond) ∈ AL := AL_1 112 rfl rfl
theorem wq113 : (.code yX4_copyFrom cX4_copyFrom 3 (none : Option Jvm.ClassFile.FieldType) : Cond) ∈ AL := AL_1 113 rfl rfl
theorem wq114 : (.methodLink RX4 28 yJx4a65c_size_8abf5 : Cond) ∈ AL := AL_1 114 rfl rfl
theorem wq115 : (.instanceMethod yJx4a65c_size_8abf5 : Cond) ∈ AL := AL_1 115 rfl rfl
theorem wq116 : (.selects RJx4a65c yJx4a65c_size_8abf5 yJx4a65c_size_8abf5 : Cond) ∈ AL := AL_1 116 rfl rfl
theorem wq117 : (.code yJx4a65c_size_8abf5 cJx4a65c_size_8abf5 1 (some .int) : Cond) ∈ AL := AL_1 117 rfl rfl
theorem wq118 : (.classLink RX4 32 RX2 : Cond) ∈ AL := AL_1 118 rfl rfl
theorem wq119 : (.instantiable RX2 7 : Cond) ∈ AL := AL_1 119 rfl rfl
theorem wq120 : (.methodLink RX4 34 yX2_init : Cond) ∈ AL := AL_1 120 rfl rfl
theorem wq121 : (.instanceMethod yX2_init : Cond) ∈ AL := AL_1 121 rfl rfl
theorem wq122 : (.code yX2_init cX2_init 4 (none : Option Jvm.ClassFile.FieldType) : Cond) ∈ AL := AL_1 122 rfl rfl
theorem wq123 : (.methodLink RX2 3 objectInit : Cond) ∈ AL := AL_1 123 rfl rfl
theorem wq124 : (.fieldLink RX2 9 "FireEngines$House" "cell" "I" : Cond) ∈ AL := AL_1 124 rfl rfl
theorem wq127 : (.fieldLink RX2 15 "FireEngines$House" "wood" "I" : Cond) ∈ AL := AL_1 127 rfl rfl
theorem wq128 : (.fieldLink RX2 18 "FireEngines$House" "walls" "I" : Cond) ∈ AL := AL_1 128 rfl rfl
theorem wq130 : (.fieldLink RX2 21 "FireEngines$House" "state" "I" : Cond) ∈ AL := AL_1 130 rfl rfl
theorem wq133 : (.fieldLink RX2 24 "FireEngines$House" "heat" "I" : Cond) ∈ AL := AL_1 133 rfl rfl
theorem wq135 : (.fieldLink RX2 27 "FireEngines$House" "came" "I" : Cond) ∈ AL := AL_1 135 rfl rfl
theorem wq137 : (.fieldLink RX2 30 "FireEngines$House" "cameInAll" "I" : Cond) ∈ AL := AL_1 137 rfl rfl
theorem wq138 : (.lays "FireEngines$House" "FireEngines$House" "cell" "I" : Cond) ∈ AL := AL_1 138 rfl rfl
theorem wq140 : (.lays "FireEngines$House" "FireEngines$House" "wood" "I" : Cond) ∈ AL := AL_1 140 rfl rfl
theorem wq142 : (.lays "FireEngines$House" "FireEngines$House" "walls" "I" : Cond) ∈ AL := AL_1 142 rfl rfl
theorem wq144 : (.lays "FireEngines$House" "FireEngines$House" "state" "I" : Cond) ∈ AL := AL_1 144 rfl rfl
theorem wq146 : (.lays "FireEngines$House" "FireEngines$House" "heat" "I" : Cond) ∈ AL := AL_1 146 rfl rfl
theorem wq148 : (.lays "FireEngines$House" "FireEngines$House" "came" "I" : Cond) ∈ AL := AL_1 148 rfl rfl
theorem wq150 : (.lays "FireEngines$House" "FireEngines$House" "cameInAll" "I" : Cond) ∈ AL := AL_1 150 rfl rfl
theorem wq153 : (.methodLink RX4 37 yJx4a65c_add_9ea2d : Cond) ∈ AL := AL_1 153 rfl rfl
theorem wq154 : (.instanceMethod yJx4a65c_add_9ea2d : Cond) ∈ AL := AL_1 154 rfl rfl
theorem wq155 : (.selects RJx4a65c yJx4a65c_add_9ea2d yJx4a65c_add_9ea2d : Cond) ∈ AL := AL_1 155 rfl rfl
theorem wq156 : (.code yJx4a65c_add_9ea2d cJx4a65c_add_9ea2d 2 (some .boolean) : Cond) ∈ AL := AL_1 156 rfl rfl
theorem wq157 : (.methodLink RJx4a65c 131 yJx4a65c_add_72be8 : Cond) ∈ AL := AL_1 157 rfl rfl
theorem wq159 : (.instanceMethod yJx4a65c_add_72be8 : Cond) ∈ AL := AL_1 159 rfl rfl
theorem wq160 : (.code yJx4a65c_add_72be8 cJx4a65c_add_72be8 4 (none : Option Jvm.ClassFile.FieldType) : Cond) ∈ AL := AL_1 160 rfl rfl
theorem wq161 : (.methodLink RJx4a65c 129 yJx4a65c_grow_d5877 : Cond) ∈ AL := AL_1 161 rfl rfl
theorem wq163 : (.instanceMethod yJx4a65c_grow_d5877 : Cond) ∈ AL := AL_1 163 rfl rfl
theorem wq164 : (.code yJx4a65c_grow_d5877 cJx4a65c_grow_d5877 1 (some (.array (.object "java/lang/Object"))) : Cond) ∈ AL := AL_1 164 rfl rfl
theorem wq165 : (.methodLink RJx4a65c 69 yJx4a65c_grow_92f84 : Cond) ∈ AL := AL_1 165 rfl rfl
theorem wq167 : (.instanceMethod yJx4a65c_grow_92f84 : Cond) ∈ AL := AL_1 167 rfl rfl
theorem wq168 : (.code yJx4a65c_grow_92f84 cJx4a65c_grow_92f84 4 (some (.array (.object "java/lang/Object"))) : Cond) ∈ AL := AL_1 168 rfl rfl
theorem wq169 : (.methodLink RJx4a65c 73 yJ8_newLength_cabcc : Cond) ∈ AL := AL_1 169 rfl rfl
theorem wq170 : (.static yJ8_newLength_cabcc : Cond) ∈ AL := AL_1 170 rfl rfl
theorem wq171 : (.code yJ8_newLength_cabcc cJ8_newLength_cabcc 4 (some .int) : Cond) ∈ AL := AL_1 171 rfl rfl
theorem wq172 : (.methodLink RJ8 194 Lib.Math.max.name : Cond) ∈ AL := AL_1 172 rfl rfl
theorem wq173 : (.static Lib.Math.max.name : Cond) ∈ AL := AL_1 173 rfl rfl
theorem wq174 : (.code Lib.Math.max.name cJ9_max_7cf53 2 (some .int) : Cond) ∈ AL := AL_1 174 rfl rfl
theorem wq175 : (.constant RJ8 200 (2147483639) : Cond) ∈ AL := AL_1 175 rfl rfl
theorem wq176 : (.methodLink RJ8 201 yJ8_hugeLength_7cf53 : Cond) ∈ AL := AL_1 176 rfl rfl
theorem wq177 : (.static yJ8_hugeLength_7cf53 : Cond) ∈ AL := AL_1 177 rfl rfl
theorem wq178 : (.code yJ8_hugeLength_7cf53 cJ8_hugeLength_7cf53 3 (some .int) : Cond) ∈ AL := AL_1 178 rfl rfl
theorem wq179 : (.methodLink RJx4a65c 66 yJ7_copyOf_1904c : Cond) ∈ AL := AL_1 179 rfl rfl
theorem wq180 : (.static yJ7_copyOf_1904c : Cond) ∈ AL := AL_1 180 rfl rfl
theorem wq181 : (.code yJ7_copyOf_1904c cJ7_copyOf_1904c 2 (some (.array (.object "java/lang/Object"))) : Cond) ∈ AL := AL_1 181 rfl rfl
theorem wq182 : (.methodLink RJ7 86 ⟨"java/lang/Object", "getClass", "()Ljava/lang/Class;"⟩ : Cond) ∈ AL := AL_1 182 rfl rfl
theorem wq183 : (.instanceMethod ⟨"java/lang/Object", "getClass", "()Ljava/lang/Class;"⟩ : Cond) ∈ AL := AL_1 183 rfl rfl
theorem wq184 : (.sameMethod "java/lang/Object" "java/lang/Object" "getClass" "()Ljava/lang/Class;" : Cond) ∈ AL := AL_1 184 rfl rfl
theorem wq185 : (.selects RX5 ⟨"java/lang/Object", "getClass", "()Ljava/lang/Class;"⟩ ⟨"java/lang/Object", "getClass", "()Ljava/lang/Class;"⟩ : Cond) ∈ AL := AL_1 185 rfl rfl
theorem wq186 : (.selects RX0 ⟨"java/lang/Object", "getClass", "()Ljava/lang/Class;"⟩ ⟨"java/lang/Object", "getClass", "()Ljava/lang/Class;"⟩ : Cond) ∈ AL := AL_1 186 rfl rfl
theorem wq187 : (.selects RX1 ⟨"java/lang/Object", "getClass", "()Ljava/lang/Class;"⟩ ⟨"java/lang/Object", "getClass", "()Ljava/lang/Class;"⟩ : Cond) ∈ AL := AL_1 187 rfl rfl
theorem wq188 : (.selects RX2 ⟨"java/lang/Object", "getClass", "()Ljava/lang/Class;"⟩ ⟨"java/lang/Object", "getClass", "()Ljava/lang/Class;"⟩ : Cond) ∈ AL := AL_1 188 rfl rfl
theorem wq189 : (.selects RX3 ⟨"java/lang/Object", "getClass", "()Ljava/lang/Class;"⟩ ⟨"java/lang/Object", "getClass", "()Ljava/lang/Class;"⟩ : Cond) ∈ AL := AL_1 189 rfl rfl
theorem wq190 : (.selects RX4 ⟨"java/lang/Object", "getClass", "()Ljava/lang/Class;"⟩ ⟨"java/lang/Object", "getClass", "()Ljava/lang/Class;"⟩ : Cond) ∈ AL := AL_1 190 rfl rfl
theorem wq191 : (.selects RX6 ⟨"java/lang/Object", "getClass", "()Ljava/lang/Class;"⟩ ⟨"java/lang/Object", "getClass", "()Ljava/lang/Class;"⟩ : Cond) ∈ AL := AL_1 191 rfl rfl
theorem wq192 : (.selects "java/lang/IllegalArgumentException" ⟨"java/lang/Object", "getClass", "()Ljava/lang/Class;"⟩ ⟨"java/lang/Object", "getClass", "()Ljava/lang/Class;"⟩ : Cond) ∈ AL := AL_1 192 rfl rfl
theorem wq193 : (.selects "java/lang/IllegalStateException" ⟨"java/lang/Object", "getClass", "()Ljava/lang/Class;"⟩ ⟨"java/lang/Object", "getClass", "()Ljava/lang/Class;"⟩ : Cond) ∈ AL := AL_1 193 rfl rfl
theorem wq194 : (.selects "java/lang/IndexOutOfBoundsException" ⟨"java/lang/Object", "getClass", "()Ljava/lang/Class;"⟩ ⟨"java/lang/Object", "getClass", "()Ljava/lang/Class;"⟩ : Cond) ∈ AL := AL_1 194 rfl rfl
theorem wq195 : (.selects RJx4a65c ⟨"java/lang/Object", "getClass", "()Ljava/lang/Class;"⟩ ⟨"java/lang/Object", "getClass", "()Ljava/lang/Class;"⟩ : Cond) ∈ AL := AL_1 195 rfl rfl
theorem wq196 : (.native ⟨"java/lang/Object", "getClass", "()Ljava/lang/Class;"⟩ : Cond) ∈ AL := AL_1 196 rfl rfl
theorem wq197 : (.methodLink RJ7 300 yJ7_copyOf_6403c : Cond) ∈ AL := AL_1 197 rfl rfl
theorem wq198 : (.static yJ7_copyOf_6403c : Cond) ∈ AL := AL_1 198 rfl rfl
theorem wq199 : (.code yJ7_copyOf_6403c cJ7_copyOf_6403c 4 (some (.array (.object "java/lang/Object"))) : Cond) ∈ AL := AL_1 199 rfl rfl
theorem wq200 : (.classLink RJ7 110 "[Ljava/lang/Object;" : Cond) ∈ AL := AL_1 200 rfl rfl
theorem wt201 : (.arrayOver (.object "java/lang/Object") : Cond) ∈ lw_tbl := AT_1 201 rfl
theorem wq202 : (.classLink RJ7 2 "java/lang/Object" : Cond) ∈ AL := AL_1 202 rfl rfl
theorem wq203 : (.methodLink RJ7 304 Lib.Math.min.name : Cond) ∈ AL := AL_1 203 rfl rfl
theorem wq204 : (.static Lib.Math.min.name : Cond) ∈ AL := AL_1 204 rfl rfl
theorem wq205 : (.code Lib.Math.min.name cJ9_min_7cf53 2 (some .int) : Cond) ∈ AL := AL_1 205 rfl rfl
theorem wq206 : (.methodLink RJ7 150 arraycopyName : Cond) ∈ AL := AL_1 206 rfl rfl
theorem wq207 : (.static arraycopyName : Cond) ∈ AL := AL_1 207 rfl rfl
theorem wq208 : (.native arraycopyName : Cond) ∈ AL := AL_1 208 rfl rfl
theorem wq209 : (.methodLink RJx4a65c 79 Lib.Math.max.name : Cond) ∈ AL := AL_1 209 rfl rfl
theorem wq210 : (.classLink RJx4a65c 7 "java/lang/Object" : Cond) ∈ AL := AL_1 210 rfl rfl
theorem wq211 : (.methodLink RX4 41 yJx4a65c_get_915e3 : Cond) ∈ AL := AL_1 211 rfl rfl
theorem wq212 : (.instanceMethod yJx4a65c_get_915e3 : Cond) ∈ AL := AL_1 212 rfl rfl
theorem wq213 : (.selects RJx4a65c yJx4a65c_get_915e3 yJx4a65c_get_915e3 : Cond) ∈ AL := AL_1 213 rfl rfl
theorem wq214 : (.code yJx4a65c_get_915e3 cJx4a65c_get_915e3 2 (some (.object "java/lang/Object")) : Cond) ∈ AL := AL_1 214 rfl rfl
theorem wq215 : (.methodLink RJx4a65c 118 yJ15_checkIndex_7cf53 : Cond) ∈ AL := AL_1 215 rfl rfl
theorem wq216 : (.static yJ15_checkIndex_7cf53 : Cond) ∈ AL := AL_1 216 rfl rfl
theorem wq217 : (.code yJ15_checkIndex_7cf53 cJ15_checkIndex_7cf53 2 (some .int) : Cond) ∈ AL := AL_1 217 rfl rfl
theorem wq218 : (.methodLink RJ15 105 yJ3_checkIndex_8e157 : Cond) ∈ AL := AL_1 218 rfl rfl
theorem wq219 : (.static yJ3_checkIndex_8e157 : Cond) ∈ AL := AL_1 219 rfl rfl
theorem wq220 : (.code yJ3_checkIndex_8e157 cJ3_checkIndex_8e157 3 (some .int) : Cond) ∈ AL := AL_1 220 rfl rfl
theorem wq221 : (.methodLink RJx4a65c 123 yJx4a65c_elementData_915e3 : Cond) ∈ AL := AL_1 221 rfl rfl
theorem wq222 : (.instanceMethod yJx4a65c_elementData_915e3 : Cond) ∈ AL := AL_1 222 rfl rfl
theorem wq223 : (.selects RJx4a65c yJx4a65c_elementData_915e3 yJx4a65c_elementData_915e3 : Cond) ∈ AL := AL_1 223 rfl rfl
theorem wq224 : (.code yJx4a65c_elementData_915e3 cJx4a65c_elementData_915e3 2 (some (.object "java/lang/Object")) : Cond) ∈ AL := AL_1 224 rfl rfl
theorem wq225 : (.methodLink RX4 45 yX2_copyFrom : Cond) ∈ AL := AL_1 225 rfl rfl
theorem wq226 : (.instanceMethod yX2_copyFrom : Cond) ∈ AL := AL_1 226 rfl rfl
theorem wq227 : (.selects RX2 yX2_copyFrom yX2_copyFrom : Cond) ∈ AL := AL_1 227 rfl rfl
theorem wq228 : (.code yX2_copyFrom cX2_copyFrom 2 (none : Option Jvm.ClassFile.FieldType) : Cond) ∈ AL := AL_1 228 rfl rfl
theorem wq229 : (.classLink RX4 49 RX3 : Cond) ∈ AL := AL_1 229 rfl rfl
theorem wq230 : (.instantiable RX3 2 : Cond) ∈ AL := AL_1 230 rfl rfl
theorem wq231 : (.methodLink RX4 51 yX3_init : Cond) ∈ AL := AL_1 231 rfl rfl
theorem wq232 : (.instanceMethod yX3_init : Cond) ∈ AL := AL_1 232 rfl rfl
theorem wq233 : (.code yX3_init cX3_init 3 (none : Option Jvm.ClassFile.FieldType) : Cond) ∈ AL := AL_1 233 rfl rfl
theorem wq234 : (.methodLink RX3 1 objectInit : Cond) ∈ AL := AL_1 234 rfl rfl
theorem wq235 : (.fieldLink RX3 7 "FireEngines$Pond" "cell" "I" : Cond) ∈ AL := AL_1 235 rfl rfl
theorem wq238 : (.fieldLink RX3 13 "FireEngines$Pond" "water" "I" : Cond) ∈ AL := AL_1 238 rfl rfl
theorem wq241 : (.lays "FireEngines$Pond" "FireEngines$Pond" "cell" "I" : Cond) ∈ AL := AL_2 1 rfl rfl
theorem wq243 : (.lays "FireEngines$Pond" "FireEngines$Pond" "water" "I" : Cond) ∈ AL := AL_2 3 rfl rfl
theorem wq246 : (.methodLink RX4 54 yX3_copyFrom : Cond) ∈ AL := AL_2 6 rfl rfl
theorem wq247 : (.instanceMethod yX3_copyFrom : Cond) ∈ AL := AL_2 7 rfl rfl
theorem wq248 : (.selects RX3 yX3_copyFrom yX3_copyFrom : Cond) ∈ AL := AL_2 8 rfl rfl
theorem wq249 : (.code yX3_copyFrom cX3_copyFrom 2 (none : Option Jvm.ClassFile.FieldType) : Cond) ∈ AL := AL_2 9 rfl rfl
theorem wq250 : (.classLink RX4 57 RX0 : Cond) ∈ AL := AL_2 10 rfl rfl
theorem wq251 : (.instantiable RX0 11 : Cond) ∈ AL := AL_2 11 rfl rfl
theorem wq252 : (.methodLink RX4 59 yX0_init : Cond) ∈ AL := AL_2 12 rfl rfl
theorem wq253 : (.instanceMethod yX0_init : Cond) ∈ AL := AL_2 13 rfl rfl
theorem wq254 : (.code yX0_init cX0_init 4 (none : Option Jvm.ClassFile.FieldType) : Cond) ∈ AL := AL_2 14 rfl rfl
theorem wq255 : (.methodLink RX0 3 objectInit : Cond) ∈ AL := AL_2 15 rfl rfl
theorem wq256 : (.fieldLink RX0 9 "FireEngines$Engine" "cell" "I" : Cond) ∈ AL := AL_2 16 rfl rfl
theorem wq259 : (.fieldLink RX0 15 "FireEngines$Engine" "horses" "I" : Cond) ∈ AL := AL_2 19 rfl rfl
theorem wq261 : (.fieldLink RX0 18 "FireEngines$Engine" "power" "I" : Cond) ∈ AL := AL_2 21 rfl rfl
theorem wq263 : (.fieldLink RX0 21 "FireEngines$Engine" "coal" "I" : Cond) ∈ AL := AL_2 23 rfl rfl
theorem wq266 : (.fieldLink RX0 30 "FireEngines$Engine" "steam" "I" : Cond) ∈ AL := AL_2 26 rfl rfl
theorem wq268 : (.fieldLink RX0 33 "FireEngines$Engine" "minutesLeft" "I" : Cond) ∈ AL := AL_2 28 rfl rfl
theorem wq271 : (.fieldLink RX0 24 "FireEngines$Engine" "goal" "I" : Cond) ∈ AL := AL_2 31 rfl rfl
theorem wq273 : (.fieldLink RX0 27 "FireEngines$Engine" "hose" "I" : Cond) ∈ AL := AL_2 33 rfl rfl
theorem wq276 : (.fieldLink RX0 36 "FireEngines$Engine" "came" "I" : Cond) ∈ AL := AL_2 36 rfl rfl
theorem wq278 : (.fieldLink RX0 39 "FireEngines$Engine" "gave" "I" : Cond) ∈ AL := AL_2 38 rfl rfl
theorem wq280 : (.fieldLink RX0 42 "FireEngines$Engine" "asked" "Z" : Cond) ∈ AL := AL_2 40 rfl rfl
theorem wq282 : (.lays "FireEngines$Engine" "FireEngines$Engine" "cell" "I" : Cond) ∈ AL := AL_2 42 rfl rfl
theorem wq284 : (.lays "FireEngines$Engine" "FireEngines$Engine" "horses" "I" : Cond) ∈ AL := AL_2 44 rfl rfl
theorem wq286 : (.lays "FireEngines$Engine" "FireEngines$Engine" "power" "I" : Cond) ∈ AL := AL_2 46 rfl rfl
theorem wq288 : (.lays "FireEngines$Engine" "FireEngines$Engine" "coal" "I" : Cond) ∈ AL := AL_2 48 rfl rfl
theorem wq290 : (.lays "FireEngines$Engine" "FireEngines$Engine" "steam" "I" : Cond) ∈ AL := AL_2 50 rfl rfl
theorem wq292 : (.lays "FireEngines$Engine" "FireEngines$Engine" "minutesLeft" "I" : Cond) ∈ AL := AL_2 52 rfl rfl
theorem wq294 : (.lays "FireEngines$Engine" "FireEngines$Engine" "goal" "I" : Cond) ∈ AL := AL_2 54 rfl rfl
theorem wq296 : (.lays "FireEngines$Engine" "FireEngines$Engine" "hose" "I" : Cond) ∈ AL := AL_2 56 rfl rfl
theorem wq298 : (.lays "FireEngines$Engine" "FireEngines$Engine" "came" "I" : Cond) ∈ AL := AL_2 58 rfl rfl
theorem wq300 : (.lays "FireEngines$Engine" "FireEngines$Engine" "gave" "I" : Cond) ∈ AL := AL_2 60 rfl rfl
theorem wq302 : (.lays "FireEngines$Engine" "FireEngines$Engine" "asked" "Z" : Cond) ∈ AL := AL_2 62 rfl rfl
theorem wq305 : (.methodLink RX4 60 yX0_copyFrom : Cond) ∈ AL := AL_2 65 rfl rfl
theorem wq306 : (.instanceMethod yX0_copyFrom : Cond) ∈ AL := AL_2 66 rfl rfl
theorem wq307 : (.selects RX0 yX0_copyFrom yX0_copyFrom : Cond) ∈ AL := AL_2 67 rfl rfl
theorem wq308 : (.code yX0_copyFrom cX0_copyFrom 2 (none : Option Jvm.ClassFile.FieldType) : Cond) ∈ AL := AL_2 68 rfl rfl
theorem wq309 : (.methodLink RX5 89 yX4_housesThatAre : Cond) ∈ AL := AL_2 69 rfl rfl
theorem wq310 : (.instanceMethod yX4_housesThatAre : Cond) ∈ AL := AL_2 70 rfl rfl
theorem wq311 : (.selects RX4 yX4_housesThatAre yX4_housesThatAre : Cond) ∈ AL := AL_2 71 rfl rfl
theorem wq312 : (.code yX4_housesThatAre cX4_housesThatAre 4 (some .int) : Cond) ∈ AL := AL_2 72 rfl rfl
theorem wq313 : (.methodLink RX5 170 yX4_goOn : Cond) ∈ AL := AL_2 73 rfl rfl
theorem wq314 : (.instanceMethod yX4_goOn : Cond) ∈ AL := AL_2 74 rfl rfl
theorem wq315 : (.selects RX4 yX4_goOn yX4_goOn : Cond) ∈ AL := AL_2 75 rfl rfl
theorem wq316 : (.code yX4_goOn cX4_goOn 5 (some .int) : Cond) ∈ AL := AL_2 76 rfl rfl
theorem wq317 : (.methodLink RX4 133 yX4_fireAndDrive : Cond) ∈ AL := AL_2 77 rfl rfl
theorem wq319 : (.instanceMethod yX4_fireAndDrive : Cond) ∈ AL := AL_2 79 rfl rfl
theorem wq320 : (.code yX4_fireAndDrive cX4_fireAndDrive 2 (none : Option Jvm.ClassFile.FieldType) : Cond) ∈ AL := AL_2 80 rfl rfl
theorem wq321 : (.methodLink RX4 145 yX0_fire : Cond) ∈ AL := AL_2 81 rfl rfl
theorem wq322 : (.instanceMethod yX0_fire : Cond) ∈ AL := AL_2 82 rfl rfl
theorem wq323 : (.selects RX0 yX0_fire yX0_fire : Cond) ∈ AL := AL_2 83 rfl rfl
theorem wq324 : (.code yX0_fire cX0_fire 1 (none : Option Jvm.ClassFile.FieldType) : Cond) ∈ AL := AL_2 84 rfl rfl
theorem wq325 : (.methodLink RX0 50 Lib.Math.min.name : Cond) ∈ AL := AL_2 85 rfl rfl
theorem wq326 : (.methodLink RX0 56 Lib.Math.max.name : Cond) ∈ AL := AL_2 86 rfl rfl
theorem wq327 : (.methodLink RX4 148 yX0_driveAMinute : Cond) ∈ AL := AL_2 87 rfl rfl
theorem wq328 : (.instanceMethod yX0_driveAMinute : Cond) ∈ AL := AL_2 88 rfl rfl
theorem wq329 : (.selects RX0 yX0_driveAMinute yX0_driveAMinute : Cond) ∈ AL := AL_2 89 rfl rfl
theorem wq330 : (.code yX0_driveAMinute cX0_driveAMinute 1 (none : Option Jvm.ClassFile.FieldType) : Cond) ∈ AL := AL_2 90 rfl rfl
theorem wq331 : (.methodLink RX0 46 yX0_stands : Cond) ∈ AL := AL_2 91 rfl rfl
theorem wq332 : (.instanceMethod yX0_stands : Cond) ∈ AL := AL_2 92 rfl rfl
theorem wq333 : (.selects RX0 yX0_stands yX0_stands : Cond) ∈ AL := AL_2 93 rfl rfl
theorem wq334 : (.code yX0_stands cX0_stands 1 (some .boolean) : Cond) ∈ AL := AL_2 94 rfl rfl
theorem wq335 : (.methodLink RX4 136 yX4_moveWater : Cond) ∈ AL := AL_2 95 rfl rfl
theorem wq337 : (.instanceMethod yX4_moveWater : Cond) ∈ AL := AL_2 97 rfl rfl
theorem wq338 : (.code yX4_moveWater cX4_moveWater 4 (none : Option Jvm.ClassFile.FieldType) : Cond) ∈ AL := AL_2 98 rfl rfl
theorem wq339 : (.methodLink RX4 159 yX4_nextToAsk : Cond) ∈ AL := AL_2 99 rfl rfl
theorem wq341 : (.instanceMethod yX4_nextToAsk : Cond) ∈ AL := AL_2 101 rfl rfl
theorem wq342 : (.code yX4_nextToAsk cX4_nextToAsk 2 (some .int) : Cond) ∈ AL := AL_2 102 rfl rfl
theorem wq343 : (.methodLink RX4 171 yX4_waitsForWater : Cond) ∈ AL := AL_2 103 rfl rfl
theorem wq345 : (.instanceMethod yX4_waitsForWater : Cond) ∈ AL := AL_2 105 rfl rfl
theorem wq346 : (.code yX4_waitsForWater cX4_waitsForWater 4 (some .boolean) : Cond) ∈ AL := AL_2 106 rfl rfl
theorem wq347 : (.methodLink RX4 129 yX4_isEngine : Cond) ∈ AL := AL_2 107 rfl rfl
theorem wq349 : (.instanceMethod yX4_isEngine : Cond) ∈ AL := AL_2 109 rfl rfl
theorem wq350 : (.code yX4_isEngine cX4_isEngine 2 (some .boolean) : Cond) ∈ AL := AL_2 110 rfl rfl
theorem wq351 : (.methodLink RX4 162 yX4_ask : Cond) ∈ AL := AL_2 111 rfl rfl
theorem wq353 : (.instanceMethod yX4_ask : Cond) ∈ AL := AL_2 113 rfl rfl
theorem wq354 : (.code yX4_ask cX4_ask 5 (none : Option Jvm.ClassFile.FieldType) : Cond) ∈ AL := AL_2 114 rfl rfl
theorem wq355 : (.methodLink RX4 101 yX0_canPump : Cond) ∈ AL := AL_2 115 rfl rfl
theorem wq356 : (.instanceMethod yX0_canPump : Cond) ∈ AL := AL_2 116 rfl rfl
theorem wq357 : (.selects RX0 yX0_canPump yX0_canPump : Cond) ∈ AL := AL_2 117 rfl rfl
theorem wq358 : (.code yX0_canPump cX0_canPump 1 (some .int) : Cond) ∈ AL := AL_2 118 rfl rfl
theorem wq359 : (.methodLink RX4 94 yX4_pondBy : Cond) ∈ AL := AL_2 119 rfl rfl
theorem wq361 : (.instanceMethod yX4_pondBy : Cond) ∈ AL := AL_2 121 rfl rfl
theorem wq362 : (.code yX4_pondBy cX4_pondBy 3 (some .int) : Cond) ∈ AL := AL_2 122 rfl rfl
theorem wq363 : (.methodLink RX4 124 yX0_stands : Cond) ∈ AL := AL_2 123 rfl rfl
theorem wq365 : (.static yX5_areNear : Cond) ∈ AL := AL_2 125 rfl rfl
theorem wq366 : (.code yX5_areNear cX5_areNear 4 (some .boolean) : Cond) ∈ AL := AL_2 126 rfl rfl
theorem wq367 : (.methodLink RX4 174 yX3_giveUpTo : Cond) ∈ AL := AL_2 127 rfl rfl
theorem wq368 : (.instanceMethod yX3_giveUpTo : Cond) ∈ AL := AL_2 128 rfl rfl
theorem wq369 : (.selects RX3 yX3_giveUpTo yX3_giveUpTo : Cond) ∈ AL := AL_2 129 rfl rfl
theorem wq370 : (.code yX3_giveUpTo cX3_giveUpTo 3 (some .int) : Cond) ∈ AL := AL_2 130 rfl rfl
theorem wq371 : (.methodLink RX3 16 Lib.Math.min.name : Cond) ∈ AL := AL_2 131 rfl rfl
theorem wq372 : (.methodLink RX3 22 Lib.Math.max.name : Cond) ∈ AL := AL_2 132 rfl rfl
theorem wq373 : (.methodLink RX4 177 Lib.Math.min.name : Cond) ∈ AL := AL_2 133 rfl rfl
theorem wq374 : (.methodLink RX4 165 yX4_sendThroughHose : Cond) ∈ AL := AL_2 134 rfl rfl
theorem wq376 : (.instanceMethod yX4_sendThroughHose : Cond) ∈ AL := AL_2 136 rfl rfl
theorem wq377 : (.code yX4_sendThroughHose cX4_sendThroughHose 4 (none : Option Jvm.ClassFile.FieldType) : Cond) ∈ AL := AL_2 137 rfl rfl
theorem wq379 : (.static yX5_distance : Cond) ∈ AL := AL_2 139 rfl rfl
theorem wq380 : (.code yX5_distance cX5_distance 2 (some .int) : Cond) ∈ AL := AL_2 140 rfl rfl
theorem wq381 : (.methodLink RX5 217 Lib.Math.abs.name : Cond) ∈ AL := AL_2 141 rfl rfl
theorem wq382 : (.static Lib.Math.abs.name : Cond) ∈ AL := AL_2 142 rfl rfl
theorem wq383 : (.code Lib.Math.abs.name cJ9_abs_0f7a4 1 (some .int) : Cond) ∈ AL := AL_2 143 rfl rfl
theorem wq384 : (.methodLink RX4 186 yX4_arriving : Cond) ∈ AL := AL_2 144 rfl rfl
theorem wq385 : (.static yX4_arriving : Cond) ∈ AL := AL_2 145 rfl rfl
theorem wq386 : (.code yX4_arriving cX4_arriving 2 (some .int) : Cond) ∈ AL := AL_2 146 rfl rfl
theorem wq387 : (.methodLink RX4 189 yX4_isHouse : Cond) ∈ AL := AL_2 147 rfl rfl
theorem wq389 : (.instanceMethod yX4_isHouse : Cond) ∈ AL := AL_2 149 rfl rfl
theorem wq390 : (.code yX4_isHouse cX4_isHouse 2 (some .boolean) : Cond) ∈ AL := AL_2 150 rfl rfl
theorem wq391 : (.methodLink RX4 192 yX2_takeWater : Cond) ∈ AL := AL_2 151 rfl rfl
theorem wq392 : (.instanceMethod yX2_takeWater : Cond) ∈ AL := AL_2 152 rfl rfl
theorem wq393 : (.selects RX2 yX2_takeWater yX2_takeWater : Cond) ∈ AL := AL_2 153 rfl rfl
theorem wq394 : (.code yX2_takeWater cX2_takeWater 2 (none : Option Jvm.ClassFile.FieldType) : Cond) ∈ AL := AL_2 154 rfl rfl
theorem wq395 : (.methodLink RX4 168 yX0_spendSteam : Cond) ∈ AL := AL_2 155 rfl rfl
theorem wq396 : (.instanceMethod yX0_spendSteam : Cond) ∈ AL := AL_2 156 rfl rfl
theorem wq397 : (.selects RX0 yX0_spendSteam yX0_spendSteam : Cond) ∈ AL := AL_2 157 rfl rfl
theorem wq398 : (.code yX0_spendSteam cX0_spendSteam 1 (none : Option Jvm.ClassFile.FieldType) : Cond) ∈ AL := AL_2 158 rfl rfl
theorem wq399 : (.methodLink RX4 139 yX2_burnAMinute : Cond) ∈ AL := AL_2 159 rfl rfl
theorem wq400 : (.instanceMethod yX2_burnAMinute : Cond) ∈ AL := AL_2 160 rfl rfl
theorem wq401 : (.selects RX2 yX2_burnAMinute yX2_burnAMinute : Cond) ∈ AL := AL_2 161 rfl rfl
theorem wq402 : (.code yX2_burnAMinute cX2_burnAMinute 1 (none : Option Jvm.ClassFile.FieldType) : Cond) ∈ AL := AL_2 162 rfl rfl
theorem wq403 : (.methodLink RX2 33 Lib.Math.min.name : Cond) ∈ AL := AL_2 163 rfl rfl
theorem wq404 : (.methodLink RX2 39 yX2_endFire : Cond) ∈ AL := AL_2 164 rfl rfl
theorem wq406 : (.instanceMethod yX2_endFire : Cond) ∈ AL := AL_2 166 rfl rfl
theorem wq407 : (.code yX2_endFire cX2_endFire 2 (none : Option Jvm.ClassFile.FieldType) : Cond) ∈ AL := AL_2 167 rfl rfl
theorem wq408 : (.methodLink RX2 43 Lib.Math.max.name : Cond) ∈ AL := AL_2 168 rfl rfl
theorem wq409 : (.methodLink RX4 142 yX4_catchFire : Cond) ∈ AL := AL_2 169 rfl rfl
theorem wq411 : (.instanceMethod yX4_catchFire : Cond) ∈ AL := AL_2 171 rfl rfl
theorem wq412 : (.code yX4_catchFire cX4_catchFire 4 (some .int) : Cond) ∈ AL := AL_2 172 rfl rfl
theorem wq413 : (.methodLink RX4 196 yX4_heatNear : Cond) ∈ AL := AL_2 173 rfl rfl
theorem wq414 : (.instanceMethod yX4_heatNear : Cond) ∈ AL := AL_2 174 rfl rfl
theorem wq415 : (.selects RX4 yX4_heatNear yX4_heatNear : Cond) ∈ AL := AL_2 175 rfl rfl
theorem wq416 : (.code yX4_heatNear cX4_heatNear 5 (some .int) : Cond) ∈ AL := AL_2 176 rfl rfl
theorem wq417 : (.methodLink RL 146 yX5_walls : Cond) ∈ AL := AL_2 177 rfl rfl
theorem wq418 : (.instanceMethod yX5_walls : Cond) ∈ AL := AL_2 178 rfl rfl
theorem wq419 : (.selects RX5 yX5_walls yX5_walls : Cond) ∈ AL := AL_2 179 rfl rfl
theorem wq420 : (.code yX5_walls cX5_walls 4 (some .double) : Cond) ∈ AL := AL_2 180 rfl rfl
theorem wq421 : (.methodLink RX5 46 yJx4a65c_size_8abf5 : Cond) ∈ AL := AL_2 181 rfl rfl
theorem wq422 : (.methodLink RX5 78 yJx4a65c_get_915e3 : Cond) ∈ AL := AL_2 182 rfl rfl
theorem wq423 : (.classLink RX5 56 RX2 : Cond) ∈ AL := AL_2 183 rfl rfl
theorem wq424 : (.methodLink RL 151 yX5_digest : Cond) ∈ AL := AL_2 184 rfl rfl
theorem wq425 : (.instanceMethod yX5_digest : Cond) ∈ AL := AL_2 185 rfl rfl
theorem wq426 : (.selects RX5 yX5_digest yX5_digest : Cond) ∈ AL := AL_2 186 rfl rfl
theorem wq427 : (.code yX5_digest cX5_digest 5 (some .long) : Cond) ∈ AL := AL_2 187 rfl rfl
theorem wq428 : (.constantLong RX5 188 (607) : Cond) ∈ AL := AL_2 188 rfl rfl
theorem wq429 : (.constantLong RX5 190 (31) : Cond) ∈ AL := AL_2 189 rfl rfl
theorem wq430 : (.methodLink RX5 173 yX4_tell : Cond) ∈ AL := AL_2 190 rfl rfl
theorem wq431 : (.instanceMethod yX4_tell : Cond) ∈ AL := AL_2 191 rfl rfl
theorem wq432 : (.selects RX4 yX4_tell yX4_tell : Cond) ∈ AL := AL_2 192 rfl rfl
theorem wq433 : (.code yX4_tell cX4_tell 2 (some .int) : Cond) ∈ AL := AL_2 193 rfl rfl
theorem wq434 : (.methodLink RX4 63 yX4_housesThatAre : Cond) ∈ AL := AL_2 194 rfl rfl
theorem wq435 : (.methodLink RX4 67 yX4_waterOfPonds : Cond) ∈ AL := AL_2 195 rfl rfl
theorem wq437 : (.instanceMethod yX4_waterOfPonds : Cond) ∈ AL := AL_2 197 rfl rfl
theorem wq438 : (.code yX4_waterOfPonds cX4_waterOfPonds 3 (some .int) : Cond) ∈ AL := AL_2 198 rfl rfl
theorem wq439 : (.methodLink RX4 70 yX4_sumOverHouses : Cond) ∈ AL := AL_2 199 rfl rfl
theorem wq441 : (.instanceMethod yX4_sumOverHouses : Cond) ∈ AL := AL_2 201 rfl rfl
theorem wq442 : (.code yX4_sumOverHouses cX4_sumOverHouses 4 (some .int) : Cond) ∈ AL := AL_2 202 rfl rfl
theorem wq443 : (.methodLink RX4 107 yX2_tell : Cond) ∈ AL := AL_2 203 rfl rfl
theorem wq444 : (.instanceMethod yX2_tell : Cond) ∈ AL := AL_2 204 rfl rfl
theorem wq445 : (.selects RX2 yX2_tell yX2_tell : Cond) ∈ AL := AL_2 205 rfl rfl
theorem wq446 : (.code yX2_tell cX2_tell 2 (some .int) : Cond) ∈ AL := AL_2 206 rfl rfl
theorem wq447 : (.methodLink RX5 108 yX2_tell : Cond) ∈ AL := AL_2 207 rfl rfl
theorem wq448 : (.classLink RX5 70 RX3 : Cond) ∈ AL := AL_2 208 rfl rfl
theorem wq449 : (.classLink RX5 117 RX0 : Cond) ∈ AL := AL_2 209 rfl rfl
theorem wq450 : (.methodLink RX5 156 yX4_tellEngine : Cond) ∈ AL := AL_2 210 rfl rfl
theorem wq451 : (.instanceMethod yX4_tellEngine : Cond) ∈ AL := AL_2 211 rfl rfl
theorem wq452 : (.selects RX4 yX4_tellEngine yX4_tellEngine : Cond) ∈ AL := AL_2 212 rfl rfl
theorem wq453 : (.code yX4_tellEngine cX4_tellEngine 3 (some .int) : Cond) ∈ AL := AL_2 213 rfl rfl
theorem wq454 : (.methodLink RL 78 yL_build : Cond) ∈ AL := AL_2 214 rfl rfl
theorem wq455 : (.static yL_build : Cond) ∈ AL := AL_2 215 rfl rfl
theorem wq456 : (.codeWith yL_build cL_build 7 (some .int) [(0, 14, 17, 13), (0, 14, 21, 15), (0, 14, 25, 17)] : Cond) ∈ AL := AL_2 216 rfl rfl
theorem wq457 : (.classLink RL 13 "java/lang/IndexOutOfBoundsException" : Cond) ∈ AL := AL_2 217 rfl rfl
theorem wq458 : (.classLink RL 15 "java/lang/IllegalArgumentException" : Cond) ∈ AL := AL_2 218 rfl rfl
theorem wq459 : (.classLink RL 17 "java/lang/IllegalStateException" : Cond) ∈ AL := AL_2 219 rfl rfl
theorem wq460 : (.methodLink RL 7 yX5_build : Cond) ∈ AL := AL_2 220 rfl rfl
theorem wq461 : (.instanceMethod yX5_build : Cond) ∈ AL := AL_2 221 rfl rfl
theorem wq462 : (.selects RX5 yX5_build yX5_build : Cond) ∈ AL := AL_2 222 rfl rfl
theorem wq463 : (.code yX5_build cX5_build 7 (some .int) : Cond) ∈ AL := AL_2 223 rfl rfl
theorem wq464 : (.methodLink RX5 26 yX5_requireCell : Cond) ∈ AL := AL_2 224 rfl rfl
theorem wq465 : (.static yX5_requireCell : Cond) ∈ AL := AL_2 225 rfl rfl
theorem wq466 : (.code yX5_requireCell cX5_requireCell 2 (none : Option Jvm.ClassFile.FieldType) : Cond) ∈ AL := AL_2 226 rfl rfl
theorem wq467 : (.methodLink RX5 200 yX5_isOnMap : Cond) ∈ AL := AL_2 227 rfl rfl
theorem wq468 : (.static yX5_isOnMap : Cond) ∈ AL := AL_2 228 rfl rfl
theorem wq469 : (.code yX5_isOnMap cX5_isOnMap 2 (some .boolean) : Cond) ∈ AL := AL_2 229 rfl rfl
theorem wq470 : (.classLink RX5 160 "java/lang/IndexOutOfBoundsException" : Cond) ∈ AL := AL_2 230 rfl rfl
theorem wq471 : (.instantiable "java/lang/IndexOutOfBoundsException" 6 : Cond) ∈ AL := AL_2 231 rfl rfl
theorem wq479 : (.selects "java/lang/IndexOutOfBoundsException" ⟨"java/lang/Throwable", "fillInStackTrace", "(I)Ljava/lang/Throwable;"⟩ ⟨"java/lang/Throwable", "fillInStackTrace", "(I)Ljava/lang/Throwable;"⟩ : Cond) ∈ AL := AL_2 239 rfl rfl
theorem wq480 : (.selects "java/lang/IndexOutOfBoundsException" ⟨"java/lang/Throwable", "fillInStackTrace", "()Ljava/lang/Throwable;"⟩ ⟨"java/lang/Throwable", "fillInStackTrace", "()Ljava/lang/Throwable;"⟩ : Cond) ∈ AL := AL_3 0 rfl rfl
theorem wq481 : (.lays "java/lang/IndexOutOfBoundsException" "java/lang/Throwable" "cause" "Ljava/lang/Throwable;" : Cond) ∈ AL := AL_3 1 rfl rfl
theorem wq482 : (.lays "java/lang/Throwable" "java/lang/Throwable" "cause" "Ljava/lang/Throwable;" : Cond) ∈ AL := AL_3 2 rfl rfl
theorem wq483 : (.lays "java/lang/IndexOutOfBoundsException" "java/lang/Throwable" "stackTrace" "[Ljava/lang/StackTraceElement;" : Cond) ∈ AL := AL_3 3 rfl rfl
theorem wq484 : (.lays "java/lang/Throwable" "java/lang/Throwable" "stackTrace" "[Ljava/lang/StackTraceElement;" : Cond) ∈ AL := AL_3 4 rfl rfl
theorem wq485 : (.lays "java/lang/IndexOutOfBoundsException" "java/lang/Throwable" "suppressedExceptions" "Ljava/util/List;" : Cond) ∈ AL := AL_3 5 rfl rfl
theorem wq486 : (.lays "java/lang/Throwable" "java/lang/Throwable" "suppressedExceptions" "Ljava/util/List;" : Cond) ∈ AL := AL_3 6 rfl rfl
theorem wq487 : (.lays "java/lang/IndexOutOfBoundsException" "java/lang/Throwable" "detailMessage" "Ljava/lang/String;" : Cond) ∈ AL := AL_3 7 rfl rfl
theorem wq488 : (.lays "java/lang/Throwable" "java/lang/Throwable" "detailMessage" "Ljava/lang/String;" : Cond) ∈ AL := AL_3 8 rfl rfl
theorem wq489 : (.lays "java/lang/IndexOutOfBoundsException" "java/lang/Throwable" "backtrace" "Ljava/lang/Object;" : Cond) ∈ AL := AL_3 9 rfl rfl
theorem wq490 : (.lays "java/lang/Throwable" "java/lang/Throwable" "backtrace" "Ljava/lang/Object;" : Cond) ∈ AL := AL_3 10 rfl rfl
theorem wq491 : (.fieldLink "java/lang/Throwable" 198 "java/lang/Throwable" "backtrace" "Ljava/lang/Object;" : Cond) ∈ AL := AL_3 11 rfl rfl
theorem wq493 : (.instanceMethod ⟨"java/lang/Throwable", "<init>", "()V"⟩ : Cond) ∈ AL := AL_3 13 rfl rfl
theorem wq494 : (.code ⟨"java/lang/Throwable", "<init>", "()V"⟩ prog_20_method_1_code 1 (none : Option Jvm.ClassFile.FieldType) : Cond) ∈ AL := AL_3 14 rfl rfl
theorem wq495 : (.methodLink "java/lang/Throwable" 1 objectInit : Cond) ∈ AL := AL_3 15 rfl rfl
theorem wq496 : (.fieldLink "java/lang/Throwable" 13 "java/lang/Throwable" "UNASSIGNED_STACK" "[Ljava/lang/StackTraceElement;" : Cond) ∈ AL := AL_3 16 rfl rfl
theorem wt497 : (.laysStatic "java/lang/Throwable" "UNASSIGNED_STACK" "[Ljava/lang/StackTraceElement;" : Cond) ∈ lw_tbl := AT_3 17 rfl
theorem wq498 : (.fieldLink "java/lang/Throwable" 20 "java/lang/Throwable" "SUPPRESSED_SENTINEL" "Ljava/util/List;" : Cond) ∈ AL := AL_3 18 rfl rfl
theorem wt499 : (.laysStatic "java/lang/Throwable" "SUPPRESSED_SENTINEL" "Ljava/util/List;" : Cond) ∈ lw_tbl := AT_3 19 rfl
theorem wq500 : (.methodLink "java/lang/Throwable" 27 ⟨"java/lang/Throwable", "fillInStackTrace", "()Ljava/lang/Throwable;"⟩ : Cond) ∈ AL := AL_3 20 rfl rfl
theorem wq501 : (.instanceMethod ⟨"java/lang/Throwable", "fillInStackTrace", "()Ljava/lang/Throwable;"⟩ : Cond) ∈ AL := AL_3 21 rfl rfl
theorem wq502 : (.sameMethod "java/lang/Throwable" "java/lang/Throwable" "fillInStackTrace" "()Ljava/lang/Throwable;" : Cond) ∈ AL := AL_3 22 rfl rfl
theorem wq503 : (.selects "java/lang/IllegalArgumentException" ⟨"java/lang/Throwable", "fillInStackTrace", "()Ljava/lang/Throwable;"⟩ ⟨"java/lang/Throwable", "fillInStackTrace", "()Ljava/lang/Throwable;"⟩ : Cond) ∈ AL := AL_3 23 rfl rfl
theorem wq504 : (.selects "java/lang/IllegalStateException" ⟨"java/lang/Throwable", "fillInStackTrace", "()Ljava/lang/Throwable;"⟩ ⟨"java/lang/Throwable", "fillInStackTrace", "()Ljava/lang/Throwable;"⟩ : Cond) ∈ AL := AL_3 24 rfl rfl
theorem wq505 : (.codeSync ⟨"java/lang/Throwable", "fillInStackTrace", "()Ljava/lang/Throwable;"⟩ prog_20_method_18_code 1 (some (.object "java/lang/Throwable")) : Cond) ∈ AL := AL_3 25 rfl rfl
theorem wq506 : (.methodLink "java/lang/Throwable" 202 ⟨"java/lang/Throwable", "fillInStackTrace", "(I)Ljava/lang/Throwable;"⟩ : Cond) ∈ AL := AL_3 26 rfl rfl
theorem wq508 : (.instanceMethod ⟨"java/lang/Throwable", "fillInStackTrace", "(I)Ljava/lang/Throwable;"⟩ : Cond) ∈ AL := AL_3 28 rfl rfl
theorem wq509 : (.instantiable "java/lang/Throwable" 6 : Cond) ∈ AL := AL_3 29 rfl rfl
theorem wq510 : (.native ⟨"java/lang/Throwable", "fillInStackTrace", "(I)Ljava/lang/Throwable;"⟩ : Cond) ∈ AL := AL_3 30 rfl rfl
theorem wq512 : (.methodLink RX5 164 ⟨"java/lang/IndexOutOfBoundsException", "<init>", "(Ljava/lang/String;)V"⟩ : Cond) ∈ AL := AL_3 32 rfl rfl
theorem wq513 : (.instanceMethod ⟨"java/lang/IndexOutOfBoundsException", "<init>", "(Ljava/lang/String;)V"⟩ : Cond) ∈ AL := AL_3 33 rfl rfl
theorem wq514 : (.code ⟨"java/lang/IndexOutOfBoundsException", "<init>", "(Ljava/lang/String;)V"⟩ prog_14_method_2_code 2 (none : Option Jvm.ClassFile.FieldType) : Cond) ∈ AL := AL_3 34 rfl rfl
theorem wq515 : (.methodLink "java/lang/IndexOutOfBoundsException" 7 ⟨"java/lang/RuntimeException", "<init>", "(Ljava/lang/String;)V"⟩ : Cond) ∈ AL := AL_3 35 rfl rfl
theorem wq516 : (.instanceMethod ⟨"java/lang/RuntimeException", "<init>", "(Ljava/lang/String;)V"⟩ : Cond) ∈ AL := AL_3 36 rfl rfl
theorem wq517 : (.code ⟨"java/lang/RuntimeException", "<init>", "(Ljava/lang/String;)V"⟩ prog_17_method_2_code 2 (none : Option Jvm.ClassFile.FieldType) : Cond) ∈ AL := AL_3 37 rfl rfl
theorem wq518 : (.methodLink "java/lang/RuntimeException" 7 ⟨"java/lang/Exception", "<init>", "(Ljava/lang/String;)V"⟩ : Cond) ∈ AL := AL_3 38 rfl rfl
theorem wq519 : (.instanceMethod ⟨"java/lang/Exception", "<init>", "(Ljava/lang/String;)V"⟩ : Cond) ∈ AL := AL_3 39 rfl rfl
theorem wq520 : (.code ⟨"java/lang/Exception", "<init>", "(Ljava/lang/String;)V"⟩ prog_11_method_2_code 2 (none : Option Jvm.ClassFile.FieldType) : Cond) ∈ AL := AL_3 40 rfl rfl
theorem wq521 : (.methodLink "java/lang/Exception" 7 ⟨"java/lang/Throwable", "<init>", "(Ljava/lang/String;)V"⟩ : Cond) ∈ AL := AL_3 41 rfl rfl
theorem wq522 : (.instanceMethod ⟨"java/lang/Throwable", "<init>", "(Ljava/lang/String;)V"⟩ : Cond) ∈ AL := AL_3 42 rfl rfl
theorem wq523 : (.code ⟨"java/lang/Throwable", "<init>", "(Ljava/lang/String;)V"⟩ prog_20_method_2_code 2 (none : Option Jvm.ClassFile.FieldType) : Cond) ∈ AL := AL_3 43 rfl rfl
theorem wq524 : (.fieldLink "java/lang/Throwable" 198 "java/lang/Throwable" "backtrace" "Ljava/lang/Object;" : Cond) ∈ AL := AL_3 44 rfl rfl
theorem wq525 : (.fieldLink "java/lang/Throwable" 31 "java/lang/Throwable" "detailMessage" "Ljava/lang/String;" : Cond) ∈ AL := AL_3 45 rfl rfl
theorem wq526 : (.fieldLink "java/lang/Throwable" 7 "java/lang/Throwable" "cause" "Ljava/lang/Throwable;" : Cond) ∈ AL := AL_3 46 rfl rfl
theorem wq527 : (.fieldLink "java/lang/Throwable" 17 "java/lang/Throwable" "stackTrace" "[Ljava/lang/StackTraceElement;" : Cond) ∈ AL := AL_3 47 rfl rfl
theorem wq528 : (.fieldLink "java/lang/Throwable" 24 "java/lang/Throwable" "suppressedExceptions" "Ljava/util/List;" : Cond) ∈ AL := AL_3 48 rfl rfl
theorem wq533 : (.lays "java/lang/IndexOutOfBoundsException" "java/lang/Throwable" "depth" "I" : Cond) ∈ AL := AL_3 53 rfl rfl
theorem wq537 : (.arrayClass .byte : Cond) ∈ AL := AL_3 57 rfl rfl
theorem wq538 : (.methodLink RX5 30 yX5_requireRange : Cond) ∈ AL := AL_3 58 rfl rfl
theorem wq539 : (.static yX5_requireRange : Cond) ∈ AL := AL_3 59 rfl rfl
theorem wq540 : (.code yX5_requireRange cX5_requireRange 3 (none : Option Jvm.ClassFile.FieldType) : Cond) ∈ AL := AL_3 60 rfl rfl
theorem wq541 : (.classLink RX5 207 "java/lang/IllegalArgumentException" : Cond) ∈ AL := AL_3 61 rfl rfl
theorem wq542 : (.instantiable "java/lang/IllegalArgumentException" 6 : Cond) ∈ AL := AL_3 62 rfl rfl
theorem wq544 : (.selects "java/lang/IllegalArgumentException" ⟨"java/lang/Throwable", "fillInStackTrace", "(I)Ljava/lang/Throwable;"⟩ ⟨"java/lang/Throwable", "fillInStackTrace", "(I)Ljava/lang/Throwable;"⟩ : Cond) ∈ AL := AL_3 64 rfl rfl
theorem wq545 : (.lays "java/lang/IllegalArgumentException" "java/lang/Throwable" "cause" "Ljava/lang/Throwable;" : Cond) ∈ AL := AL_3 65 rfl rfl
theorem wq546 : (.lays "java/lang/IllegalArgumentException" "java/lang/Throwable" "stackTrace" "[Ljava/lang/StackTraceElement;" : Cond) ∈ AL := AL_3 66 rfl rfl
theorem wq547 : (.lays "java/lang/IllegalArgumentException" "java/lang/Throwable" "suppressedExceptions" "Ljava/util/List;" : Cond) ∈ AL := AL_3 67 rfl rfl
theorem wq548 : (.lays "java/lang/IllegalArgumentException" "java/lang/Throwable" "detailMessage" "Ljava/lang/String;" : Cond) ∈ AL := AL_3 68 rfl rfl
theorem wq549 : (.lays "java/lang/IllegalArgumentException" "java/lang/Throwable" "backtrace" "Ljava/lang/Object;" : Cond) ∈ AL := AL_3 69 rfl rfl
theorem wq551 : (.methodLink RX5 211 ⟨"java/lang/IllegalArgumentException", "<init>", "(Ljava/lang/String;)V"⟩ : Cond) ∈ AL := AL_3 71 rfl rfl
theorem wq552 : (.instanceMethod ⟨"java/lang/IllegalArgumentException", "<init>", "(Ljava/lang/String;)V"⟩ : Cond) ∈ AL := AL_3 72 rfl rfl
theorem wq553 : (.code ⟨"java/lang/IllegalArgumentException", "<init>", "(Ljava/lang/String;)V"⟩ prog_12_method_2_code 2 (none : Option Jvm.ClassFile.FieldType) : Cond) ∈ AL := AL_3 73 rfl rfl
theorem wq554 : (.methodLink "java/lang/IllegalArgumentException" 7 ⟨"java/lang/RuntimeException", "<init>", "(Ljava/lang/String;)V"⟩ : Cond) ∈ AL := AL_3 74 rfl rfl
theorem wq555 : (.lays "java/lang/IllegalArgumentException" "java/lang/Throwable" "depth" "I" : Cond) ∈ AL := AL_3 75 rfl rfl
theorem wq557 : (.methodLink RX5 34 yX5_cellAt : Cond) ∈ AL := AL_3 77 rfl rfl
theorem wq558 : (.static yX5_cellAt : Cond) ∈ AL := AL_3 78 rfl rfl
theorem wq559 : (.code yX5_cellAt cX5_cellAt 2 (some .int) : Cond) ∈ AL := AL_3 79 rfl rfl
theorem wq560 : (.methodLink RX5 38 yX5_isFree : Cond) ∈ AL := AL_3 80 rfl rfl
theorem wq562 : (.instanceMethod yX5_isFree : Cond) ∈ AL := AL_3 82 rfl rfl
theorem wq563 : (.code yX5_isFree cX5_isFree 2 (some .boolean) : Cond) ∈ AL := AL_3 83 rfl rfl
theorem wq564 : (.methodLink RX5 111 yX1_isStreet : Cond) ∈ AL := AL_3 84 rfl rfl
theorem wq565 : (.instanceMethod yX1_isStreet : Cond) ∈ AL := AL_3 85 rfl rfl
theorem wq566 : (.selects RX1 yX1_isStreet yX1_isStreet : Cond) ∈ AL := AL_3 86 rfl rfl
theorem wq567 : (.code yX1_isStreet cX1_isStreet 2 (some .boolean) : Cond) ∈ AL := AL_3 87 rfl rfl
theorem wq568 : (.methodLink RX1 25 yX1_kindOf : Cond) ∈ AL := AL_3 88 rfl rfl
theorem wq569 : (.instanceMethod yX1_kindOf : Cond) ∈ AL := AL_3 89 rfl rfl
theorem wq570 : (.selects RX1 yX1_kindOf yX1_kindOf : Cond) ∈ AL := AL_3 90 rfl rfl
theorem wq571 : (.code yX1_kindOf cX1_kindOf 2 (some .int) : Cond) ∈ AL := AL_3 91 rfl rfl
theorem wq572 : (.methodLink RX5 102 yX4_enginesOn : Cond) ∈ AL := AL_3 92 rfl rfl
theorem wq573 : (.instanceMethod yX4_enginesOn : Cond) ∈ AL := AL_3 93 rfl rfl
theorem wq574 : (.selects RX4 yX4_enginesOn yX4_enginesOn : Cond) ∈ AL := AL_3 94 rfl rfl
theorem wq575 : (.code yX4_enginesOn cX4_enginesOn 4 (some .int) : Cond) ∈ AL := AL_3 95 rfl rfl
theorem wq576 : (.methodLink RX5 193 yX4_isGoal : Cond) ∈ AL := AL_3 96 rfl rfl
theorem wq577 : (.instanceMethod yX4_isGoal : Cond) ∈ AL := AL_3 97 rfl rfl
theorem wq578 : (.selects RX4 yX4_isGoal yX4_isGoal : Cond) ∈ AL := AL_3 98 rfl rfl
theorem wq579 : (.code yX4_isGoal cX4_isGoal 3 (some .boolean) : Cond) ∈ AL := AL_3 99 rfl rfl
theorem wq580 : (.methodLink RX5 52 yX5_requireState : Cond) ∈ AL := AL_3 100 rfl rfl
theorem wq581 : (.static yX5_requireState : Cond) ∈ AL := AL_3 101 rfl rfl
theorem wq582 : (.code yX5_requireState cX5_requireState 1 (none : Option Jvm.ClassFile.FieldType) : Cond) ∈ AL := AL_3 102 rfl rfl
theorem wq583 : (.classLink RX5 212 "java/lang/IllegalStateException" : Cond) ∈ AL := AL_3 103 rfl rfl
theorem wq584 : (.instantiable "java/lang/IllegalStateException" 6 : Cond) ∈ AL := AL_3 104 rfl rfl
theorem wq586 : (.selects "java/lang/IllegalStateException" ⟨"java/lang/Throwable", "fillInStackTrace", "(I)Ljava/lang/Throwable;"⟩ ⟨"java/lang/Throwable", "fillInStackTrace", "(I)Ljava/lang/Throwable;"⟩ : Cond) ∈ AL := AL_3 106 rfl rfl
theorem wq587 : (.lays "java/lang/IllegalStateException" "java/lang/Throwable" "cause" "Ljava/lang/Throwable;" : Cond) ∈ AL := AL_3 107 rfl rfl
theorem wq588 : (.lays "java/lang/IllegalStateException" "java/lang/Throwable" "stackTrace" "[Ljava/lang/StackTraceElement;" : Cond) ∈ AL := AL_3 108 rfl rfl
theorem wq589 : (.lays "java/lang/IllegalStateException" "java/lang/Throwable" "suppressedExceptions" "Ljava/util/List;" : Cond) ∈ AL := AL_3 109 rfl rfl
theorem wq590 : (.lays "java/lang/IllegalStateException" "java/lang/Throwable" "detailMessage" "Ljava/lang/String;" : Cond) ∈ AL := AL_3 110 rfl rfl
theorem wq591 : (.lays "java/lang/IllegalStateException" "java/lang/Throwable" "backtrace" "Ljava/lang/Object;" : Cond) ∈ AL := AL_3 111 rfl rfl
theorem wq593 : (.methodLink RX5 216 ⟨"java/lang/IllegalStateException", "<init>", "(Ljava/lang/String;)V"⟩ : Cond) ∈ AL := AL_3 113 rfl rfl
theorem wq594 : (.instanceMethod ⟨"java/lang/IllegalStateException", "<init>", "(Ljava/lang/String;)V"⟩ : Cond) ∈ AL := AL_3 114 rfl rfl
theorem wq595 : (.code ⟨"java/lang/IllegalStateException", "<init>", "(Ljava/lang/String;)V"⟩ prog_13_method_2_code 2 (none : Option Jvm.ClassFile.FieldType) : Cond) ∈ AL := AL_3 115 rfl rfl
theorem wq596 : (.methodLink "java/lang/IllegalStateException" 7 ⟨"java/lang/RuntimeException", "<init>", "(Ljava/lang/String;)V"⟩ : Cond) ∈ AL := AL_3 116 rfl rfl
theorem wq597 : (.lays "java/lang/IllegalStateException" "java/lang/Throwable" "depth" "I" : Cond) ∈ AL := AL_3 117 rfl rfl
theorem wq599 : (.methodLink RX5 58 yX2_init : Cond) ∈ AL := AL_3 119 rfl rfl
theorem wq600 : (.methodLink RX5 60 yJx4a65c_add_9ea2d : Cond) ∈ AL := AL_3 120 rfl rfl
theorem wq601 : (.methodLink RX5 64 yX1_put : Cond) ∈ AL := AL_3 121 rfl rfl
theorem wq602 : (.instanceMethod yX1_put : Cond) ∈ AL := AL_3 122 rfl rfl
theorem wq603 : (.selects RX1 yX1_put yX1_put : Cond) ∈ AL := AL_3 123 rfl rfl
theorem wq604 : (.code yX1_put cX1_put 4 (none : Option Jvm.ClassFile.FieldType) : Cond) ∈ AL := AL_3 124 rfl rfl
theorem wq605 : (.methodLink RX1 21 yX1_isStreet : Cond) ∈ AL := AL_3 125 rfl rfl
theorem wq606 : (.methodLink RL 88 yL_dig : Cond) ∈ AL := AL_3 126 rfl rfl
theorem wq607 : (.static yL_dig : Cond) ∈ AL := AL_3 127 rfl rfl
theorem wq608 : (.codeWith yL_dig cL_dig 6 (some .int) [(0, 12, 15, 13), (0, 12, 19, 15), (0, 12, 23, 17)] : Cond) ∈ AL := AL_3 128 rfl rfl
theorem wq609 : (.methodLink RL 19 yX5_dig : Cond) ∈ AL := AL_3 129 rfl rfl
theorem wq610 : (.instanceMethod yX5_dig : Cond) ∈ AL := AL_3 130 rfl rfl
theorem wq611 : (.selects RX5 yX5_dig yX5_dig : Cond) ∈ AL := AL_3 131 rfl rfl
theorem wq612 : (.code yX5_dig cX5_dig 6 (some .int) : Cond) ∈ AL := AL_3 132 rfl rfl
theorem wq613 : (.methodLink RX5 72 yX3_init : Cond) ∈ AL := AL_3 133 rfl rfl
theorem wq614 : (.methodLink RL 92 yL_light : Cond) ∈ AL := AL_3 134 rfl rfl
theorem wq615 : (.static yL_light : Cond) ∈ AL := AL_3 135 rfl rfl
theorem wq616 : (.codeWith yL_light cL_light 5 (some .int) [(0, 10, 13, 13), (0, 10, 17, 15), (0, 10, 21, 17)] : Cond) ∈ AL := AL_3 136 rfl rfl
theorem wq617 : (.methodLink RL 23 yX5_light : Cond) ∈ AL := AL_3 137 rfl rfl
theorem wq618 : (.instanceMethod yX5_light : Cond) ∈ AL := AL_3 138 rfl rfl
theorem wq619 : (.selects RX5 yX5_light yX5_light : Cond) ∈ AL := AL_3 139 rfl rfl
theorem wq620 : (.code yX5_light cX5_light 4 (some .int) : Cond) ∈ AL := AL_3 140 rfl rfl
theorem wq621 : (.methodLink RX5 74 yX5_requireHouse : Cond) ∈ AL := AL_3 141 rfl rfl
theorem wq623 : (.instanceMethod yX5_requireHouse : Cond) ∈ AL := AL_3 143 rfl rfl
theorem wq624 : (.code yX5_requireHouse cX5_requireHouse 2 (none : Option Jvm.ClassFile.FieldType) : Cond) ∈ AL := AL_3 144 rfl rfl
theorem wq626 : (.methodLink RX5 86 yX2_catchFire : Cond) ∈ AL := AL_3 146 rfl rfl
theorem wq627 : (.instanceMethod yX2_catchFire : Cond) ∈ AL := AL_3 147 rfl rfl
theorem wq628 : (.selects RX2 yX2_catchFire yX2_catchFire : Cond) ∈ AL := AL_3 148 rfl rfl
theorem wq629 : (.code yX2_catchFire cX2_catchFire 2 (none : Option Jvm.ClassFile.FieldType) : Cond) ∈ AL := AL_3 149 rfl rfl
theorem wq630 : (.methodLink RL 96 yL_cell : Cond) ∈ AL := AL_3 150 rfl rfl
theorem wq631 : (.static yL_cell : Cond) ∈ AL := AL_3 151 rfl rfl
theorem wq632 : (.codeWith yL_cell cL_cell 6 (some .int) [(0, 12, 15, 13)] : Cond) ∈ AL := AL_3 152 rfl rfl
theorem wq633 : (.methodLink RL 27 yX5_cell : Cond) ∈ AL := AL_3 153 rfl rfl
theorem wq634 : (.instanceMethod yX5_cell : Cond) ∈ AL := AL_3 154 rfl rfl
theorem wq635 : (.selects RX5 yX5_cell yX5_cell : Cond) ∈ AL := AL_3 155 rfl rfl
theorem wq636 : (.code yX5_cell cX5_cell 5 (some .int) : Cond) ∈ AL := AL_3 156 rfl rfl
theorem wq637 : (.methodLink RX5 93 yX5_requireQuestion : Cond) ∈ AL := AL_3 157 rfl rfl
theorem wq638 : (.static yX5_requireQuestion : Cond) ∈ AL := AL_3 158 rfl rfl
theorem wq639 : (.code yX5_requireQuestion cX5_requireQuestion 2 (none : Option Jvm.ClassFile.FieldType) : Cond) ∈ AL := AL_3 159 rfl rfl
theorem wq641 : (.methodLink RX5 96 yX1_kindOf : Cond) ∈ AL := AL_3 161 rfl rfl
theorem wq642 : (.methodLink RX5 99 yX1_numberOf : Cond) ∈ AL := AL_3 162 rfl rfl
theorem wq643 : (.instanceMethod yX1_numberOf : Cond) ∈ AL := AL_3 163 rfl rfl
theorem wq644 : (.selects RX1 yX1_numberOf yX1_numberOf : Cond) ∈ AL := AL_3 164 rfl rfl
theorem wq645 : (.code yX1_numberOf cX1_numberOf 2 (some .int) : Cond) ∈ AL := AL_3 165 rfl rfl
theorem wq646 : (.methodLink RX5 105 yX4_heatNear : Cond) ∈ AL := AL_3 166 rfl rfl
theorem wq647 : (.methodLink RL 99 yL_house : Cond) ∈ AL := AL_3 167 rfl rfl
theorem wq648 : (.static yL_house : Cond) ∈ AL := AL_3 168 rfl rfl
theorem wq649 : (.codeWith yL_house cL_house 5 (some .int) [(0, 10, 13, 13)] : Cond) ∈ AL := AL_3 169 rfl rfl
theorem wq650 : (.methodLink RL 30 yX5_house : Cond) ∈ AL := AL_3 170 rfl rfl
theorem wq651 : (.instanceMethod yX5_house : Cond) ∈ AL := AL_3 171 rfl rfl
theorem wq652 : (.selects RX5 yX5_house yX5_house : Cond) ∈ AL := AL_3 172 rfl rfl
theorem wq653 : (.code yX5_house cX5_house 3 (some .int) : Cond) ∈ AL := AL_3 173 rfl rfl
theorem wq654 : (.methodLink RL 102 yL_addEngine : Cond) ∈ AL := AL_3 174 rfl rfl
theorem wq655 : (.static yL_addEngine : Cond) ∈ AL := AL_3 175 rfl rfl
theorem wq656 : (.codeWith yL_addEngine cL_addEngine 7 (some .int) [(0, 14, 17, 13), (0, 14, 21, 15), (0, 14, 25, 17)] : Cond) ∈ AL := AL_3 176 rfl rfl
theorem wq657 : (.methodLink RL 33 yX5_addEngine : Cond) ∈ AL := AL_3 177 rfl rfl
theorem wq658 : (.instanceMethod yX5_addEngine : Cond) ∈ AL := AL_3 178 rfl rfl
theorem wq659 : (.selects RX5 yX5_addEngine yX5_addEngine : Cond) ∈ AL := AL_3 179 rfl rfl
theorem wq660 : (.code yX5_addEngine cX5_addEngine 7 (some .int) : Cond) ∈ AL := AL_3 180 rfl rfl
theorem wq661 : (.methodLink RX5 119 yX0_init : Cond) ∈ AL := AL_3 181 rfl rfl
theorem wq662 : (.methodLink RL 105 yL_stoke : Cond) ∈ AL := AL_3 182 rfl rfl
theorem wq663 : (.static yL_stoke : Cond) ∈ AL := AL_3 183 rfl rfl
theorem wq664 : (.codeWith yL_stoke cL_stoke 5 (some .int) [(0, 10, 13, 13), (0, 10, 17, 15), (0, 10, 21, 17)] : Cond) ∈ AL := AL_3 184 rfl rfl
theorem wq665 : (.methodLink RL 36 yX5_stoke : Cond) ∈ AL := AL_3 185 rfl rfl
theorem wq666 : (.instanceMethod yX5_stoke : Cond) ∈ AL := AL_3 186 rfl rfl
theorem wq667 : (.selects RX5 yX5_stoke yX5_stoke : Cond) ∈ AL := AL_3 187 rfl rfl
theorem wq668 : (.code yX5_stoke cX5_stoke 4 (some .int) : Cond) ∈ AL := AL_3 188 rfl rfl
theorem wq669 : (.methodLink RX5 120 yX5_requireEngine : Cond) ∈ AL := AL_3 189 rfl rfl
theorem wq671 : (.instanceMethod yX5_requireEngine : Cond) ∈ AL := AL_3 191 rfl rfl
theorem wq672 : (.code yX5_requireEngine cX5_requireEngine 2 (none : Option Jvm.ClassFile.FieldType) : Cond) ∈ AL := AL_3 192 rfl rfl
theorem wq674 : (.methodLink RL 108 yL_drive : Cond) ∈ AL := AL_3 194 rfl rfl
theorem wq675 : (.static yL_drive : Cond) ∈ AL := AL_3 195 rfl rfl
theorem wq676 : (.codeWith yL_drive cL_drive 6 (some .int) [(0, 12, 15, 13), (0, 12, 19, 17)] : Cond) ∈ AL := AL_3 196 rfl rfl
theorem wq677 : (.methodLink RL 39 yX5_drive : Cond) ∈ AL := AL_3 197 rfl rfl
theorem wq678 : (.instanceMethod yX5_drive : Cond) ∈ AL := AL_3 198 rfl rfl
theorem wq679 : (.selects RX5 yX5_drive yX5_drive : Cond) ∈ AL := AL_3 199 rfl rfl
theorem wq680 : (.code yX5_drive cX5_drive 7 (some .int) : Cond) ∈ AL := AL_3 200 rfl rfl
theorem wq681 : (.methodLink RX5 126 yX0_stands : Cond) ∈ AL := AL_3 201 rfl rfl
theorem wq682 : (.methodLink RX5 133 yX1_stepsBetween : Cond) ∈ AL := AL_3 202 rfl rfl
theorem wq683 : (.instanceMethod yX1_stepsBetween : Cond) ∈ AL := AL_3 203 rfl rfl
theorem wq684 : (.selects RX1 yX1_stepsBetween yX1_stepsBetween : Cond) ∈ AL := AL_3 204 rfl rfl
theorem wq685 : (.code yX1_stepsBetween cX1_stepsBetween 5 (some .int) : Cond) ∈ AL := AL_3 205 rfl rfl
theorem wq686 : (.methodLink RX1 29 yJ7_fill_53178 : Cond) ∈ AL := AL_3 206 rfl rfl
theorem wq687 : (.static yJ7_fill_53178 : Cond) ∈ AL := AL_3 207 rfl rfl
theorem wq688 : (.code yJ7_fill_53178 cJ7_fill_53178 4 (none : Option Jvm.ClassFile.FieldType) : Cond) ∈ AL := AL_3 208 rfl rfl
theorem wq689 : (.methodLink RX1 35 yX1_spread : Cond) ∈ AL := AL_3 209 rfl rfl
theorem wq691 : (.instanceMethod yX1_spread : Cond) ∈ AL := AL_3 211 rfl rfl
theorem wq692 : (.code yX1_spread cX1_spread 6 (some .int) : Cond) ∈ AL := AL_3 212 rfl rfl
theorem wq693 : (.methodLink RX1 38 yX1_enter : Cond) ∈ AL := AL_3 213 rfl rfl
theorem wq695 : (.instanceMethod yX1_enter : Cond) ∈ AL := AL_3 215 rfl rfl
theorem wq696 : (.code yX1_enter cX1_enter 5 (some .int) : Cond) ∈ AL := AL_3 216 rfl rfl
theorem wq699 : (.methodLink RX5 136 yX4_takeUpHosesOfAndTo : Cond) ∈ AL := AL_3 219 rfl rfl
theorem wq700 : (.instanceMethod yX4_takeUpHosesOfAndTo : Cond) ∈ AL := AL_3 220 rfl rfl
theorem wq701 : (.selects RX4 yX4_takeUpHosesOfAndTo yX4_takeUpHosesOfAndTo : Cond) ∈ AL := AL_3 221 rfl rfl
theorem wq702 : (.code yX4_takeUpHosesOfAndTo cX4_takeUpHosesOfAndTo 4 (none : Option Jvm.ClassFile.FieldType) : Cond) ∈ AL := AL_3 222 rfl rfl
theorem wq703 : (.methodLink RX5 139 yX0_setOut : Cond) ∈ AL := AL_3 223 rfl rfl
theorem wq704 : (.instanceMethod yX0_setOut : Cond) ∈ AL := AL_3 224 rfl rfl
theorem wq705 : (.selects RX0 yX0_setOut yX0_setOut : Cond) ∈ AL := AL_3 225 rfl rfl
theorem wq706 : (.code yX0_setOut cX0_setOut 3 (none : Option Jvm.ClassFile.FieldType) : Cond) ∈ AL := AL_3 226 rfl rfl
theorem wq707 : (.methodLink RL 111 yL_relay : Cond) ∈ AL := AL_3 227 rfl rfl
theorem wq708 : (.static yL_relay : Cond) ∈ AL := AL_3 228 rfl rfl
theorem wq709 : (.codeWith yL_relay cL_relay 5 (some .int) [(0, 10, 13, 13), (0, 10, 17, 17)] : Cond) ∈ AL := AL_3 229 rfl rfl
theorem wq710 : (.methodLink RL 42 yX5_relay : Cond) ∈ AL := AL_3 230 rfl rfl
theorem wq711 : (.instanceMethod yX5_relay : Cond) ∈ AL := AL_3 231 rfl rfl
theorem wq712 : (.selects RX5 yX5_relay yX5_relay : Cond) ∈ AL := AL_3 232 rfl rfl
theorem wq713 : (.code yX5_relay cX5_relay 6 (some .int) : Cond) ∈ AL := AL_3 233 rfl rfl
theorem wq714 : (.methodLink RX5 145 yX5_distance : Cond) ∈ AL := AL_3 234 rfl rfl
theorem wq715 : (.methodLink RX5 148 yX4_hosesLead : Cond) ∈ AL := AL_3 235 rfl rfl
theorem wq716 : (.instanceMethod yX4_hosesLead : Cond) ∈ AL := AL_3 236 rfl rfl
theorem wq717 : (.selects RX4 yX4_hosesLead yX4_hosesLead : Cond) ∈ AL := AL_3 237 rfl rfl
theorem wq718 : (.code yX4_hosesLead cX4_hosesLead 5 (some .boolean) : Cond) ∈ AL := AL_3 238 rfl rfl
theorem wq719 : (.methodLink RL 114 yL_aim : Cond) ∈ AL := AL_3 239 rfl rfl
theorem wq720 : (.static yL_aim : Cond) ∈ AL := AL_4 0 rfl rfl
theorem wq721 : (.codeWith yL_aim cL_aim 5 (some .int) [(0, 10, 13, 13), (0, 10, 17, 17)] : Cond) ∈ AL := AL_4 1 rfl rfl
theorem wq722 : (.methodLink RL 45 yX5_aim : Cond) ∈ AL := AL_4 2 rfl rfl
theorem wq723 : (.instanceMethod yX5_aim : Cond) ∈ AL := AL_4 3 rfl rfl
theorem wq724 : (.selects RX5 yX5_aim yX5_aim : Cond) ∈ AL := AL_4 4 rfl rfl
theorem wq725 : (.code yX5_aim cX5_aim 5 (some .int) : Cond) ∈ AL := AL_4 5 rfl rfl
theorem wq726 : (.methodLink RL 117 yL_takeUp : Cond) ∈ AL := AL_4 6 rfl rfl
theorem wq727 : (.static yL_takeUp : Cond) ∈ AL := AL_4 7 rfl rfl
theorem wq728 : (.codeWith yL_takeUp cL_takeUp 4 (some .int) [(0, 16, 19, 13)] : Cond) ∈ AL := AL_4 8 rfl rfl
theorem wq729 : (.methodLink RL 48 yX5_takeUp : Cond) ∈ AL := AL_4 9 rfl rfl
theorem wq730 : (.instanceMethod yX5_takeUp : Cond) ∈ AL := AL_4 10 rfl rfl
theorem wq731 : (.selects RX5 yX5_takeUp yX5_takeUp : Cond) ∈ AL := AL_4 11 rfl rfl
theorem wq732 : (.code yX5_takeUp cX5_takeUp 4 (some .boolean) : Cond) ∈ AL := AL_4 12 rfl rfl
theorem wq733 : (.methodLink RL 121 yL_engine : Cond) ∈ AL := AL_4 13 rfl rfl
theorem wq734 : (.static yL_engine : Cond) ∈ AL := AL_4 14 rfl rfl
theorem wq735 : (.codeWith yL_engine cL_engine 5 (some .int) [(0, 10, 13, 13)] : Cond) ∈ AL := AL_4 15 rfl rfl
theorem wq736 : (.methodLink RL 52 yX5_engine : Cond) ∈ AL := AL_4 16 rfl rfl
theorem wq737 : (.instanceMethod yX5_engine : Cond) ∈ AL := AL_4 17 rfl rfl
theorem wq738 : (.selects RX5 yX5_engine yX5_engine : Cond) ∈ AL := AL_4 18 rfl rfl
theorem wq739 : (.code yX5_engine cX5_engine 3 (some .int) : Cond) ∈ AL := AL_4 19 rfl rfl
theorem wq740 : (.methodLink RL 124 yL_pond : Cond) ∈ AL := AL_4 20 rfl rfl
theorem wq741 : (.static yL_pond : Cond) ∈ AL := AL_4 21 rfl rfl
theorem wq742 : (.codeWith yL_pond cL_pond 4 (some .int) [(0, 9, 12, 13)] : Cond) ∈ AL := AL_4 22 rfl rfl
theorem wq743 : (.methodLink RL 55 yX5_pond : Cond) ∈ AL := AL_4 23 rfl rfl
theorem wq744 : (.instanceMethod yX5_pond : Cond) ∈ AL := AL_4 24 rfl rfl
theorem wq745 : (.selects RX5 yX5_pond yX5_pond : Cond) ∈ AL := AL_4 25 rfl rfl
theorem wq746 : (.code yX5_pond cX5_pond 2 (some .int) : Cond) ∈ AL := AL_4 26 rfl rfl
theorem wq748 : (.methodLink RL 127 yL_pass : Cond) ∈ AL := AL_4 28 rfl rfl
theorem wq749 : (.static yL_pass : Cond) ∈ AL := AL_4 29 rfl rfl
theorem wq750 : (.codeWith yL_pass cL_pass 4 (some .int) [(0, 9, 12, 15)] : Cond) ∈ AL := AL_4 30 rfl rfl
theorem wq751 : (.methodLink RL 59 yX5_pass : Cond) ∈ AL := AL_4 31 rfl rfl
theorem wq752 : (.instanceMethod yX5_pass : Cond) ∈ AL := AL_4 32 rfl rfl
theorem wq753 : (.selects RX5 yX5_pass yX5_pass : Cond) ∈ AL := AL_4 33 rfl rfl
theorem wq754 : (.code yX5_pass cX5_pass 2 (some .int) : Cond) ∈ AL := AL_4 34 rfl rfl
theorem wq755 : (.methodLink RL 130 yL_count : Cond) ∈ AL := AL_4 35 rfl rfl
theorem wq756 : (.static yL_count : Cond) ∈ AL := AL_4 36 rfl rfl
theorem wq757 : (.codeWith yL_count cL_count 4 (some .int) [(0, 9, 12, 13)] : Cond) ∈ AL := AL_4 37 rfl rfl
theorem wq758 : (.methodLink RL 62 yX5_count : Cond) ∈ AL := AL_4 38 rfl rfl
theorem wq759 : (.instanceMethod yX5_count : Cond) ∈ AL := AL_4 39 rfl rfl
theorem wq760 : (.selects RX5 yX5_count yX5_count : Cond) ∈ AL := AL_4 40 rfl rfl
theorem wq761 : (.code yX5_count cX5_count 2 (some .int) : Cond) ∈ AL := AL_4 41 rfl rfl
theorem wq762 : (.methodLink RL 133 yL_foresee : Cond) ∈ AL := AL_4 42 rfl rfl
theorem wq763 : (.static yL_foresee : Cond) ∈ AL := AL_4 43 rfl rfl
theorem wq764 : (.codeWith yL_foresee cL_foresee 5 (some .int) [(0, 10, 13, 15), (0, 10, 17, 13)] : Cond) ∈ AL := AL_4 44 rfl rfl
theorem wq765 : (.methodLink RL 65 yX5_foresee : Cond) ∈ AL := AL_4 45 rfl rfl
theorem wq766 : (.instanceMethod yX5_foresee : Cond) ∈ AL := AL_4 46 rfl rfl
theorem wq767 : (.selects RX5 yX5_foresee yX5_foresee : Cond) ∈ AL := AL_4 47 rfl rfl
theorem wq768 : (.code yX5_foresee cX5_foresee 3 (some .int) : Cond) ∈ AL := AL_4 48 rfl rfl
theorem wq769 : (.methodLink RL 140 yL_weakest : Cond) ∈ AL := AL_4 49 rfl rfl
theorem wq770 : (.static yL_weakest : Cond) ∈ AL := AL_4 50 rfl rfl
theorem wq771 : (.codeWith yL_weakest cL_weakest 4 (some .int) [(0, 9, 12, 13)] : Cond) ∈ AL := AL_4 51 rfl rfl
theorem wq772 : (.methodLink RL 68 yX5_weakest : Cond) ∈ AL := AL_4 52 rfl rfl
theorem wq773 : (.instanceMethod yX5_weakest : Cond) ∈ AL := AL_4 53 rfl rfl
theorem wq774 : (.selects RX5 yX5_weakest yX5_weakest : Cond) ∈ AL := AL_4 54 rfl rfl
theorem wq775 : (.code yX5_weakest cX5_weakest 7 (some .int) : Cond) ∈ AL := AL_4 55 rfl rfl
theorem wq776 : (.methodLink RX5 178 yX0_canPump : Cond) ∈ AL := AL_4 56 rfl rfl
theorem wq777 : (.methodLink RL 143 yL_advise : Cond) ∈ AL := AL_4 57 rfl rfl
theorem wq778 : (.static yL_advise : Cond) ∈ AL := AL_4 58 rfl rfl
theorem wq779 : (.codeWith yL_advise cL_advise 5 (some .int) [(0, 10, 13, 13), (0, 10, 17, 15)] : Cond) ∈ AL := AL_4 59 rfl rfl
theorem wq780 : (.methodLink RL 71 yX5_advise : Cond) ∈ AL := AL_4 60 rfl rfl
theorem wq781 : (.instanceMethod yX5_advise : Cond) ∈ AL := AL_4 61 rfl rfl
theorem wq782 : (.selects RX5 yX5_advise yX5_advise : Cond) ∈ AL := AL_4 62 rfl rfl
theorem wq783 : (.code yX5_advise cX5_advise 10 (some .int) : Cond) ∈ AL := AL_4 63 rfl rfl
theorem wq784 : (.methodLink RX5 181 yX5_fallenIfAimed : Cond) ∈ AL := AL_4 64 rfl rfl
theorem wq786 : (.instanceMethod yX5_fallenIfAimed : Cond) ∈ AL := AL_4 66 rfl rfl
theorem wq787 : (.code yX5_fallenIfAimed cX5_fallenIfAimed 4 (some .int) : Cond) ∈ AL := AL_4 67 rfl rfl
theorem wq788 : (.classLink RL 75 RX6 : Cond) ∈ AL := AL_4 68 rfl rfl
theorem wq789 : (.instantiable RX6 13 : Cond) ∈ AL := AL_4 69 rfl rfl
theorem wq790 : (.methodLink RL 77 yX6_init : Cond) ∈ AL := AL_4 70 rfl rfl
theorem wq791 : (.instanceMethod yX6_init : Cond) ∈ AL := AL_4 71 rfl rfl
theorem wq792 : (.code yX6_init cX6_init 1 (none : Option Jvm.ClassFile.FieldType) : Cond) ∈ AL := AL_4 72 rfl rfl
theorem wq793 : (.methodLink RX6 1 objectInit : Cond) ∈ AL := AL_4 73 rfl rfl
theorem wq794 : (.fieldLink RX6 38 "FireEnginesModel" "thrown" "I" : Cond) ∈ AL := AL_4 74 rfl rfl
theorem wq795 : (.fieldLink RX6 59 "FireEnginesModel" "houses" "I" : Cond) ∈ AL := AL_4 75 rfl rfl
theorem wq796 : (.fieldLink RX6 68 "FireEnginesModel" "ponds" "I" : Cond) ∈ AL := AL_4 76 rfl rfl
theorem wq797 : (.fieldLink RX6 62 "FireEnginesModel" "engines" "I" : Cond) ∈ AL := AL_4 77 rfl rfl
theorem wq798 : (.fieldLink RX6 9 "FireEnginesModel" "pondCells" "[I" : Cond) ∈ AL := AL_4 78 rfl rfl
theorem wq799 : (.fieldLink RX6 13 "FireEnginesModel" "water" "[I" : Cond) ∈ AL := AL_4 79 rfl rfl
theorem wq800 : (.fieldLink RX6 16 "FireEnginesModel" "houseTable" "[I" : Cond) ∈ AL := AL_4 80 rfl rfl
theorem wq801 : (.fieldLink RX6 19 "FireEnginesModel" "engineTable" "[I" : Cond) ∈ AL := AL_4 81 rfl rfl
theorem wq802 : (.fieldLink RX6 22 "FireEnginesModel" "minute" "[I" : Cond) ∈ AL := AL_4 82 rfl rfl
theorem wq803 : (.fieldLink RX6 25 "FireEnginesModel" "comes" "[I" : Cond) ∈ AL := AL_4 83 rfl rfl
theorem wq804 : (.fieldLink RX6 28 "FireEnginesModel" "asked" "[Z" : Cond) ∈ AL := AL_4 84 rfl rfl
theorem wq805 : (.fieldLink RX6 32 "FireEnginesModel" "steps" "[I" : Cond) ∈ AL := AL_4 85 rfl rfl
theorem wq806 : (.fieldLink RX6 35 "FireEnginesModel" "catches" "[Z" : Cond) ∈ AL := AL_4 86 rfl rfl
theorem wq807 : (.lays "FireEnginesModel" "FireEnginesModel" "thrown" "I" : Cond) ∈ AL := AL_4 87 rfl rfl
theorem wq809 : (.lays "FireEnginesModel" "FireEnginesModel" "houses" "I" : Cond) ∈ AL := AL_4 89 rfl rfl
theorem wq811 : (.lays "FireEnginesModel" "FireEnginesModel" "ponds" "I" : Cond) ∈ AL := AL_4 91 rfl rfl
theorem wq813 : (.lays "FireEnginesModel" "FireEnginesModel" "engines" "I" : Cond) ∈ AL := AL_4 93 rfl rfl
theorem wq815 : (.laysFinal "FireEnginesModel" "FireEnginesModel" "pondCells" "[I" : Cond) ∈ AL := AL_4 95 rfl rfl
theorem wq817 : (.laysFinal "FireEnginesModel" "FireEnginesModel" "water" "[I" : Cond) ∈ AL := AL_4 97 rfl rfl
theorem wq819 : (.laysFinal "FireEnginesModel" "FireEnginesModel" "houseTable" "[I" : Cond) ∈ AL := AL_4 99 rfl rfl
theorem wq821 : (.laysFinal "FireEnginesModel" "FireEnginesModel" "engineTable" "[I" : Cond) ∈ AL := AL_4 101 rfl rfl
theorem wq823 : (.laysFinal "FireEnginesModel" "FireEnginesModel" "minute" "[I" : Cond) ∈ AL := AL_4 103 rfl rfl
theorem wq825 : (.laysFinal "FireEnginesModel" "FireEnginesModel" "comes" "[I" : Cond) ∈ AL := AL_4 105 rfl rfl
theorem wq827 : (.laysFinal "FireEnginesModel" "FireEnginesModel" "asked" "[Z" : Cond) ∈ AL := AL_4 107 rfl rfl
theorem wq829 : (.laysFinal "FireEnginesModel" "FireEnginesModel" "steps" "[I" : Cond) ∈ AL := AL_4 109 rfl rfl
theorem wq831 : (.laysFinal "FireEnginesModel" "FireEnginesModel" "catches" "[Z" : Cond) ∈ AL := AL_4 111 rfl rfl
theorem wq834 : (.arrayClass .boolean : Cond) ∈ AL := AL_4 114 rfl rfl
theorem wq835 : (.methodLink RL 84 yX6_thrown : Cond) ∈ AL := AL_4 115 rfl rfl
theorem wq836 : (.instanceMethod yX6_thrown : Cond) ∈ AL := AL_4 116 rfl rfl
theorem wq837 : (.selects RX6 yX6_thrown yX6_thrown : Cond) ∈ AL := AL_4 117 rfl rfl
theorem wq838 : (.code yX6_thrown cX6_thrown 1 (some .int) : Cond) ∈ AL := AL_4 118 rfl rfl
theorem wq839 : (.methodLink RL 83 yX6_build : Cond) ∈ AL := AL_4 119 rfl rfl
theorem wq840 : (.instanceMethod yX6_build : Cond) ∈ AL := AL_4 120 rfl rfl
theorem wq841 : (.selects RX6 yX6_build yX6_build : Cond) ∈ AL := AL_4 121 rfl rfl
theorem wq842 : (.code yX6_build cX6_build 6 (some .int) : Cond) ∈ AL := AL_4 122 rfl rfl
theorem wq843 : (.methodLink RX6 84 yX6_isCell : Cond) ∈ AL := AL_4 123 rfl rfl
theorem wq844 : (.static yX6_isCell : Cond) ∈ AL := AL_4 124 rfl rfl
theorem wq845 : (.code yX6_isCell cX6_isCell 2 (some .boolean) : Cond) ∈ AL := AL_4 125 rfl rfl
theorem wq846 : (.methodLink RX6 42 yX6_isIn : Cond) ∈ AL := AL_4 126 rfl rfl
theorem wq847 : (.static yX6_isIn : Cond) ∈ AL := AL_4 127 rfl rfl
theorem wq848 : (.code yX6_isIn cX6_isIn 3 (some .boolean) : Cond) ∈ AL := AL_4 128 rfl rfl
theorem wq849 : (.methodLink RX6 88 yX6_fail : Cond) ∈ AL := AL_4 129 rfl rfl
theorem wq851 : (.instanceMethod yX6_fail : Cond) ∈ AL := AL_4 131 rfl rfl
theorem wq852 : (.code yX6_fail cX6_fail 2 (some .int) : Cond) ∈ AL := AL_4 132 rfl rfl
theorem wq853 : (.methodLink RX6 91 yX6_isFree : Cond) ∈ AL := AL_4 133 rfl rfl
theorem wq855 : (.instanceMethod yX6_isFree : Cond) ∈ AL := AL_4 135 rfl rfl
theorem wq856 : (.code yX6_isFree cX6_isFree 4 (some .boolean) : Cond) ∈ AL := AL_4 136 rfl rfl
theorem wq857 : (.methodLink RX6 77 yX6_isStreet : Cond) ∈ AL := AL_4 137 rfl rfl
theorem wq859 : (.instanceMethod yX6_isStreet : Cond) ∈ AL := AL_4 139 rfl rfl
theorem wq860 : (.code yX6_isStreet cX6_isStreet 2 (some .boolean) : Cond) ∈ AL := AL_4 140 rfl rfl
theorem wq861 : (.methodLink RX6 71 yX6_houseAt : Cond) ∈ AL := AL_4 141 rfl rfl
theorem wq863 : (.instanceMethod yX6_houseAt : Cond) ∈ AL := AL_4 143 rfl rfl
theorem wq864 : (.code yX6_houseAt cX6_houseAt 3 (some .int) : Cond) ∈ AL := AL_4 144 rfl rfl
theorem wq865 : (.methodLink RX6 65 yX6_ho : Cond) ∈ AL := AL_4 145 rfl rfl
theorem wq867 : (.instanceMethod yX6_ho : Cond) ∈ AL := AL_4 147 rfl rfl
theorem wq868 : (.code yX6_ho cX6_ho 3 (some .int) : Cond) ∈ AL := AL_4 148 rfl rfl
theorem wq869 : (.methodLink RX6 74 yX6_pondAt : Cond) ∈ AL := AL_4 149 rfl rfl
theorem wq871 : (.instanceMethod yX6_pondAt : Cond) ∈ AL := AL_4 151 rfl rfl
theorem wq872 : (.code yX6_pondAt cX6_pondAt 3 (some .int) : Cond) ∈ AL := AL_4 152 rfl rfl
theorem wq873 : (.methodLink RX6 81 yX6_en : Cond) ∈ AL := AL_4 153 rfl rfl
theorem wq875 : (.instanceMethod yX6_en : Cond) ∈ AL := AL_4 155 rfl rfl
theorem wq876 : (.code yX6_en cX6_en 3 (some .int) : Cond) ∈ AL := AL_4 156 rfl rfl
theorem wq877 : (.methodLink RX6 94 arraycopyName : Cond) ∈ AL := AL_4 157 rfl rfl
theorem wq878 : (.methodLink RL 91 yX6_dig : Cond) ∈ AL := AL_4 158 rfl rfl
theorem wq879 : (.instanceMethod yX6_dig : Cond) ∈ AL := AL_4 159 rfl rfl
theorem wq880 : (.selects RX6 yX6_dig yX6_dig : Cond) ∈ AL := AL_4 160 rfl rfl
theorem wq881 : (.code yX6_dig cX6_dig 4 (some .int) : Cond) ∈ AL := AL_4 161 rfl rfl
theorem wq882 : (.methodLink RL 95 yX6_light : Cond) ∈ AL := AL_4 162 rfl rfl
theorem wq883 : (.instanceMethod yX6_light : Cond) ∈ AL := AL_4 163 rfl rfl
theorem wq884 : (.selects RX6 yX6_light yX6_light : Cond) ∈ AL := AL_4 164 rfl rfl
theorem wq885 : (.code yX6_light cX6_light 3 (some .int) : Cond) ∈ AL := AL_4 165 rfl rfl
theorem wq886 : (.methodLink RX6 100 yX6_isHouse : Cond) ∈ AL := AL_4 166 rfl rfl
theorem wq888 : (.instanceMethod yX6_isHouse : Cond) ∈ AL := AL_4 168 rfl rfl
theorem wq889 : (.code yX6_isHouse cX6_isHouse 2 (some .boolean) : Cond) ∈ AL := AL_4 169 rfl rfl
theorem wq890 : (.methodLink RX6 103 yX6_setHo : Cond) ∈ AL := AL_4 170 rfl rfl
theorem wq892 : (.instanceMethod yX6_setHo : Cond) ∈ AL := AL_4 172 rfl rfl
theorem wq893 : (.code yX6_setHo cX6_setHo 4 (none : Option Jvm.ClassFile.FieldType) : Cond) ∈ AL := AL_4 173 rfl rfl
theorem wq894 : (.methodLink RX6 107 yX6_with : Cond) ∈ AL := AL_4 174 rfl rfl
theorem wq896 : (.instanceMethod yX6_with : Cond) ∈ AL := AL_4 176 rfl rfl
theorem wq897 : (.code yX6_with cX6_with 4 (some .int) : Cond) ∈ AL := AL_4 177 rfl rfl
theorem wq898 : (.methodLink RL 98 yX6_cell : Cond) ∈ AL := AL_4 178 rfl rfl
theorem wq899 : (.instanceMethod yX6_cell : Cond) ∈ AL := AL_4 179 rfl rfl
theorem wq900 : (.selects RX6 yX6_cell yX6_cell : Cond) ∈ AL := AL_4 180 rfl rfl
theorem wq901 : (.code yX6_cell cX6_cell 7 (some .int) : Cond) ∈ AL := AL_4 181 rfl rfl
theorem wq902 : (.methodLink RX6 113 yX6_heatNear : Cond) ∈ AL := AL_4 182 rfl rfl
theorem wq904 : (.instanceMethod yX6_heatNear : Cond) ∈ AL := AL_4 184 rfl rfl
theorem wq905 : (.code yX6_heatNear cX6_heatNear 4 (some .int) : Cond) ∈ AL := AL_4 185 rfl rfl
theorem wq906 : (.methodLink RX6 110 yX6_isNear : Cond) ∈ AL := AL_4 186 rfl rfl
theorem wq907 : (.static yX6_isNear : Cond) ∈ AL := AL_4 187 rfl rfl
theorem wq908 : (.code yX6_isNear cX6_isNear 2 (some .boolean) : Cond) ∈ AL := AL_4 188 rfl rfl
theorem wq909 : (.methodLink RX6 52 yX6_columns : Cond) ∈ AL := AL_4 189 rfl rfl
theorem wq910 : (.static yX6_columns : Cond) ∈ AL := AL_4 190 rfl rfl
theorem wq911 : (.code yX6_columns cX6_columns 2 (some .int) : Cond) ∈ AL := AL_4 191 rfl rfl
theorem wq912 : (.methodLink RX6 46 Lib.Math.abs.name : Cond) ∈ AL := AL_4 192 rfl rfl
theorem wq913 : (.methodLink RX6 56 yX6_rows : Cond) ∈ AL := AL_4 193 rfl rfl
theorem wq914 : (.static yX6_rows : Cond) ∈ AL := AL_4 194 rfl rfl
theorem wq915 : (.code yX6_rows cX6_rows 2 (some .int) : Cond) ∈ AL := AL_4 195 rfl rfl
theorem wq916 : (.methodLink RL 101 yX6_house : Cond) ∈ AL := AL_4 196 rfl rfl
theorem wq917 : (.instanceMethod yX6_house : Cond) ∈ AL := AL_4 197 rfl rfl
theorem wq918 : (.selects RX6 yX6_house yX6_house : Cond) ∈ AL := AL_4 198 rfl rfl
theorem wq919 : (.code yX6_house cX6_house 3 (some .int) : Cond) ∈ AL := AL_4 199 rfl rfl
theorem wq920 : (.methodLink RL 104 yX6_addEngine : Cond) ∈ AL := AL_4 200 rfl rfl
theorem wq921 : (.instanceMethod yX6_addEngine : Cond) ∈ AL := AL_4 201 rfl rfl
theorem wq922 : (.selects RX6 yX6_addEngine yX6_addEngine : Cond) ∈ AL := AL_4 202 rfl rfl
theorem wq923 : (.code yX6_addEngine cX6_addEngine 6 (some .int) : Cond) ∈ AL := AL_4 203 rfl rfl
theorem wq924 : (.methodLink RL 107 yX6_stoke : Cond) ∈ AL := AL_4 204 rfl rfl
theorem wq925 : (.instanceMethod yX6_stoke : Cond) ∈ AL := AL_4 205 rfl rfl
theorem wq926 : (.selects RX6 yX6_stoke yX6_stoke : Cond) ∈ AL := AL_4 206 rfl rfl
theorem wq927 : (.code yX6_stoke cX6_stoke 3 (some .int) : Cond) ∈ AL := AL_4 207 rfl rfl
theorem wq928 : (.methodLink RX6 116 yX6_isEngine : Cond) ∈ AL := AL_4 208 rfl rfl
theorem wq930 : (.instanceMethod yX6_isEngine : Cond) ∈ AL := AL_4 210 rfl rfl
theorem wq931 : (.code yX6_isEngine cX6_isEngine 2 (some .boolean) : Cond) ∈ AL := AL_4 211 rfl rfl
theorem wq932 : (.methodLink RX6 119 yX6_setEn : Cond) ∈ AL := AL_4 212 rfl rfl
theorem wq934 : (.instanceMethod yX6_setEn : Cond) ∈ AL := AL_4 214 rfl rfl
theorem wq935 : (.code yX6_setEn cX6_setEn 4 (none : Option Jvm.ClassFile.FieldType) : Cond) ∈ AL := AL_4 215 rfl rfl
theorem wq936 : (.methodLink RL 110 yX6_drive : Cond) ∈ AL := AL_4 216 rfl rfl
theorem wq937 : (.instanceMethod yX6_drive : Cond) ∈ AL := AL_4 217 rfl rfl
theorem wq938 : (.selects RX6 yX6_drive yX6_drive : Cond) ∈ AL := AL_4 218 rfl rfl
theorem wq939 : (.code yX6_drive cX6_drive 6 (some .int) : Cond) ∈ AL := AL_4 219 rfl rfl
theorem wq940 : (.methodLink RX6 122 yX6_way : Cond) ∈ AL := AL_4 220 rfl rfl
theorem wq942 : (.instanceMethod yX6_way : Cond) ∈ AL := AL_4 222 rfl rfl
theorem wq943 : (.code yX6_way cX6_way 6 (some .int) : Cond) ∈ AL := AL_4 223 rfl rfl
theorem wq944 : (.methodLink RL 113 yX6_relay : Cond) ∈ AL := AL_4 224 rfl rfl
theorem wq945 : (.instanceMethod yX6_relay : Cond) ∈ AL := AL_4 225 rfl rfl
theorem wq946 : (.selects RX6 yX6_relay yX6_relay : Cond) ∈ AL := AL_4 226 rfl rfl
theorem wq947 : (.code yX6_relay cX6_relay 4 (some .int) : Cond) ∈ AL := AL_4 227 rfl rfl
theorem wq948 : (.methodLink RX6 125 yX6_far : Cond) ∈ AL := AL_4 228 rfl rfl
theorem wq949 : (.static yX6_far : Cond) ∈ AL := AL_4 229 rfl rfl
theorem wq950 : (.code yX6_far cX6_far 2 (some .int) : Cond) ∈ AL := AL_4 230 rfl rfl
theorem wq951 : (.methodLink RX6 128 yX6_stands : Cond) ∈ AL := AL_4 231 rfl rfl
theorem wq953 : (.instanceMethod yX6_stands : Cond) ∈ AL := AL_4 233 rfl rfl
theorem wq954 : (.code yX6_stands cX6_stands 2 (some .boolean) : Cond) ∈ AL := AL_4 234 rfl rfl
theorem wq955 : (.methodLink RX6 131 yX6_leads : Cond) ∈ AL := AL_4 235 rfl rfl
theorem wq957 : (.instanceMethod yX6_leads : Cond) ∈ AL := AL_4 237 rfl rfl
theorem wq958 : (.code yX6_leads cX6_leads 4 (some .boolean) : Cond) ∈ AL := AL_4 238 rfl rfl
theorem wq959 : (.methodLink RL 116 yX6_aim : Cond) ∈ AL := AL_4 239 rfl rfl
theorem wq960 : (.instanceMethod yX6_aim : Cond) ∈ AL := AL_5 0 rfl rfl
theorem wq961 : (.selects RX6 yX6_aim yX6_aim : Cond) ∈ AL := AL_5 1 rfl rfl
theorem wq962 : (.code yX6_aim cX6_aim 4 (some .int) : Cond) ∈ AL := AL_5 2 rfl rfl
theorem wq963 : (.methodLink RL 120 yX6_takeUp : Cond) ∈ AL := AL_5 3 rfl rfl
theorem wq964 : (.instanceMethod yX6_takeUp : Cond) ∈ AL := AL_5 4 rfl rfl
theorem wq965 : (.selects RX6 yX6_takeUp yX6_takeUp : Cond) ∈ AL := AL_5 5 rfl rfl
theorem wq966 : (.code yX6_takeUp cX6_takeUp 3 (some .boolean) : Cond) ∈ AL := AL_5 6 rfl rfl
theorem wq967 : (.methodLink RL 123 yX6_engine : Cond) ∈ AL := AL_5 7 rfl rfl
theorem wq968 : (.instanceMethod yX6_engine : Cond) ∈ AL := AL_5 8 rfl rfl
theorem wq969 : (.selects RX6 yX6_engine yX6_engine : Cond) ∈ AL := AL_5 9 rfl rfl
theorem wq970 : (.code yX6_engine cX6_engine 3 (some .int) : Cond) ∈ AL := AL_5 10 rfl rfl
theorem wq971 : (.methodLink RX6 140 yX6_engineTold : Cond) ∈ AL := AL_5 11 rfl rfl
theorem wq973 : (.instanceMethod yX6_engineTold : Cond) ∈ AL := AL_5 13 rfl rfl
theorem wq974 : (.code yX6_engineTold cX6_engineTold 3 (some .int) : Cond) ∈ AL := AL_5 14 rfl rfl
theorem wq975 : (.methodLink RX6 134 yX6_source : Cond) ∈ AL := AL_5 15 rfl rfl
theorem wq977 : (.instanceMethod yX6_source : Cond) ∈ AL := AL_5 17 rfl rfl
theorem wq978 : (.code yX6_source cX6_source 3 (some .int) : Cond) ∈ AL := AL_5 18 rfl rfl
theorem wq979 : (.methodLink RX6 137 yX6_canPump : Cond) ∈ AL := AL_5 19 rfl rfl
theorem wq981 : (.instanceMethod yX6_canPump : Cond) ∈ AL := AL_5 21 rfl rfl
theorem wq982 : (.code yX6_canPump cX6_canPump 2 (some .int) : Cond) ∈ AL := AL_5 22 rfl rfl
theorem wq983 : (.methodLink RL 126 yX6_pond : Cond) ∈ AL := AL_5 23 rfl rfl
theorem wq984 : (.instanceMethod yX6_pond : Cond) ∈ AL := AL_5 24 rfl rfl
theorem wq985 : (.selects RX6 yX6_pond yX6_pond : Cond) ∈ AL := AL_5 25 rfl rfl
theorem wq986 : (.code yX6_pond cX6_pond 2 (some .int) : Cond) ∈ AL := AL_5 26 rfl rfl
theorem wq987 : (.methodLink RL 129 yX6_pass : Cond) ∈ AL := AL_5 27 rfl rfl
theorem wq988 : (.instanceMethod yX6_pass : Cond) ∈ AL := AL_5 28 rfl rfl
theorem wq989 : (.selects RX6 yX6_pass yX6_pass : Cond) ∈ AL := AL_5 29 rfl rfl
theorem wq990 : (.code yX6_pass cX6_pass 4 (some .int) : Cond) ∈ AL := AL_5 30 rfl rfl
theorem wq991 : (.methodLink RX6 163 yX6_minuteOn : Cond) ∈ AL := AL_5 31 rfl rfl
theorem wq993 : (.instanceMethod yX6_minuteOn : Cond) ∈ AL := AL_5 33 rfl rfl
theorem wq994 : (.code yX6_minuteOn cX6_minuteOn 3 (some .int) : Cond) ∈ AL := AL_5 34 rfl rfl
theorem wq995 : (.methodLink RX6 143 Lib.Math.max.name : Cond) ∈ AL := AL_5 35 rfl rfl
theorem wq996 : (.methodLink RX6 146 Lib.Math.min.name : Cond) ∈ AL := AL_5 36 rfl rfl
theorem wq997 : (.methodLink RX6 157 yX6_pumpAll : Cond) ∈ AL := AL_5 37 rfl rfl
theorem wq999 : (.instanceMethod yX6_pumpAll : Cond) ∈ AL := AL_5 39 rfl rfl
theorem wq1000 : (.code yX6_pumpAll cX6_pumpAll 2 (none : Option Jvm.ClassFile.FieldType) : Cond) ∈ AL := AL_5 40 rfl rfl
theorem wq1001 : (.methodLink RX6 149 yX6_next : Cond) ∈ AL := AL_5 41 rfl rfl
theorem wq1003 : (.instanceMethod yX6_next : Cond) ∈ AL := AL_5 43 rfl rfl
theorem wq1004 : (.code yX6_next cX6_next 4 (some .int) : Cond) ∈ AL := AL_5 44 rfl rfl
theorem wq1005 : (.methodLink RX6 153 yX6_pump : Cond) ∈ AL := AL_5 45 rfl rfl
theorem wq1007 : (.instanceMethod yX6_pump : Cond) ∈ AL := AL_5 47 rfl rfl
theorem wq1008 : (.code yX6_pump cX6_pump 10 (none : Option Jvm.ClassFile.FieldType) : Cond) ∈ AL := AL_5 48 rfl rfl
theorem wq1009 : (.methodLink RX6 160 yX6_burn : Cond) ∈ AL := AL_5 49 rfl rfl
theorem wq1011 : (.instanceMethod yX6_burn : Cond) ∈ AL := AL_5 51 rfl rfl
theorem wq1012 : (.code yX6_burn cX6_burn 3 (none : Option Jvm.ClassFile.FieldType) : Cond) ∈ AL := AL_5 52 rfl rfl
theorem wq1013 : (.methodLink RL 132 yX6_count : Cond) ∈ AL := AL_5 53 rfl rfl
theorem wq1014 : (.instanceMethod yX6_count : Cond) ∈ AL := AL_5 54 rfl rfl
theorem wq1015 : (.selects RX6 yX6_count yX6_count : Cond) ∈ AL := AL_5 55 rfl rfl
theorem wq1016 : (.code yX6_count cX6_count 2 (some .int) : Cond) ∈ AL := AL_5 56 rfl rfl
theorem wq1017 : (.methodLink RX6 166 yX6_counted : Cond) ∈ AL := AL_5 57 rfl rfl
theorem wq1019 : (.instanceMethod yX6_counted : Cond) ∈ AL := AL_5 59 rfl rfl
theorem wq1020 : (.code yX6_counted cX6_counted 4 (some .int) : Cond) ∈ AL := AL_5 60 rfl rfl
theorem wq1021 : (.methodLink RL 135 yX6_foresee : Cond) ∈ AL := AL_5 61 rfl rfl
theorem wq1022 : (.instanceMethod yX6_foresee : Cond) ∈ AL := AL_5 62 rfl rfl
theorem wq1023 : (.selects RX6 yX6_foresee yX6_foresee : Cond) ∈ AL := AL_5 63 rfl rfl
theorem wq1024 : (.code yX6_foresee cX6_foresee 5 (some .int) : Cond) ∈ AL := AL_5 64 rfl rfl
theorem wq1025 : (.methodLink RX6 174 yX6_kept : Cond) ∈ AL := AL_5 65 rfl rfl
theorem wq1027 : (.instanceMethod yX6_kept : Cond) ∈ AL := AL_5 67 rfl rfl
theorem wq1028 : (.code yX6_kept cX6_kept 1 (some (.array (.array .int))) : Cond) ∈ AL := AL_5 68 rfl rfl
theorem wq1029 : (.classLink RX6 169 "[I" : Cond) ∈ AL := AL_5 69 rfl rfl
theorem wt1030 : (.arrayOver (.array .int) : Cond) ∈ lw_tbl := AT_5 70 rfl
theorem wq1031 : (.methodLink RX6 170 ⟨"[I", "clone", "()Ljava/lang/Object;"⟩ : Cond) ∈ AL := AL_5 71 rfl rfl
theorem wq1032 : (.sameMethod "[I" "java/lang/Object" "clone" "()Ljava/lang/Object;" : Cond) ∈ AL := AL_5 72 rfl rfl
theorem wq1033 : (.native ⟨"java/lang/Object", "clone", "()Ljava/lang/Object;"⟩ : Cond) ∈ AL := AL_5 73 rfl rfl
theorem wq1034 : (.instanceMethod ⟨"java/lang/Object", "clone", "()Ljava/lang/Object;"⟩ : Cond) ∈ AL := AL_5 74 rfl rfl
theorem wq1035 : (.selects "[I" ⟨"[I", "clone", "()Ljava/lang/Object;"⟩ ⟨"java/lang/Object", "clone", "()Ljava/lang/Object;"⟩ : Cond) ∈ AL := AL_5 75 rfl rfl
theorem wq1037 : (.methodLink RX6 178 yX6_bringBack : Cond) ∈ AL := AL_5 77 rfl rfl
theorem wq1039 : (.instanceMethod yX6_bringBack : Cond) ∈ AL := AL_5 79 rfl rfl
theorem wq1040 : (.code yX6_bringBack cX6_bringBack 4 (none : Option Jvm.ClassFile.FieldType) : Cond) ∈ AL := AL_5 80 rfl rfl
theorem wq1041 : (.methodLink RL 139 yX6_lasts : Cond) ∈ AL := AL_5 81 rfl rfl
theorem wq1042 : (.instanceMethod yX6_lasts : Cond) ∈ AL := AL_5 82 rfl rfl
theorem wq1043 : (.selects RX6 yX6_lasts yX6_lasts : Cond) ∈ AL := AL_5 83 rfl rfl
theorem wq1044 : (.code yX6_lasts cX6_lasts 3 (some .int) : Cond) ∈ AL := AL_5 84 rfl rfl
theorem wq1045 : (.methodLink RL 142 yX6_weakest : Cond) ∈ AL := AL_5 85 rfl rfl
theorem wq1046 : (.instanceMethod yX6_weakest : Cond) ∈ AL := AL_5 86 rfl rfl
theorem wq1047 : (.selects RX6 yX6_weakest yX6_weakest : Cond) ∈ AL := AL_5 87 rfl rfl
theorem wq1048 : (.code yX6_weakest cX6_weakest 4 (some .int) : Cond) ∈ AL := AL_5 88 rfl rfl
theorem wq1049 : (.methodLink RL 145 yX6_advise : Cond) ∈ AL := AL_5 89 rfl rfl
theorem wq1050 : (.instanceMethod yX6_advise : Cond) ∈ AL := AL_5 90 rfl rfl
theorem wq1051 : (.selects RX6 yX6_advise yX6_advise : Cond) ∈ AL := AL_5 91 rfl rfl
theorem wq1052 : (.code yX6_advise cX6_advise 8 (some .int) : Cond) ∈ AL := AL_5 92 rfl rfl
theorem wq1053 : (.methodLink RL 150 yX6_walls : Cond) ∈ AL := AL_5 93 rfl rfl
theorem wq1054 : (.instanceMethod yX6_walls : Cond) ∈ AL := AL_5 94 rfl rfl
theorem wq1055 : (.selects RX6 yX6_walls yX6_walls : Cond) ∈ AL := AL_5 95 rfl rfl
theorem wq1056 : (.code yX6_walls cX6_walls 3 (some .double) : Cond) ∈ AL := AL_5 96 rfl rfl
theorem wq1057 : (.methodLink RL 155 yX6_digest : Cond) ∈ AL := AL_5 97 rfl rfl
theorem wq1058 : (.instanceMethod yX6_digest : Cond) ∈ AL := AL_5 98 rfl rfl
theorem wq1059 : (.selects RX6 yX6_digest yX6_digest : Cond) ∈ AL := AL_5 99 rfl rfl
theorem wq1060 : (.code yX6_digest cX6_digest 5 (some .long) : Cond) ∈ AL := AL_5 100 rfl rfl
theorem wq1061 : (.constantLong RX6 182 (607) : Cond) ∈ AL := AL_5 101 rfl rfl
theorem wq1062 : (.constantLong RX6 184 (31) : Cond) ∈ AL := AL_5 102 rfl rfl
theorem wq1063 : (.arrayClass .long : Cond) ∈ AL := AL_5 103 rfl rfl
theorem wq1064 : (.sameMethod "java/lang/Throwable" "java/lang/Throwable" "fillInStackTrace" "(I)Ljava/lang/Throwable;" : Cond) ∈ AL := AL_5 104 rfl rfl
theorem wq1078 : (.sameMethod "[Ljava/lang/Object;" "java/lang/Object" "getClass" "()Ljava/lang/Class;" : Cond) ∈ AL := AL_5 118 rfl rfl
theorem wq1079 : (.selects "[Ljava/lang/Object;" ⟨"java/lang/Object", "getClass", "()Ljava/lang/Class;"⟩ ⟨"java/lang/Object", "getClass", "()Ljava/lang/Class;"⟩ : Cond) ∈ AL := AL_5 119 rfl rfl
theorem ws0 : (.selects RJx4a65c yJx4a65c_add_72be8 yJx4a65c_add_72be8 : Cond) ∈ AL := AL_s 0 rfl rfl
theorem ws1 : (.selects RJx4a65c yJx4a65c_grow_d5877 yJx4a65c_grow_d5877 : Cond) ∈ AL := AL_s 1 rfl rfl
theorem ws2 : (.selects RJx4a65c yJx4a65c_grow_92f84 yJx4a65c_grow_92f84 : Cond) ∈ AL := AL_s 2 rfl rfl
theorem ws3 : (.selects RX4 yX4_fireAndDrive yX4_fireAndDrive : Cond) ∈ AL := AL_s 3 rfl rfl
theorem ws4 : (.selects RX4 yX4_moveWater yX4_moveWater : Cond) ∈ AL := AL_s 4 rfl rfl
theorem ws5 : (.selects RX4 yX4_nextToAsk yX4_nextToAsk : Cond) ∈ AL := AL_s 5 rfl rfl
theorem ws6 : (.selects RX4 yX4_waitsForWater yX4_waitsForWater : Cond) ∈ AL := AL_s 6 rfl rfl
theorem ws7 : (.selects RX4 yX4_isEngine yX4_isEngine : Cond) ∈ AL := AL_s 7 rfl rfl
theorem ws8 : (.selects RX4 yX4_ask yX4_ask : Cond) ∈ AL := AL_s 8 rfl rfl
theorem ws9 : (.selects RX4 yX4_pondBy yX4_pondBy : Cond) ∈ AL := AL_s 9 rfl rfl
theorem ws10 : (.selects RX4 yX4_sendThroughHose yX4_sendThroughHose : Cond) ∈ AL := AL_s 10 rfl rfl
theorem ws11 : (.selects RX4 yX4_isHouse yX4_isHouse : Cond) ∈ AL := AL_s 11 rfl rfl
theorem ws12 : (.selects RX2 yX2_endFire yX2_endFire : Cond) ∈ AL := AL_s 12 rfl rfl
theorem ws13 : (.selects RX4 yX4_catchFire yX4_catchFire : Cond) ∈ AL := AL_s 13 rfl rfl
theorem ws14 : (.selects RX4 yX4_waterOfPonds yX4_waterOfPonds : Cond) ∈ AL := AL_s 14 rfl rfl
theorem ws15 : (.selects RX4 yX4_sumOverHouses yX4_sumOverHouses : Cond) ∈ AL := AL_s 15 rfl rfl
theorem ws16 : (.selects "java/lang/Throwable" ⟨"java/lang/Throwable", "fillInStackTrace", "(I)Ljava/lang/Throwable;"⟩ ⟨"java/lang/Throwable", "fillInStackTrace", "(I)Ljava/lang/Throwable;"⟩ : Cond) ∈ AL := AL_s 16 rfl rfl
theorem ws17 : (.selects RX5 yX5_isFree yX5_isFree : Cond) ∈ AL := AL_s 17 rfl rfl
theorem ws18 : (.selects RX5 yX5_requireHouse yX5_requireHouse : Cond) ∈ AL := AL_s 18 rfl rfl
theorem ws19 : (.selects RX5 yX5_requireEngine yX5_requireEngine : Cond) ∈ AL := AL_s 19 rfl rfl
theorem ws20 : (.selects RX1 yX1_spread yX1_spread : Cond) ∈ AL := AL_s 20 rfl rfl
theorem ws21 : (.selects RX1 yX1_enter yX1_enter : Cond) ∈ AL := AL_s 21 rfl rfl
theorem ws22 : (.selects RX5 yX5_fallenIfAimed yX5_fallenIfAimed : Cond) ∈ AL := AL_s 22 rfl rfl
theorem ws23 : (.selects RX6 yX6_fail yX6_fail : Cond) ∈ AL := AL_s 23 rfl rfl
theorem ws24 : (.selects RX6 yX6_isFree yX6_isFree : Cond) ∈ AL := AL_s 24 rfl rfl
theorem ws25 : (.selects RX6 yX6_isStreet yX6_isStreet : Cond) ∈ AL := AL_s 25 rfl rfl
theorem ws26 : (.selects RX6 yX6_houseAt yX6_houseAt : Cond) ∈ AL := AL_s 26 rfl rfl
theorem ws27 : (.selects RX6 yX6_ho yX6_ho : Cond) ∈ AL := AL_s 27 rfl rfl
theorem ws28 : (.selects RX6 yX6_pondAt yX6_pondAt : Cond) ∈ AL := AL_s 28 rfl rfl
theorem ws29 : (.selects RX6 yX6_en yX6_en : Cond) ∈ AL := AL_s 29 rfl rfl
theorem ws30 : (.selects RX6 yX6_isHouse yX6_isHouse : Cond) ∈ AL := AL_s 30 rfl rfl
theorem ws31 : (.selects RX6 yX6_setHo yX6_setHo : Cond) ∈ AL := AL_s 31 rfl rfl
theorem ws32 : (.selects RX6 yX6_with yX6_with : Cond) ∈ AL := AL_s 32 rfl rfl
theorem ws33 : (.selects RX6 yX6_heatNear yX6_heatNear : Cond) ∈ AL := AL_s 33 rfl rfl
theorem ws34 : (.selects RX6 yX6_isEngine yX6_isEngine : Cond) ∈ AL := AL_s 34 rfl rfl
theorem ws35 : (.selects RX6 yX6_setEn yX6_setEn : Cond) ∈ AL := AL_s 35 rfl rfl
theorem ws36 : (.selects RX6 yX6_way yX6_way : Cond) ∈ AL := AL_s 36 rfl rfl
theorem ws37 : (.selects RX6 yX6_stands yX6_stands : Cond) ∈ AL := AL_s 37 rfl rfl
theorem ws38 : (.selects RX6 yX6_leads yX6_leads : Cond) ∈ AL := AL_s 38 rfl rfl
theorem ws39 : (.selects RX6 yX6_engineTold yX6_engineTold : Cond) ∈ AL := AL_s 39 rfl rfl
theorem ws40 : (.selects RX6 yX6_source yX6_source : Cond) ∈ AL := AL_s 40 rfl rfl
theorem ws41 : (.selects RX6 yX6_canPump yX6_canPump : Cond) ∈ AL := AL_s 41 rfl rfl
theorem ws42 : (.selects RX6 yX6_minuteOn yX6_minuteOn : Cond) ∈ AL := AL_s 42 rfl rfl
theorem ws43 : (.selects RX6 yX6_pumpAll yX6_pumpAll : Cond) ∈ AL := AL_s 43 rfl rfl
theorem ws44 : (.selects RX6 yX6_next yX6_next : Cond) ∈ AL := AL_s 44 rfl rfl
theorem ws45 : (.selects RX6 yX6_pump yX6_pump : Cond) ∈ AL := AL_s 45 rfl rfl
theorem ws46 : (.selects RX6 yX6_burn yX6_burn : Cond) ∈ AL := AL_s 46 rfl rfl
theorem ws47 : (.selects RX6 yX6_counted yX6_counted : Cond) ∈ AL := AL_s 47 rfl rfl
theorem ws48 : (.selects RX6 yX6_kept yX6_kept : Cond) ∈ AL := AL_s 48 rfl rfl
theorem ws49 : (.selects RX6 yX6_bringBack yX6_bringBack : Cond) ∈ AL := AL_s 49 rfl rfl
/-- the words that no warming keeps by itself: nest mates, casts -/
def NW : List Cond := [(.methodLinkNest RX5 11 yX1_init "FireEngines"), (.methodLinkNest RX5 18 yX4_init "FireEngines"), (.fieldLinkNest RX5 42 "FireEngines$Town" "houses" "Ljava/util/ArrayList;" "FireEngines"), (.fieldLinkNest RX5 67 "FireEngines$Town" "ponds" "Ljava/util/ArrayList;" "FireEngines"), (.fieldLinkNest RX5 114 "FireEngines$Town" "engines" "Ljava/util/ArrayList;" "FireEngines"), (.fieldLinkNest RX4 116 "FireEngines$House" "cell" "I" "FireEngines"), (.fieldLinkNest RX5 155 "FireEngines$House" "cell" "I" "FireEngines"), (.fieldLinkNest RX5 185 "FireEngines$House" "walls" "I" "FireEngines"), (.fieldLinkNest RX5 82 "FireEngines$House" "state" "I" "FireEngines"), (.fieldLinkNest RX4 104 "FireEngines$House" "state" "I" "FireEngines"), (.fieldLinkNest RX4 121 "FireEngines$House" "heat" "I" "FireEngines"), (.fieldLinkNest RX4 151 "FireEngines$House" "came" "I" "FireEngines"), (.fieldLinkNest RX4 128 "FireEngines$Pond" "cell" "I" "FireEngines"), (.fieldLinkNest RX5 192 "FireEngines$Pond" "cell" "I" "FireEngines"), (.fieldLinkNest RX4 110 "FireEngines$Pond" "water" "I" "FireEngines"), (.fieldLinkNest RX5 167 "FireEngines$Pond" "water" "I" "FireEngines"), (.fieldLinkNest RX4 73 "FireEngines$Engine" "cell" "I" "FireEngines"), (.fieldLinkNest RX5 130 "FireEngines$Engine" "cell" "I" "FireEngines"), (.fieldLinkNest RX4 76 "FireEngines$Engine" "horses" "I" "FireEngines"), (.fieldLinkNest RX4 79 "FireEngines$Engine" "power" "I" "FireEngines"), (.fieldLinkNest RX4 82 "FireEngines$Engine" "coal" "I" "FireEngines"), (.fieldLinkNest RX5 123 "FireEngines$Engine" "coal" "I" "FireEngines"), (.fieldLinkNest RX4 85 "FireEngines$Engine" "steam" "I" "FireEngines"), (.fieldLinkNest RX4 88 "FireEngines$Engine" "minutesLeft" "I" "FireEngines"), (.fieldLinkNest RX5 142 "FireEngines$Engine" "minutesLeft" "I" "FireEngines"), (.fieldLinkNest RX4 113 "FireEngines$Engine" "goal" "I" "FireEngines"), (.fieldLinkNest RX4 91 "FireEngines$Engine" "hose" "I" "FireEngines"), (.fieldLinkNest RX5 152 "FireEngines$Engine" "hose" "I" "FireEngines"), (.fieldLinkNest RX4 154 "FireEngines$Engine" "came" "I" "FireEngines"), (.fieldLinkNest RX4 98 "FireEngines$Engine" "gave" "I" "FireEngines"), (.fieldLinkNest RX4 155 "FireEngines$Engine" "asked" "Z" "FireEngines"), (.methodLinkNest RX4 117 yX5_areNear "FireEngines"), (.methodLinkNest RX4 183 yX5_distance "FireEngines"), (.castable "java/lang/IndexOutOfBoundsException" "java/lang/IndexOutOfBoundsException"), (.declares ⟨"java/lang/RuntimeException", "<init>", "()V"⟩), (.declares ⟨"java/lang/RuntimeException", "<init>", "(Ljava/lang/String;)V"⟩), (.declares ⟨"java/lang/Exception", "<init>", "()V"⟩), (.declares ⟨"java/lang/Exception", "<init>", "(Ljava/lang/String;)V"⟩), (.declares ⟨"java/lang/Throwable", "<init>", "()V"⟩), (.declares ⟨"java/lang/Throwable", "<init>", "(Ljava/lang/String;)V"⟩), (.castable "java/lang/IllegalArgumentException" "java/lang/IllegalArgumentException"), (.castable "java/lang/IllegalStateException" "java/lang/IllegalStateException"), (.methodLinkNest RX1 42 yX5_isOnMap "FireEngines"), (.methodLinkNest RX1 46 yX5_cellAt "FireEngines"), (.castable "[I" "java/lang/Cloneable"), (.castable RX5 "java/lang/Object"), (.castable RX1 "java/lang/Object"), (.castable RX4 "java/lang/Object"), (.castable RJx4a65c "java/lang/Object"), (.castable RX6 "java/lang/Object"), (.castable "java/lang/IndexOutOfBoundsException" "java/lang/Object"), (.castable "java/lang/IllegalArgumentException" "java/lang/Object"), (.castable "java/lang/IllegalStateException" "java/lang/Object"), (.castable RX2 "java/lang/Object"), (.castable RX3 "java/lang/Object"), (.castable RX0 "java/lang/Object"), (.castable "java/lang/Throwable" "java/lang/Object"), (.castable RJ0 "java/lang/Object"), (.declares ⟨"java/lang/Object", "getClass", "()Ljava/lang/Class;"⟩), (.castable "[I" "java/lang/Object"), (.castable "[Ljava/lang/Object;" "java/lang/Object"), (.castable "[B" "java/lang/Object"), (.castable "[Z" "java/lang/Object"), (.castable "[[I" "java/lang/Object"), (.castable "[J" "java/lang/Object")]
theorem wn33 : (.methodLinkNest RX5 11 yX1_init "FireEngines" : Cond) ∈ NW := List.mem_of_getElem? (i := 0) rfl
theorem wt33 : (.methodLinkNest RX5 11 yX1_init "FireEngines" : Cond) ∈ lw_tbl := AT_1 33 rfl
theorem wn50 : (.methodLinkNest RX5 18 yX4_init "FireEngines" : Cond) ∈ NW := List.mem_of_getElem? (i := 1) rfl
theorem wt50 : (.methodLinkNest RX5 18 yX4_init "FireEngines" : Cond) ∈ lw_tbl := AT_1 50 rfl
theorem wn82 : (.fieldLinkNest RX5 42 "FireEngines$Town" "houses" "Ljava/util/ArrayList;" "FireEngines" : Cond) ∈ NW := List.mem_of_getElem? (i := 2) rfl
theorem wt82 : (.fieldLinkNest RX5 42 "FireEngines$Town" "houses" "Ljava/util/ArrayList;" "FireEngines" : Cond) ∈ lw_tbl := AT_1 82 rfl
theorem wn84 : (.fieldLinkNest RX5 67 "FireEngines$Town" "ponds" "Ljava/util/ArrayList;" "FireEngines" : Cond) ∈ NW := List.mem_of_getElem? (i := 3) rfl
theorem wt84 : (.fieldLinkNest RX5 67 "FireEngines$Town" "ponds" "Ljava/util/ArrayList;" "FireEngines" : Cond) ∈ lw_tbl := AT_1 84 rfl
theorem wn86 : (.fieldLinkNest RX5 114 "FireEngines$Town" "engines" "Ljava/util/ArrayList;" "FireEngines" : Cond) ∈ NW := List.mem_of_getElem? (i := 4) rfl
theorem wt86 : (.fieldLinkNest RX5 114 "FireEngines$Town" "engines" "Ljava/util/ArrayList;" "FireEngines" : Cond) ∈ lw_tbl := AT_1 86 rfl
theorem wn125 : (.fieldLinkNest RX4 116 "FireEngines$House" "cell" "I" "FireEngines" : Cond) ∈ NW := List.mem_of_getElem? (i := 5) rfl
theorem wt125 : (.fieldLinkNest RX4 116 "FireEngines$House" "cell" "I" "FireEngines" : Cond) ∈ lw_tbl := AT_1 125 rfl
theorem wn126 : (.fieldLinkNest RX5 155 "FireEngines$House" "cell" "I" "FireEngines" : Cond) ∈ NW := List.mem_of_getElem? (i := 6) rfl
theorem wt126 : (.fieldLinkNest RX5 155 "FireEngines$House" "cell" "I" "FireEngines" : Cond) ∈ lw_tbl := AT_1 126 rfl
theorem wn129 : (.fieldLinkNest RX5 185 "FireEngines$House" "walls" "I" "FireEngines" : Cond) ∈ NW := List.mem_of_getElem? (i := 7) rfl
theorem wt129 : (.fieldLinkNest RX5 185 "FireEngines$House" "walls" "I" "FireEngines" : Cond) ∈ lw_tbl := AT_1 129 rfl
theorem wn131 : (.fieldLinkNest RX5 82 "FireEngines$House" "state" "I" "FireEngines" : Cond) ∈ NW := List.mem_of_getElem? (i := 8) rfl
theorem wt131 : (.fieldLinkNest RX5 82 "FireEngines$House" "state" "I" "FireEngines" : Cond) ∈ lw_tbl := AT_1 131 rfl
theorem wn132 : (.fieldLinkNest RX4 104 "FireEngines$House" "state" "I" "FireEngines" : Cond) ∈ NW := List.mem_of_getElem? (i := 9) rfl
theorem wt132 : (.fieldLinkNest RX4 104 "FireEngines$House" "state" "I" "FireEngines" : Cond) ∈ lw_tbl := AT_1 132 rfl
theorem wn134 : (.fieldLinkNest RX4 121 "FireEngines$House" "heat" "I" "FireEngines" : Cond) ∈ NW := List.mem_of_getElem? (i := 10) rfl
theorem wt134 : (.fieldLinkNest RX4 121 "FireEngines$House" "heat" "I" "FireEngines" : Cond) ∈ lw_tbl := AT_1 134 rfl
theorem wn136 : (.fieldLinkNest RX4 151 "FireEngines$House" "came" "I" "FireEngines" : Cond) ∈ NW := List.mem_of_getElem? (i := 11) rfl
theorem wt136 : (.fieldLinkNest RX4 151 "FireEngines$House" "came" "I" "FireEngines" : Cond) ∈ lw_tbl := AT_1 136 rfl
theorem wn236 : (.fieldLinkNest RX4 128 "FireEngines$Pond" "cell" "I" "FireEngines" : Cond) ∈ NW := List.mem_of_getElem? (i := 12) rfl
theorem wt236 : (.fieldLinkNest RX4 128 "FireEngines$Pond" "cell" "I" "FireEngines" : Cond) ∈ lw_tbl := AT_1 236 rfl
theorem wn237 : (.fieldLinkNest RX5 192 "FireEngines$Pond" "cell" "I" "FireEngines" : Cond) ∈ NW := List.mem_of_getElem? (i := 13) rfl
theorem wt237 : (.fieldLinkNest RX5 192 "FireEngines$Pond" "cell" "I" "FireEngines" : Cond) ∈ lw_tbl := AT_1 237 rfl
theorem wn239 : (.fieldLinkNest RX4 110 "FireEngines$Pond" "water" "I" "FireEngines" : Cond) ∈ NW := List.mem_of_getElem? (i := 14) rfl
theorem wt239 : (.fieldLinkNest RX4 110 "FireEngines$Pond" "water" "I" "FireEngines" : Cond) ∈ lw_tbl := AT_1 239 rfl
theorem wn240 : (.fieldLinkNest RX5 167 "FireEngines$Pond" "water" "I" "FireEngines" : Cond) ∈ NW := List.mem_of_getElem? (i := 15) rfl
theorem wt240 : (.fieldLinkNest RX5 167 "FireEngines$Pond" "water" "I" "FireEngines" : Cond) ∈ lw_tbl := AT_2 0 rfl
theorem wn257 : (.fieldLinkNest RX4 73 "FireEngines$Engine" "cell" "I" "FireEngines" : Cond) ∈ NW := List.mem_of_getElem? (i := 16) rfl
theorem wt257 : (.fieldLinkNest RX4 73 "FireEngines$Engine" "cell" "I" "FireEngines" : Cond) ∈ lw_tbl := AT_2 17 rfl
theorem wn258 : (.fieldLinkNest RX5 130 "FireEngines$Engine" "cell" "I" "FireEngines" : Cond) ∈ NW := List.mem_of_getElem? (i := 17) rfl
theorem wt258 : (.fieldLinkNest RX5 130 "FireEngines$Engine" "cell" "I" "FireEngines" : Cond) ∈ lw_tbl := AT_2 18 rfl
theorem wn260 : (.fieldLinkNest RX4 76 "FireEngines$Engine" "horses" "I" "FireEngines" : Cond) ∈ NW := List.mem_of_getElem? (i := 18) rfl
theorem wt260 : (.fieldLinkNest RX4 76 "FireEngines$Engine" "horses" "I" "FireEngines" : Cond) ∈ lw_tbl := AT_2 20 rfl
theorem wn262 : (.fieldLinkNest RX4 79 "FireEngines$Engine" "power" "I" "FireEngines" : Cond) ∈ NW := List.mem_of_getElem? (i := 19) rfl
theorem wt262 : (.fieldLinkNest RX4 79 "FireEngines$Engine" "power" "I" "FireEngines" : Cond) ∈ lw_tbl := AT_2 22 rfl
theorem wn264 : (.fieldLinkNest RX4 82 "FireEngines$Engine" "coal" "I" "FireEngines" : Cond) ∈ NW := List.mem_of_getElem? (i := 20) rfl
theorem wt264 : (.fieldLinkNest RX4 82 "FireEngines$Engine" "coal" "I" "FireEngines" : Cond) ∈ lw_tbl := AT_2 24 rfl
theorem wn265 : (.fieldLinkNest RX5 123 "FireEngines$Engine" "coal" "I" "FireEngines" : Cond) ∈ NW := List.mem_of_getElem? (i := 21) rfl
theorem wt265 : (.fieldLinkNest RX5 123 "FireEngines$Engine" "coal" "I" "FireEngines" : Cond) ∈ lw_tbl := AT_2 25 rfl
theorem wn267 : (.fieldLinkNest RX4 85 "FireEngines$Engine" "steam" "I" "FireEngines" : Cond) ∈ NW := List.mem_of_getElem? (i := 22) rfl
theorem wt267 : (.fieldLinkNest RX4 85 "FireEngines$Engine" "steam" "I" "FireEngines" : Cond) ∈ lw_tbl := AT_2 27 rfl
theorem wn269 : (.fieldLinkNest RX4 88 "FireEngines$Engine" "minutesLeft" "I" "FireEngines" : Cond) ∈ NW := List.mem_of_getElem? (i := 23) rfl
theorem wt269 : (.fieldLinkNest RX4 88 "FireEngines$Engine" "minutesLeft" "I" "FireEngines" : Cond) ∈ lw_tbl := AT_2 29 rfl
theorem wn270 : (.fieldLinkNest RX5 142 "FireEngines$Engine" "minutesLeft" "I" "FireEngines" : Cond) ∈ NW := List.mem_of_getElem? (i := 24) rfl
theorem wt270 : (.fieldLinkNest RX5 142 "FireEngines$Engine" "minutesLeft" "I" "FireEngines" : Cond) ∈ lw_tbl := AT_2 30 rfl
theorem wn272 : (.fieldLinkNest RX4 113 "FireEngines$Engine" "goal" "I" "FireEngines" : Cond) ∈ NW := List.mem_of_getElem? (i := 25) rfl
theorem wt272 : (.fieldLinkNest RX4 113 "FireEngines$Engine" "goal" "I" "FireEngines" : Cond) ∈ lw_tbl := AT_2 32 rfl
theorem wn274 : (.fieldLinkNest RX4 91 "FireEngines$Engine" "hose" "I" "FireEngines" : Cond) ∈ NW := List.mem_of_getElem? (i := 26) rfl
theorem wt274 : (.fieldLinkNest RX4 91 "FireEngines$Engine" "hose" "I" "FireEngines" : Cond) ∈ lw_tbl := AT_2 34 rfl
theorem wn275 : (.fieldLinkNest RX5 152 "FireEngines$Engine" "hose" "I" "FireEngines" : Cond) ∈ NW := List.mem_of_getElem? (i := 27) rfl
theorem wt275 : (.fieldLinkNest RX5 152 "FireEngines$Engine" "hose" "I" "FireEngines" : Cond) ∈ lw_tbl := AT_2 35 rfl
theorem wn277 : (.fieldLinkNest RX4 154 "FireEngines$Engine" "came" "I" "FireEngines" : Cond) ∈ NW := List.mem_of_getElem? (i := 28) rfl
theorem wt277 : (.fieldLinkNest RX4 154 "FireEngines$Engine" "came" "I" "FireEngines" : Cond) ∈ lw_tbl := AT_2 37 rfl
theorem wn279 : (.fieldLinkNest RX4 98 "FireEngines$Engine" "gave" "I" "FireEngines" : Cond) ∈ NW := List.mem_of_getElem? (i := 29) rfl
theorem wt279 : (.fieldLinkNest RX4 98 "FireEngines$Engine" "gave" "I" "FireEngines" : Cond) ∈ lw_tbl := AT_2 39 rfl
theorem wn281 : (.fieldLinkNest RX4 155 "FireEngines$Engine" "asked" "Z" "FireEngines" : Cond) ∈ NW := List.mem_of_getElem? (i := 30) rfl
theorem wt281 : (.fieldLinkNest RX4 155 "FireEngines$Engine" "asked" "Z" "FireEngines" : Cond) ∈ lw_tbl := AT_2 41 rfl
theorem wn364 : (.methodLinkNest RX4 117 yX5_areNear "FireEngines" : Cond) ∈ NW := List.mem_of_getElem? (i := 31) rfl
theorem wt364 : (.methodLinkNest RX4 117 yX5_areNear "FireEngines" : Cond) ∈ lw_tbl := AT_2 124 rfl
theorem wn378 : (.methodLinkNest RX4 183 yX5_distance "FireEngines" : Cond) ∈ NW := List.mem_of_getElem? (i := 32) rfl
theorem wt378 : (.methodLinkNest RX4 183 yX5_distance "FireEngines" : Cond) ∈ lw_tbl := AT_2 138 rfl
theorem wn472 : (.castable "java/lang/IndexOutOfBoundsException" "java/lang/IndexOutOfBoundsException" : Cond) ∈ NW := List.mem_of_getElem? (i := 33) rfl
theorem wt472 : (.castable "java/lang/IndexOutOfBoundsException" "java/lang/IndexOutOfBoundsException" : Cond) ∈ lw_tbl := AT_2 232 rfl
theorem wn473 : (.declares ⟨"java/lang/RuntimeException", "<init>", "()V"⟩ : Cond) ∈ NW := List.mem_of_getElem? (i := 34) rfl
theorem wt473 : (.declares ⟨"java/lang/RuntimeException", "<init>", "()V"⟩ : Cond) ∈ lw_tbl := AT_2 233 rfl
theorem wn474 : (.declares ⟨"java/lang/RuntimeException", "<init>", "(Ljava/lang/String;)V"⟩ : Cond) ∈ NW := List.mem_of_getElem? (i := 35) rfl
theorem wt474 : (.declares ⟨"java/lang/RuntimeException", "<init>", "(Ljava/lang/String;)V"⟩ : Cond) ∈ lw_tbl := AT_2 234 rfl
theorem wn475 : (.declares ⟨"java/lang/Exception", "<init>", "()V"⟩ : Cond) ∈ NW := List.mem_of_getElem? (i := 36) rfl
theorem wt475 : (.declares ⟨"java/lang/Exception", "<init>", "()V"⟩ : Cond) ∈ lw_tbl := AT_2 235 rfl
theorem wn476 : (.declares ⟨"java/lang/Exception", "<init>", "(Ljava/lang/String;)V"⟩ : Cond) ∈ NW := List.mem_of_getElem? (i := 37) rfl
theorem wt476 : (.declares ⟨"java/lang/Exception", "<init>", "(Ljava/lang/String;)V"⟩ : Cond) ∈ lw_tbl := AT_2 236 rfl
theorem wn477 : (.declares ⟨"java/lang/Throwable", "<init>", "()V"⟩ : Cond) ∈ NW := List.mem_of_getElem? (i := 38) rfl
theorem wt477 : (.declares ⟨"java/lang/Throwable", "<init>", "()V"⟩ : Cond) ∈ lw_tbl := AT_2 237 rfl
theorem wn478 : (.declares ⟨"java/lang/Throwable", "<init>", "(Ljava/lang/String;)V"⟩ : Cond) ∈ NW := List.mem_of_getElem? (i := 39) rfl
theorem wt478 : (.declares ⟨"java/lang/Throwable", "<init>", "(Ljava/lang/String;)V"⟩ : Cond) ∈ lw_tbl := AT_2 238 rfl
theorem wn543 : (.castable "java/lang/IllegalArgumentException" "java/lang/IllegalArgumentException" : Cond) ∈ NW := List.mem_of_getElem? (i := 40) rfl
theorem wt543 : (.castable "java/lang/IllegalArgumentException" "java/lang/IllegalArgumentException" : Cond) ∈ lw_tbl := AT_3 63 rfl
theorem wn585 : (.castable "java/lang/IllegalStateException" "java/lang/IllegalStateException" : Cond) ∈ NW := List.mem_of_getElem? (i := 41) rfl
theorem wt585 : (.castable "java/lang/IllegalStateException" "java/lang/IllegalStateException" : Cond) ∈ lw_tbl := AT_3 105 rfl
theorem wn697 : (.methodLinkNest RX1 42 yX5_isOnMap "FireEngines" : Cond) ∈ NW := List.mem_of_getElem? (i := 42) rfl
theorem wt697 : (.methodLinkNest RX1 42 yX5_isOnMap "FireEngines" : Cond) ∈ lw_tbl := AT_3 217 rfl
theorem wn698 : (.methodLinkNest RX1 46 yX5_cellAt "FireEngines" : Cond) ∈ NW := List.mem_of_getElem? (i := 43) rfl
theorem wt698 : (.methodLinkNest RX1 46 yX5_cellAt "FireEngines" : Cond) ∈ lw_tbl := AT_3 218 rfl
theorem wn1036 : (.castable "[I" "java/lang/Cloneable" : Cond) ∈ NW := List.mem_of_getElem? (i := 44) rfl
theorem wt1036 : (.castable "[I" "java/lang/Cloneable" : Cond) ∈ lw_tbl := AT_5 76 rfl
theorem wn1065 : (.castable RX5 "java/lang/Object" : Cond) ∈ NW := List.mem_of_getElem? (i := 45) rfl
theorem wt1065 : (.castable RX5 "java/lang/Object" : Cond) ∈ lw_tbl := AT_5 105 rfl
theorem wn1066 : (.castable RX1 "java/lang/Object" : Cond) ∈ NW := List.mem_of_getElem? (i := 46) rfl
theorem wt1066 : (.castable RX1 "java/lang/Object" : Cond) ∈ lw_tbl := AT_5 106 rfl
theorem wn1067 : (.castable RX4 "java/lang/Object" : Cond) ∈ NW := List.mem_of_getElem? (i := 47) rfl
theorem wt1067 : (.castable RX4 "java/lang/Object" : Cond) ∈ lw_tbl := AT_5 107 rfl
theorem wn1068 : (.castable RJx4a65c "java/lang/Object" : Cond) ∈ NW := List.mem_of_getElem? (i := 48) rfl
theorem wt1068 : (.castable RJx4a65c "java/lang/Object" : Cond) ∈ lw_tbl := AT_5 108 rfl
theorem wn1069 : (.castable RX6 "java/lang/Object" : Cond) ∈ NW := List.mem_of_getElem? (i := 49) rfl
theorem wt1069 : (.castable RX6 "java/lang/Object" : Cond) ∈ lw_tbl := AT_5 109 rfl
theorem wn1070 : (.castable "java/lang/IndexOutOfBoundsException" "java/lang/Object" : Cond) ∈ NW := List.mem_of_getElem? (i := 50) rfl
theorem wt1070 : (.castable "java/lang/IndexOutOfBoundsException" "java/lang/Object" : Cond) ∈ lw_tbl := AT_5 110 rfl
theorem wn1071 : (.castable "java/lang/IllegalArgumentException" "java/lang/Object" : Cond) ∈ NW := List.mem_of_getElem? (i := 51) rfl
theorem wt1071 : (.castable "java/lang/IllegalArgumentException" "java/lang/Object" : Cond) ∈ lw_tbl := AT_5 111 rfl
theorem wn1072 : (.castable "java/lang/IllegalStateException" "java/lang/Object" : Cond) ∈ NW := List.mem_of_getElem? (i := 52) rfl
theorem wt1072 : (.castable "java/lang/IllegalStateException" "java/lang/Object" : Cond) ∈ lw_tbl := AT_5 112 rfl
theorem wn1073 : (.castable RX2 "java/lang/Object" : Cond) ∈ NW := List.mem_of_getElem? (i := 53) rfl
theorem wt1073 : (.castable RX2 "java/lang/Object" : Cond) ∈ lw_tbl := AT_5 113 rfl
theorem wn1074 : (.castable RX3 "java/lang/Object" : Cond) ∈ NW := List.mem_of_getElem? (i := 54) rfl
theorem wt1074 : (.castable RX3 "java/lang/Object" : Cond) ∈ lw_tbl := AT_5 114 rfl
theorem wn1075 : (.castable RX0 "java/lang/Object" : Cond) ∈ NW := List.mem_of_getElem? (i := 55) rfl
theorem wt1075 : (.castable RX0 "java/lang/Object" : Cond) ∈ lw_tbl := AT_5 115 rfl
theorem wn1076 : (.castable "java/lang/Throwable" "java/lang/Object" : Cond) ∈ NW := List.mem_of_getElem? (i := 56) rfl
theorem wt1076 : (.castable "java/lang/Throwable" "java/lang/Object" : Cond) ∈ lw_tbl := AT_5 116 rfl
theorem wn1077 : (.castable RJ0 "java/lang/Object" : Cond) ∈ NW := List.mem_of_getElem? (i := 57) rfl
theorem wt1077 : (.castable RJ0 "java/lang/Object" : Cond) ∈ lw_tbl := AT_5 117 rfl
theorem wn1080 : (.declares ⟨"java/lang/Object", "getClass", "()Ljava/lang/Class;"⟩ : Cond) ∈ NW := List.mem_of_getElem? (i := 58) rfl
theorem wt1080 : (.declares ⟨"java/lang/Object", "getClass", "()Ljava/lang/Class;"⟩ : Cond) ∈ lw_tbl := AT_5 120 rfl
theorem wn1081 : (.castable "[I" "java/lang/Object" : Cond) ∈ NW := List.mem_of_getElem? (i := 59) rfl
theorem wt1081 : (.castable "[I" "java/lang/Object" : Cond) ∈ lw_tbl := AT_5 121 rfl
theorem wn1082 : (.castable "[Ljava/lang/Object;" "java/lang/Object" : Cond) ∈ NW := List.mem_of_getElem? (i := 60) rfl
theorem wt1082 : (.castable "[Ljava/lang/Object;" "java/lang/Object" : Cond) ∈ lw_tbl := AT_5 122 rfl
theorem wn1083 : (.castable "[B" "java/lang/Object" : Cond) ∈ NW := List.mem_of_getElem? (i := 61) rfl
theorem wt1083 : (.castable "[B" "java/lang/Object" : Cond) ∈ lw_tbl := AT_5 123 rfl
theorem wn1084 : (.castable "[Z" "java/lang/Object" : Cond) ∈ NW := List.mem_of_getElem? (i := 62) rfl
theorem wt1084 : (.castable "[Z" "java/lang/Object" : Cond) ∈ lw_tbl := AT_5 124 rfl
theorem wn1085 : (.castable "[[I" "java/lang/Object" : Cond) ∈ NW := List.mem_of_getElem? (i := 63) rfl
theorem wt1085 : (.castable "[[I" "java/lang/Object" : Cond) ∈ lw_tbl := AT_5 125 rfl
theorem wn1086 : (.castable "[J" "java/lang/Object" : Cond) ∈ NW := List.mem_of_getElem? (i := 64) rfl
theorem wt1086 : (.castable "[J" "java/lang/Object" : Cond) ∈ lw_tbl := AT_5 126 rfl
theorem NW_sub : ∀ w ∈ NW, w ∈ lw_tbl := by
  intro w hw
  simp only [NW, List.mem_cons, List.not_mem_nil, or_false] at hw
  rcases hw with rfl | rfl | rfl | rfl | rfl | rfl | rfl | rfl | rfl | rfl | rfl | rfl | rfl | rfl | rfl | rfl | rfl | rfl | rfl | rfl | rfl | rfl | rfl | rfl | rfl | rfl | rfl | rfl | rfl | rfl | rfl | rfl | rfl | rfl | rfl | rfl | rfl | rfl | rfl | rfl | rfl | rfl | rfl | rfl | rfl | rfl | rfl | rfl | rfl | rfl | rfl | rfl | rfl | rfl | rfl | rfl | rfl | rfl | rfl | rfl | rfl | rfl | rfl | rfl | rfl
  · exact wt33
  · exact wt50
  · exact wt82
  · exact wt84
  · exact wt86
  · exact wt125
  · exact wt126
  · exact wt129
  · exact wt131
  · exact wt132
  · exact wt134
  · exact wt136
  · exact wt236
  · exact wt237
  · exact wt239
  · exact wt240
  · exact wt257
  · exact wt258
  · exact wt260
  · exact wt262
  · exact wt264
  · exact wt265
  · exact wt267
  · exact wt269
  · exact wt270
  · exact wt272
  · exact wt274
  · exact wt275
  · exact wt277
  · exact wt279
  · exact wt281
  · exact wt364
  · exact wt378
  · exact wt472
  · exact wt473
  · exact wt474
  · exact wt475
  · exact wt476
  · exact wt477
  · exact wt478
  · exact wt543
  · exact wt585
  · exact wt697
  · exact wt698
  · exact wt1036
  · exact wt1065
  · exact wt1066
  · exact wt1067
  · exact wt1068
  · exact wt1069
  · exact wt1070
  · exact wt1071
  · exact wt1072
  · exact wt1073
  · exact wt1074
  · exact wt1075
  · exact wt1076
  · exact wt1077
  · exact wt1080
  · exact wt1081
  · exact wt1082
  · exact wt1083
  · exact wt1084
  · exact wt1085
  · exact wt1086
theorem wt511 : (.stringRef RX5 203 "no such cell" : Cond) ∈ lw_tbl := AT_3 31 rfl
theorem wt550 : (.stringRef RX5 209 "a number is too small or too great" : Cond) ∈ lw_tbl := AT_3 70 rfl
theorem wt592 : (.stringRef RX5 214 "not possible now" : Cond) ∈ lw_tbl := AT_3 112 rfl
theorem wt625 : (.stringRef RX5 196 "no such house" : Cond) ∈ lw_tbl := AT_3 145 rfl
theorem wt640 : (.stringRef RX5 205 "no such question" : Cond) ∈ lw_tbl := AT_3 160 rfl
theorem wt673 : (.stringRef RX5 198 "no such engine" : Cond) ∈ lw_tbl := AT_3 193 rfl
theorem wt747 : (.stringRef RX5 162 "no such pond" : Cond) ∈ lw_tbl := AT_4 27 rfl
