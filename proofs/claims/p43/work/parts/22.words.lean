/-! ===== further words of the tables ===== -/
def xl1_0 : List Cond := [Cond.instantiable RX3 4, Cond.methodLink RX3 1 Lib.objectInit, Cond.instanceMethod Lib.objectInit, Cond.superclass RX3 "java/lang/Object", Cond.privateMethod yX3_polyIn, Cond.privateMethod yX3_checkCell, Cond.instantiable "java/lang/IndexOutOfBoundsException" 6, Cond.castable "java/lang/IndexOutOfBoundsException" "java/lang/IndexOutOfBoundsException", Cond.superclass "java/lang/Throwable" "java/lang/Object", Cond.laysStatic "java/lang/Throwable" "UNASSIGNED_STACK" "[Ljava/lang/StackTraceElement;", Cond.laysStatic "java/lang/Throwable" "SUPPRESSED_SENTINEL" "Ljava/util/List;", Cond.sameMethod "java/lang/Throwable" "java/lang/Throwable" "fillInStackTrace" "()Ljava/lang/Throwable;", Cond.instantiable "java/lang/Throwable" 6, Cond.stringRef RX3 205 "a cell is 0 to 5", Cond.superclass "java/lang/IndexOutOfBoundsException" "java/lang/RuntimeException", Cond.instantiable "java/lang/IllegalArgumentException" 6, Cond.castable "java/lang/IllegalArgumentException" "java/lang/IllegalArgumentException", Cond.stringRef RX3 212 "a number is out of its range", Cond.superclass "java/lang/IllegalArgumentException" "java/lang/RuntimeException", Cond.privateMethod yX3_cellsWithZero, Cond.privateMethod yX3_allWeights, Cond.instantiable RX4 2, Cond.methodLink RX4 1 Lib.objectInit]
theorem oxe1_0 : xl1_0 = [26, 30, 31, 45, 65, 69, 73, 74, 94, 99, 101, 104, 110, 112, 137, 206, 207, 214, 220, 222, 226, 231, 235].filterMap (fun i => tables_1_1[i]?) := by decide +kernel
theorem oxw1_0 (w : Cond) (h : w ∈ xl1_0) : w ∈ tables_1_1 := by
  rw [oxe1_0] at h
  obtain ⟨i, -, hi⟩ := List.mem_filterMap.mp h
  exact List.mem_of_getElem? hi
def xl2_0 : List Cond := [Cond.superclass RX4 "java/lang/Object", Cond.privateMethod yX3_fill, Cond.privateMethod yX3_fillProduct, Cond.privateMethod yX3_refuse]
theorem oxe2_0 : xl2_0 = [2, 13, 87, 91].filterMap (fun i => tables_1_2[i]?) := by decide +kernel
theorem oxw2_0 (w : Cond) (h : w ∈ xl2_0) : w ∈ tables_1_2 := by
  rw [oxe2_0] at h
  obtain ⟨i, -, hi⟩ := List.mem_filterMap.mp h
  exact List.mem_of_getElem? hi
def xl3_0 : List Cond := [Cond.stringRef RX2 7 "-", Cond.instantiable RJ4 4, Cond.instanceMethod yJ4_init_da8c8, Cond.instanceMethod yJ5_init_d00df, Cond.methodLink RJ5 3 Lib.objectInit, Cond.laysStatic "java/lang/String" "COMPACT_STRINGS" "Z", Cond.constant RJ2 20 (1073741823), Cond.superclass RJ4 RJ5, Cond.instanceMethod yJ4_length_8abf5, Cond.instanceMethod yJ5_length_8abf5, Cond.instanceMethod yJ4_append_cf468, Cond.instanceMethod yJ5_append_3fe6f, Cond.privateMethod yJ5_ensureCapacityInternal_d00df, Cond.instanceMethod yJ5_ensureCapacityInternal_d00df, Cond.privateMethod yJ5_newCapacity_0f7a4, Cond.instanceMethod yJ5_newCapacity_0f7a4, Cond.methodLink RJ8 194 Lib.Math.max.name, Cond.static Lib.Math.max.name, Cond.constant RJ8 200 (2147483639), Cond.constant RJ5 39 (2147483647), Cond.methodLink RJ7 310 ⟨"[B", "clone", "()Ljava/lang/Object;"⟩, Cond.sameMethod "[B" "java/lang/Object" "clone" "()Ljava/lang/Object;", Cond.native ⟨"java/lang/Object", "clone", "()Ljava/lang/Object;"⟩, Cond.instanceMethod ⟨"java/lang/Object", "clone", "()Ljava/lang/Object;"⟩, Cond.selects "[B" ⟨"[B", "clone", "()Ljava/lang/Object;"⟩ ⟨"java/lang/Object", "clone", "()Ljava/lang/Object;"⟩, Cond.castable "[B" "java/lang/Cloneable", Cond.methodLink RJ7 304 Lib.Math.min.name, Cond.static Lib.Math.min.name, Cond.methodLink RJ7 150 arraycopyName, Cond.static arraycopyName, Cond.native arraycopyName, Cond.instanceMethod yJ5_isLatin1_aae02, Cond.sameMethod "java/lang/AbstractStringBuilder" "java/lang/AbstractStringBuilder" "isLatin1" "()Z", Cond.selects RJ4 yJ5_isLatin1_aae02 yJ5_isLatin1_aae02, Cond.privateMethod yJ5_inflate_da8c8, Cond.instanceMethod yJ5_inflate_da8c8, Cond.laysStatic "jdk/internal/util/Preconditions" "SIOOBE_FORMATTER" "Ljava/util/function/BiFunction;", Cond.laysStatic "java/lang/StringUTF16" "$assertionsDisabled" "Z", Cond.laysStatic "java/lang/StringUTF16" "HI_BYTE_SHIFT" "I", Cond.laysStatic "java/lang/StringUTF16" "LO_BYTE_SHIFT" "I", Cond.instanceMethod yJ4_append_bf812, Cond.instanceMethod yJ5_append_c97b9, Cond.laysStatic "java/lang/Integer" "DigitOnes" "[B", Cond.laysStatic "java/lang/Integer" "DigitTens" "[B", Cond.instanceMethod yJ4_toString_0e30d, Cond.instantiable RJ0 4, Cond.instanceMethod yJ0_init_81219, Cond.instanceMethod yJ0_init_db425, Cond.methodLink RJ0 1 Lib.objectInit, Cond.instanceMethod yJ5_getValue_6d5f1]
theorem oxe3_0 : xl3_0 = [35, 37, 39, 42, 44, 46, 53, 66, 70, 74, 77, 81, 84, 85, 88, 89, 94, 95, 97, 101, 105, 106, 107, 108, 109, 110, 112, 113, 115, 116, 117, 119, 120, 121, 127, 128, 146, 154, 156, 158, 172, 176, 185, 187, 206, 210, 212, 215, 217, 219].filterMap (fun i => tables_1_3[i]?) := by decide +kernel
theorem oxw3_0 (w : Cond) (h : w ∈ xl3_0) : w ∈ tables_1_3 := by
  rw [oxe3_0] at h
  obtain ⟨i, -, hi⟩ := List.mem_filterMap.mp h
  exact List.mem_of_getElem? hi
def xl3_1 : List Cond := [Cond.sameMethod "java/lang/AbstractStringBuilder" "java/lang/AbstractStringBuilder" "getValue" "()[B", Cond.selects RJ4 yJ5_getValue_6d5f1 yJ5_getValue_6d5f1, Cond.stringRef RJ7 337 " > "]
theorem oxe3_1 : xl3_1 = [220, 221, 238].filterMap (fun i => tables_1_3[i]?) := by decide +kernel
theorem oxw3_1 (w : Cond) (h : w ∈ xl3_1) : w ∈ tables_1_3 := by
  rw [oxe3_1] at h
  obtain ⟨i, -, hi⟩ := List.mem_filterMap.mp h
  exact List.mem_of_getElem? hi
def xl4_0 : List Cond := [Cond.instanceMethod yJ4_append_15ec4, Cond.instanceMethod yJ5_append_cf1ce, Cond.privateMethod yJ5_appendNull_278bc, Cond.instanceMethod yJ5_appendNull_278bc, Cond.instanceMethod yJ0_length_8abf5, Cond.instanceMethod yJ0_coder_7d493, Cond.privateMethod yJ5_putStringAt_47b60, Cond.instanceMethod yJ5_putStringAt_47b60, Cond.privateMethod yJ5_inflateIfNeededFor_a7421, Cond.instanceMethod yJ5_inflateIfNeededFor_a7421, Cond.instanceMethod yJ0_getBytes_840e7, Cond.methodLink RJ0 212 arraycopyName, Cond.superclass RJ0 "java/lang/Object", Cond.stringRef RX2 37 "0", Cond.instanceMethod yJ4_reverse_43fcb, Cond.instanceMethod yJ5_reverse_278bc, Cond.constant RJ11 75 (55296), Cond.constant RJ11 77 (57344), Cond.constant RJ11 76 (56320), Cond.stringRef RX3 151 "!", Cond.instantiable RX5 5, Cond.methodLink RX5 1 Lib.objectInit, Cond.superclass RX5 "java/lang/Object"]
theorem oxe4_0 : xl4_0 = [0, 4, 7, 8, 14, 18, 23, 24, 27, 28, 32, 35, 62, 73, 78, 82, 96, 97, 104, 166, 217, 221, 237].filterMap (fun i => tables_1_4[i]?) := by decide +kernel
theorem oxw4_0 (w : Cond) (h : w ∈ xl4_0) : w ∈ tables_1_4 := by
  rw [oxe4_0] at h
  obtain ⟨i, -, hi⟩ := List.mem_filterMap.mp h
  exact List.mem_of_getElem? hi
def xl5_0 : List Cond := [Cond.privateMethod yX5_start, Cond.privateMethod yX5_refuse, Cond.privateMethod yX5_lay, Cond.privateMethod yX5_multiply, Cond.privateMethod yX5_layIf, Cond.privateMethod yX5_no, Cond.stringRef RX5 111 "", Cond.stringRef RX5 113 "-", Cond.stringRef RX5 132 "0123456789abcdefghijklmnopqrstuvwxyz", Cond.instanceMethod yJ0_charAt_5068e, Cond.instanceMethod yJ0_isLatin1_aae02, Cond.privateMethod yX5_side]
theorem oxe5_0 : xl5_0 = [13, 17, 22, 67, 77, 81, 193, 194, 205, 207, 211, 226].filterMap (fun i => tables_1_5[i]?) := by decide +kernel
theorem oxw5_0 (w : Cond) (h : w ∈ xl5_0) : w ∈ tables_1_5 := by
  rw [oxe5_0] at h
  obtain ⟨i, -, hi⟩ := List.mem_filterMap.mp h
  exact List.mem_of_getElem? hi
def xl6_0 : List Cond := [Cond.stringRef RX5 147 "!", Cond.laysStatic "CarryfreeModel" "MS" "[I", Cond.privateMethod yX5_found, Cond.privateMethod yX5_houseTold, Cond.privateMethod yX5_isWhole, Cond.sameMethod "java/lang/Throwable" "java/lang/Throwable" "fillInStackTrace" "(I)Ljava/lang/Throwable;", Cond.sameMethod "java/lang/AbstractStringBuilder" "java/lang/AbstractStringBuilder" "length" "()I", Cond.sameMethod "java/lang/AbstractStringBuilder" "java/lang/AbstractStringBuilder" "append" "(C)Ljava/lang/AbstractStringBuilder;", Cond.sameMethod "java/lang/AbstractStringBuilder" "java/lang/AbstractStringBuilder" "ensureCapacityInternal" "(I)V", Cond.sameMethod "java/lang/AbstractStringBuilder" "java/lang/AbstractStringBuilder" "newCapacity" "(I)I", Cond.sameMethod "java/lang/AbstractStringBuilder" "java/lang/AbstractStringBuilder" "inflate" "()V", Cond.sameMethod "java/lang/AbstractStringBuilder" "java/lang/AbstractStringBuilder" "append" "(I)Ljava/lang/AbstractStringBuilder;", Cond.selects RJ4 yJ5_length_8abf5 yJ4_length_8abf5, Cond.sameMethod "java/lang/AbstractStringBuilder" "java/lang/AbstractStringBuilder" "append" "(Ljava/lang/String;)Ljava/lang/AbstractStringBuilder;", Cond.sameMethod "java/lang/AbstractStringBuilder" "java/lang/AbstractStringBuilder" "appendNull" "()Ljava/lang/AbstractStringBuilder;", Cond.sameMethod "java/lang/AbstractStringBuilder" "java/lang/AbstractStringBuilder" "putStringAt" "(ILjava/lang/String;)V", Cond.sameMethod "java/lang/AbstractStringBuilder" "java/lang/AbstractStringBuilder" "inflateIfNeededFor" "(Ljava/lang/String;)V", Cond.sameMethod "java/lang/AbstractStringBuilder" "java/lang/AbstractStringBuilder" "reverse" "()Ljava/lang/AbstractStringBuilder;"]
theorem oxe6_0 : xl6_0 = [20, 37, 43, 51, 63, 75, 76, 77, 78, 79, 80, 81, 82, 83, 84, 85, 86, 87].filterMap (fun i => tables_1_6[i]?) := by decide +kernel
theorem oxw6_0 (w : Cond) (h : w ∈ xl6_0) : w ∈ tables_1_6 := by
  rw [oxe6_0] at h
  obtain ⟨i, -, hi⟩ := List.mem_filterMap.mp h
  exact List.mem_of_getElem? hi
theorem it_X3 : Cond.instantiable RX3 4 ∈ lw_tbl := tb1 (oxw1_0 (Cond.instantiable RX3 4) (List.mem_of_getElem? (i := 0) rfl))
theorem my_X3_1 : Cond.methodLink RX3 1 Lib.objectInit ∈ lw_tbl := tb1 (oxw1_0 (Cond.methodLink RX3 1 Lib.objectInit) (List.mem_of_getElem? (i := 1) rfl))
theorem im_java_lang_Object_init : Cond.instanceMethod Lib.objectInit ∈ lw_tbl := tb1 (oxw1_0 (Cond.instanceMethod Lib.objectInit) (List.mem_of_getElem? (i := 2) rfl))
theorem sp_X3 : Cond.superclass RX3 "java/lang/Object" ∈ lw_tbl := tb1 (oxw1_0 (Cond.superclass RX3 "java/lang/Object") (List.mem_of_getElem? (i := 3) rfl))
theorem pv_X3_polyIn : Cond.privateMethod yX3_polyIn ∈ lw_tbl := tb1 (oxw1_0 (Cond.privateMethod yX3_polyIn) (List.mem_of_getElem? (i := 4) rfl))
theorem pv_X3_checkCell : Cond.privateMethod yX3_checkCell ∈ lw_tbl := tb1 (oxw1_0 (Cond.privateMethod yX3_checkCell) (List.mem_of_getElem? (i := 5) rfl))
theorem it_java_lang_IndexOutOfBoundsException : Cond.instantiable "java/lang/IndexOutOfBoundsException" 6 ∈ lw_tbl := tb1 (oxw1_0 (Cond.instantiable "java/lang/IndexOutOfBoundsException" 6) (List.mem_of_getElem? (i := 6) rfl))
theorem ca_java_lang_IndexOutOfBoundsException : Cond.castable "java/lang/IndexOutOfBoundsException" "java/lang/IndexOutOfBoundsException" ∈ lw_tbl := tb1 (oxw1_0 (Cond.castable "java/lang/IndexOutOfBoundsException" "java/lang/IndexOutOfBoundsException") (List.mem_of_getElem? (i := 7) rfl))
theorem sp_java_lang_Throwable : Cond.superclass "java/lang/Throwable" "java/lang/Object" ∈ lw_tbl := tb1 (oxw1_0 (Cond.superclass "java/lang/Throwable" "java/lang/Object") (List.mem_of_getElem? (i := 8) rfl))
theorem ls_UNASSIGNED_STACK : Cond.laysStatic "java/lang/Throwable" "UNASSIGNED_STACK" "[Ljava/lang/StackTraceElement;" ∈ lw_tbl := tb1 (oxw1_0 (Cond.laysStatic "java/lang/Throwable" "UNASSIGNED_STACK" "[Ljava/lang/StackTraceElement;") (List.mem_of_getElem? (i := 9) rfl))
theorem ls_SUPPRESSED_SENTINEL : Cond.laysStatic "java/lang/Throwable" "SUPPRESSED_SENTINEL" "Ljava/util/List;" ∈ lw_tbl := tb1 (oxw1_0 (Cond.laysStatic "java/lang/Throwable" "SUPPRESSED_SENTINEL" "Ljava/util/List;") (List.mem_of_getElem? (i := 10) rfl))
theorem sm_java_lang_Throwable_fillInStackTrace : Cond.sameMethod "java/lang/Throwable" "java/lang/Throwable" "fillInStackTrace" "()Ljava/lang/Throwable;" ∈ lw_tbl := tb1 (oxw1_0 (Cond.sameMethod "java/lang/Throwable" "java/lang/Throwable" "fillInStackTrace" "()Ljava/lang/Throwable;") (List.mem_of_getElem? (i := 11) rfl))
theorem it_java_lang_Throwable : Cond.instantiable "java/lang/Throwable" 6 ∈ lw_tbl := tb1 (oxw1_0 (Cond.instantiable "java/lang/Throwable" 6) (List.mem_of_getElem? (i := 12) rfl))
theorem sr_X3_205 : Cond.stringRef RX3 205 "a cell is 0 to 5" ∈ lw_tbl := tb1 (oxw1_0 (Cond.stringRef RX3 205 "a cell is 0 to 5") (List.mem_of_getElem? (i := 13) rfl))
theorem sp_java_lang_IndexOutOfBoundsException : Cond.superclass "java/lang/IndexOutOfBoundsException" "java/lang/RuntimeException" ∈ lw_tbl := tb1 (oxw1_0 (Cond.superclass "java/lang/IndexOutOfBoundsException" "java/lang/RuntimeException") (List.mem_of_getElem? (i := 14) rfl))
theorem it_java_lang_IllegalArgumentException : Cond.instantiable "java/lang/IllegalArgumentException" 6 ∈ lw_tbl := tb1 (oxw1_0 (Cond.instantiable "java/lang/IllegalArgumentException" 6) (List.mem_of_getElem? (i := 15) rfl))
theorem ca_java_lang_IllegalArgumentException : Cond.castable "java/lang/IllegalArgumentException" "java/lang/IllegalArgumentException" ∈ lw_tbl := tb1 (oxw1_0 (Cond.castable "java/lang/IllegalArgumentException" "java/lang/IllegalArgumentException") (List.mem_of_getElem? (i := 16) rfl))
theorem sr_X3_212 : Cond.stringRef RX3 212 "a number is out of its range" ∈ lw_tbl := tb1 (oxw1_0 (Cond.stringRef RX3 212 "a number is out of its range") (List.mem_of_getElem? (i := 17) rfl))
theorem sp_java_lang_IllegalArgumentException : Cond.superclass "java/lang/IllegalArgumentException" "java/lang/RuntimeException" ∈ lw_tbl := tb1 (oxw1_0 (Cond.superclass "java/lang/IllegalArgumentException" "java/lang/RuntimeException") (List.mem_of_getElem? (i := 18) rfl))
theorem pv_X3_cellsWithZero : Cond.privateMethod yX3_cellsWithZero ∈ lw_tbl := tb1 (oxw1_0 (Cond.privateMethod yX3_cellsWithZero) (List.mem_of_getElem? (i := 19) rfl))
theorem pv_X3_allWeights : Cond.privateMethod yX3_allWeights ∈ lw_tbl := tb1 (oxw1_0 (Cond.privateMethod yX3_allWeights) (List.mem_of_getElem? (i := 20) rfl))
theorem it_X4 : Cond.instantiable RX4 2 ∈ lw_tbl := tb1 (oxw1_0 (Cond.instantiable RX4 2) (List.mem_of_getElem? (i := 21) rfl))
theorem my_X4_1 : Cond.methodLink RX4 1 Lib.objectInit ∈ lw_tbl := tb1 (oxw1_0 (Cond.methodLink RX4 1 Lib.objectInit) (List.mem_of_getElem? (i := 22) rfl))
theorem sp_X4 : Cond.superclass RX4 "java/lang/Object" ∈ lw_tbl := tb2 (oxw2_0 (Cond.superclass RX4 "java/lang/Object") (List.mem_of_getElem? (i := 0) rfl))
theorem pv_X3_fill : Cond.privateMethod yX3_fill ∈ lw_tbl := tb2 (oxw2_0 (Cond.privateMethod yX3_fill) (List.mem_of_getElem? (i := 1) rfl))
theorem pv_X3_fillProduct : Cond.privateMethod yX3_fillProduct ∈ lw_tbl := tb2 (oxw2_0 (Cond.privateMethod yX3_fillProduct) (List.mem_of_getElem? (i := 2) rfl))
theorem pv_X3_refuse : Cond.privateMethod yX3_refuse ∈ lw_tbl := tb2 (oxw2_0 (Cond.privateMethod yX3_refuse) (List.mem_of_getElem? (i := 3) rfl))
theorem sr_X2_7 : Cond.stringRef RX2 7 "-" ∈ lw_tbl := tb3 (oxw3_0 (Cond.stringRef RX2 7 "-") (List.mem_of_getElem? (i := 0) rfl))
theorem it_J4 : Cond.instantiable RJ4 4 ∈ lw_tbl := tb3 (oxw3_0 (Cond.instantiable RJ4 4) (List.mem_of_getElem? (i := 1) rfl))
theorem im_J4_init_da8c8 : Cond.instanceMethod yJ4_init_da8c8 ∈ lw_tbl := tb3 (oxw3_0 (Cond.instanceMethod yJ4_init_da8c8) (List.mem_of_getElem? (i := 2) rfl))
theorem im_J5_init_d00df : Cond.instanceMethod yJ5_init_d00df ∈ lw_tbl := tb3 (oxw3_0 (Cond.instanceMethod yJ5_init_d00df) (List.mem_of_getElem? (i := 3) rfl))
theorem my_J5_3 : Cond.methodLink RJ5 3 Lib.objectInit ∈ lw_tbl := tb3 (oxw3_0 (Cond.methodLink RJ5 3 Lib.objectInit) (List.mem_of_getElem? (i := 4) rfl))
theorem ls_COMPACT_STRINGS : Cond.laysStatic "java/lang/String" "COMPACT_STRINGS" "Z" ∈ lw_tbl := tb3 (oxw3_0 (Cond.laysStatic "java/lang/String" "COMPACT_STRINGS" "Z") (List.mem_of_getElem? (i := 5) rfl))
theorem ki_J2_20 : Cond.constant RJ2 20 (1073741823) ∈ lw_tbl := tb3 (oxw3_0 (Cond.constant RJ2 20 (1073741823)) (List.mem_of_getElem? (i := 6) rfl))
theorem sp_J4 : Cond.superclass RJ4 RJ5 ∈ lw_tbl := tb3 (oxw3_0 (Cond.superclass RJ4 RJ5) (List.mem_of_getElem? (i := 7) rfl))
theorem im_J4_length_8abf5 : Cond.instanceMethod yJ4_length_8abf5 ∈ lw_tbl := tb3 (oxw3_0 (Cond.instanceMethod yJ4_length_8abf5) (List.mem_of_getElem? (i := 8) rfl))
theorem im_J5_length_8abf5 : Cond.instanceMethod yJ5_length_8abf5 ∈ lw_tbl := tb3 (oxw3_0 (Cond.instanceMethod yJ5_length_8abf5) (List.mem_of_getElem? (i := 9) rfl))
theorem im_J4_append_cf468 : Cond.instanceMethod yJ4_append_cf468 ∈ lw_tbl := tb3 (oxw3_0 (Cond.instanceMethod yJ4_append_cf468) (List.mem_of_getElem? (i := 10) rfl))
theorem im_J5_append_3fe6f : Cond.instanceMethod yJ5_append_3fe6f ∈ lw_tbl := tb3 (oxw3_0 (Cond.instanceMethod yJ5_append_3fe6f) (List.mem_of_getElem? (i := 11) rfl))
theorem pv_J5_ensureCapacityInternal_d00df : Cond.privateMethod yJ5_ensureCapacityInternal_d00df ∈ lw_tbl := tb3 (oxw3_0 (Cond.privateMethod yJ5_ensureCapacityInternal_d00df) (List.mem_of_getElem? (i := 12) rfl))
theorem im_J5_ensureCapacityInternal_d00df : Cond.instanceMethod yJ5_ensureCapacityInternal_d00df ∈ lw_tbl := tb3 (oxw3_0 (Cond.instanceMethod yJ5_ensureCapacityInternal_d00df) (List.mem_of_getElem? (i := 13) rfl))
theorem pv_J5_newCapacity_0f7a4 : Cond.privateMethod yJ5_newCapacity_0f7a4 ∈ lw_tbl := tb3 (oxw3_0 (Cond.privateMethod yJ5_newCapacity_0f7a4) (List.mem_of_getElem? (i := 14) rfl))
theorem im_J5_newCapacity_0f7a4 : Cond.instanceMethod yJ5_newCapacity_0f7a4 ∈ lw_tbl := tb3 (oxw3_0 (Cond.instanceMethod yJ5_newCapacity_0f7a4) (List.mem_of_getElem? (i := 15) rfl))
theorem my_J8_194 : Cond.methodLink RJ8 194 Lib.Math.max.name ∈ lw_tbl := tb3 (oxw3_0 (Cond.methodLink RJ8 194 Lib.Math.max.name) (List.mem_of_getElem? (i := 16) rfl))
theorem sc_J9_max_I : Cond.static Lib.Math.max.name ∈ lw_tbl := tb3 (oxw3_0 (Cond.static Lib.Math.max.name) (List.mem_of_getElem? (i := 17) rfl))
theorem ki_J8_200 : Cond.constant RJ8 200 (2147483639) ∈ lw_tbl := tb3 (oxw3_0 (Cond.constant RJ8 200 (2147483639)) (List.mem_of_getElem? (i := 18) rfl))
theorem ki_J5_39 : Cond.constant RJ5 39 (2147483647) ∈ lw_tbl := tb3 (oxw3_0 (Cond.constant RJ5 39 (2147483647)) (List.mem_of_getElem? (i := 19) rfl))
theorem my_J7_310 : Cond.methodLink RJ7 310 ⟨"[B", "clone", "()Ljava/lang/Object;"⟩ ∈ lw_tbl := tb3 (oxw3_0 (Cond.methodLink RJ7 310 ⟨"[B", "clone", "()Ljava/lang/Object;"⟩) (List.mem_of_getElem? (i := 20) rfl))
theorem sm__B_clone : Cond.sameMethod "[B" "java/lang/Object" "clone" "()Ljava/lang/Object;" ∈ lw_tbl := tb3 (oxw3_0 (Cond.sameMethod "[B" "java/lang/Object" "clone" "()Ljava/lang/Object;") (List.mem_of_getElem? (i := 21) rfl))
theorem nv_java_lang_Object_clone : Cond.native ⟨"java/lang/Object", "clone", "()Ljava/lang/Object;"⟩ ∈ lw_tbl := tb3 (oxw3_0 (Cond.native ⟨"java/lang/Object", "clone", "()Ljava/lang/Object;"⟩) (List.mem_of_getElem? (i := 22) rfl))
theorem im_java_lang_Object_clone : Cond.instanceMethod ⟨"java/lang/Object", "clone", "()Ljava/lang/Object;"⟩ ∈ lw_tbl := tb3 (oxw3_0 (Cond.instanceMethod ⟨"java/lang/Object", "clone", "()Ljava/lang/Object;"⟩) (List.mem_of_getElem? (i := 23) rfl))
theorem sl_B_clone : Cond.selects "[B" ⟨"[B", "clone", "()Ljava/lang/Object;"⟩ ⟨"java/lang/Object", "clone", "()Ljava/lang/Object;"⟩ ∈ lw_tbl := tb3 (oxw3_0 (Cond.selects "[B" ⟨"[B", "clone", "()Ljava/lang/Object;"⟩ ⟨"java/lang/Object", "clone", "()Ljava/lang/Object;"⟩) (List.mem_of_getElem? (i := 24) rfl))
theorem ca__B : Cond.castable "[B" "java/lang/Cloneable" ∈ lw_tbl := tb3 (oxw3_0 (Cond.castable "[B" "java/lang/Cloneable") (List.mem_of_getElem? (i := 25) rfl))
theorem my_J7_304 : Cond.methodLink RJ7 304 Lib.Math.min.name ∈ lw_tbl := tb3 (oxw3_0 (Cond.methodLink RJ7 304 Lib.Math.min.name) (List.mem_of_getElem? (i := 26) rfl))
theorem sc_J9_min_I : Cond.static Lib.Math.min.name ∈ lw_tbl := tb3 (oxw3_0 (Cond.static Lib.Math.min.name) (List.mem_of_getElem? (i := 27) rfl))
theorem my_J7_150 : Cond.methodLink RJ7 150 arraycopyName ∈ lw_tbl := tb3 (oxw3_0 (Cond.methodLink RJ7 150 arraycopyName) (List.mem_of_getElem? (i := 28) rfl))
theorem sc_J10_arraycopy : Cond.static arraycopyName ∈ lw_tbl := tb3 (oxw3_0 (Cond.static arraycopyName) (List.mem_of_getElem? (i := 29) rfl))
theorem nv_J10_arraycopy : Cond.native arraycopyName ∈ lw_tbl := tb3 (oxw3_0 (Cond.native arraycopyName) (List.mem_of_getElem? (i := 30) rfl))
theorem im_J5_isLatin1_aae02 : Cond.instanceMethod yJ5_isLatin1_aae02 ∈ lw_tbl := tb3 (oxw3_0 (Cond.instanceMethod yJ5_isLatin1_aae02) (List.mem_of_getElem? (i := 31) rfl))
theorem sm_J5_isLatin1_aae02 : Cond.sameMethod "java/lang/AbstractStringBuilder" "java/lang/AbstractStringBuilder" "isLatin1" "()Z" ∈ lw_tbl := tb3 (oxw3_0 (Cond.sameMethod "java/lang/AbstractStringBuilder" "java/lang/AbstractStringBuilder" "isLatin1" "()Z") (List.mem_of_getElem? (i := 32) rfl))
theorem sl_J4_J5_isLatin1_aae02 : Cond.selects RJ4 yJ5_isLatin1_aae02 yJ5_isLatin1_aae02 ∈ lw_tbl := tb3 (oxw3_0 (Cond.selects RJ4 yJ5_isLatin1_aae02 yJ5_isLatin1_aae02) (List.mem_of_getElem? (i := 33) rfl))
theorem pv_J5_inflate_da8c8 : Cond.privateMethod yJ5_inflate_da8c8 ∈ lw_tbl := tb3 (oxw3_0 (Cond.privateMethod yJ5_inflate_da8c8) (List.mem_of_getElem? (i := 34) rfl))
theorem im_J5_inflate_da8c8 : Cond.instanceMethod yJ5_inflate_da8c8 ∈ lw_tbl := tb3 (oxw3_0 (Cond.instanceMethod yJ5_inflate_da8c8) (List.mem_of_getElem? (i := 35) rfl))
theorem ls_SIOOBE_FORMATTER : Cond.laysStatic "jdk/internal/util/Preconditions" "SIOOBE_FORMATTER" "Ljava/util/function/BiFunction;" ∈ lw_tbl := tb3 (oxw3_0 (Cond.laysStatic "jdk/internal/util/Preconditions" "SIOOBE_FORMATTER" "Ljava/util/function/BiFunction;") (List.mem_of_getElem? (i := 36) rfl))
theorem ls__assertionsDisabled : Cond.laysStatic "java/lang/StringUTF16" "$assertionsDisabled" "Z" ∈ lw_tbl := tb3 (oxw3_0 (Cond.laysStatic "java/lang/StringUTF16" "$assertionsDisabled" "Z") (List.mem_of_getElem? (i := 37) rfl))
theorem ls_HI_BYTE_SHIFT : Cond.laysStatic "java/lang/StringUTF16" "HI_BYTE_SHIFT" "I" ∈ lw_tbl := tb3 (oxw3_0 (Cond.laysStatic "java/lang/StringUTF16" "HI_BYTE_SHIFT" "I") (List.mem_of_getElem? (i := 38) rfl))
theorem ls_LO_BYTE_SHIFT : Cond.laysStatic "java/lang/StringUTF16" "LO_BYTE_SHIFT" "I" ∈ lw_tbl := tb3 (oxw3_0 (Cond.laysStatic "java/lang/StringUTF16" "LO_BYTE_SHIFT" "I") (List.mem_of_getElem? (i := 39) rfl))
theorem im_J4_append_bf812 : Cond.instanceMethod yJ4_append_bf812 ∈ lw_tbl := tb3 (oxw3_0 (Cond.instanceMethod yJ4_append_bf812) (List.mem_of_getElem? (i := 40) rfl))
theorem im_J5_append_c97b9 : Cond.instanceMethod yJ5_append_c97b9 ∈ lw_tbl := tb3 (oxw3_0 (Cond.instanceMethod yJ5_append_c97b9) (List.mem_of_getElem? (i := 41) rfl))
theorem ls_DigitOnes : Cond.laysStatic "java/lang/Integer" "DigitOnes" "[B" ∈ lw_tbl := tb3 (oxw3_0 (Cond.laysStatic "java/lang/Integer" "DigitOnes" "[B") (List.mem_of_getElem? (i := 42) rfl))
theorem ls_DigitTens : Cond.laysStatic "java/lang/Integer" "DigitTens" "[B" ∈ lw_tbl := tb3 (oxw3_0 (Cond.laysStatic "java/lang/Integer" "DigitTens" "[B") (List.mem_of_getElem? (i := 43) rfl))
theorem im_J4_toString_0e30d : Cond.instanceMethod yJ4_toString_0e30d ∈ lw_tbl := tb3 (oxw3_0 (Cond.instanceMethod yJ4_toString_0e30d) (List.mem_of_getElem? (i := 44) rfl))
theorem it_J0 : Cond.instantiable RJ0 4 ∈ lw_tbl := tb3 (oxw3_0 (Cond.instantiable RJ0 4) (List.mem_of_getElem? (i := 45) rfl))
theorem im_J0_init_81219 : Cond.instanceMethod yJ0_init_81219 ∈ lw_tbl := tb3 (oxw3_0 (Cond.instanceMethod yJ0_init_81219) (List.mem_of_getElem? (i := 46) rfl))
theorem im_J0_init_db425 : Cond.instanceMethod yJ0_init_db425 ∈ lw_tbl := tb3 (oxw3_0 (Cond.instanceMethod yJ0_init_db425) (List.mem_of_getElem? (i := 47) rfl))
theorem my_J0_1 : Cond.methodLink RJ0 1 Lib.objectInit ∈ lw_tbl := tb3 (oxw3_0 (Cond.methodLink RJ0 1 Lib.objectInit) (List.mem_of_getElem? (i := 48) rfl))
theorem im_J5_getValue_6d5f1 : Cond.instanceMethod yJ5_getValue_6d5f1 ∈ lw_tbl := tb3 (oxw3_0 (Cond.instanceMethod yJ5_getValue_6d5f1) (List.mem_of_getElem? (i := 49) rfl))
theorem sm_J5_getValue_6d5f1 : Cond.sameMethod "java/lang/AbstractStringBuilder" "java/lang/AbstractStringBuilder" "getValue" "()[B" ∈ lw_tbl := tb3 (oxw3_1 (Cond.sameMethod "java/lang/AbstractStringBuilder" "java/lang/AbstractStringBuilder" "getValue" "()[B") (List.mem_of_getElem? (i := 0) rfl))
theorem sl_J4_J5_getValue_6d5f1 : Cond.selects RJ4 yJ5_getValue_6d5f1 yJ5_getValue_6d5f1 ∈ lw_tbl := tb3 (oxw3_1 (Cond.selects RJ4 yJ5_getValue_6d5f1 yJ5_getValue_6d5f1) (List.mem_of_getElem? (i := 1) rfl))
theorem sr_J7_337 : Cond.stringRef RJ7 337 " > " ∈ lw_tbl := tb3 (oxw3_1 (Cond.stringRef RJ7 337 " > ") (List.mem_of_getElem? (i := 2) rfl))
theorem im_J4_append_15ec4 : Cond.instanceMethod yJ4_append_15ec4 ∈ lw_tbl := tb4 (oxw4_0 (Cond.instanceMethod yJ4_append_15ec4) (List.mem_of_getElem? (i := 0) rfl))
theorem im_J5_append_cf1ce : Cond.instanceMethod yJ5_append_cf1ce ∈ lw_tbl := tb4 (oxw4_0 (Cond.instanceMethod yJ5_append_cf1ce) (List.mem_of_getElem? (i := 1) rfl))
theorem pv_J5_appendNull_278bc : Cond.privateMethod yJ5_appendNull_278bc ∈ lw_tbl := tb4 (oxw4_0 (Cond.privateMethod yJ5_appendNull_278bc) (List.mem_of_getElem? (i := 2) rfl))
theorem im_J5_appendNull_278bc : Cond.instanceMethod yJ5_appendNull_278bc ∈ lw_tbl := tb4 (oxw4_0 (Cond.instanceMethod yJ5_appendNull_278bc) (List.mem_of_getElem? (i := 3) rfl))
theorem im_J0_length_8abf5 : Cond.instanceMethod yJ0_length_8abf5 ∈ lw_tbl := tb4 (oxw4_0 (Cond.instanceMethod yJ0_length_8abf5) (List.mem_of_getElem? (i := 4) rfl))
theorem im_J0_coder_7d493 : Cond.instanceMethod yJ0_coder_7d493 ∈ lw_tbl := tb4 (oxw4_0 (Cond.instanceMethod yJ0_coder_7d493) (List.mem_of_getElem? (i := 5) rfl))
theorem pv_J5_putStringAt_47b60 : Cond.privateMethod yJ5_putStringAt_47b60 ∈ lw_tbl := tb4 (oxw4_0 (Cond.privateMethod yJ5_putStringAt_47b60) (List.mem_of_getElem? (i := 6) rfl))
theorem im_J5_putStringAt_47b60 : Cond.instanceMethod yJ5_putStringAt_47b60 ∈ lw_tbl := tb4 (oxw4_0 (Cond.instanceMethod yJ5_putStringAt_47b60) (List.mem_of_getElem? (i := 7) rfl))
theorem pv_J5_inflateIfNeededFor_a7421 : Cond.privateMethod yJ5_inflateIfNeededFor_a7421 ∈ lw_tbl := tb4 (oxw4_0 (Cond.privateMethod yJ5_inflateIfNeededFor_a7421) (List.mem_of_getElem? (i := 8) rfl))
theorem im_J5_inflateIfNeededFor_a7421 : Cond.instanceMethod yJ5_inflateIfNeededFor_a7421 ∈ lw_tbl := tb4 (oxw4_0 (Cond.instanceMethod yJ5_inflateIfNeededFor_a7421) (List.mem_of_getElem? (i := 9) rfl))
theorem im_J0_getBytes_840e7 : Cond.instanceMethod yJ0_getBytes_840e7 ∈ lw_tbl := tb4 (oxw4_0 (Cond.instanceMethod yJ0_getBytes_840e7) (List.mem_of_getElem? (i := 10) rfl))
theorem my_J0_212 : Cond.methodLink RJ0 212 arraycopyName ∈ lw_tbl := tb4 (oxw4_0 (Cond.methodLink RJ0 212 arraycopyName) (List.mem_of_getElem? (i := 11) rfl))
theorem sp_J0 : Cond.superclass RJ0 "java/lang/Object" ∈ lw_tbl := tb4 (oxw4_0 (Cond.superclass RJ0 "java/lang/Object") (List.mem_of_getElem? (i := 12) rfl))
theorem sr_X2_37 : Cond.stringRef RX2 37 "0" ∈ lw_tbl := tb4 (oxw4_0 (Cond.stringRef RX2 37 "0") (List.mem_of_getElem? (i := 13) rfl))
theorem im_J4_reverse_43fcb : Cond.instanceMethod yJ4_reverse_43fcb ∈ lw_tbl := tb4 (oxw4_0 (Cond.instanceMethod yJ4_reverse_43fcb) (List.mem_of_getElem? (i := 14) rfl))
theorem im_J5_reverse_278bc : Cond.instanceMethod yJ5_reverse_278bc ∈ lw_tbl := tb4 (oxw4_0 (Cond.instanceMethod yJ5_reverse_278bc) (List.mem_of_getElem? (i := 15) rfl))
theorem ki_J11_75 : Cond.constant RJ11 75 (55296) ∈ lw_tbl := tb4 (oxw4_0 (Cond.constant RJ11 75 (55296)) (List.mem_of_getElem? (i := 16) rfl))
theorem ki_J11_77 : Cond.constant RJ11 77 (57344) ∈ lw_tbl := tb4 (oxw4_0 (Cond.constant RJ11 77 (57344)) (List.mem_of_getElem? (i := 17) rfl))
theorem ki_J11_76 : Cond.constant RJ11 76 (56320) ∈ lw_tbl := tb4 (oxw4_0 (Cond.constant RJ11 76 (56320)) (List.mem_of_getElem? (i := 18) rfl))
theorem sr_X3_151 : Cond.stringRef RX3 151 "!" ∈ lw_tbl := tb4 (oxw4_0 (Cond.stringRef RX3 151 "!") (List.mem_of_getElem? (i := 19) rfl))
theorem it_X5 : Cond.instantiable RX5 5 ∈ lw_tbl := tb4 (oxw4_0 (Cond.instantiable RX5 5) (List.mem_of_getElem? (i := 20) rfl))
theorem my_X5_1 : Cond.methodLink RX5 1 Lib.objectInit ∈ lw_tbl := tb4 (oxw4_0 (Cond.methodLink RX5 1 Lib.objectInit) (List.mem_of_getElem? (i := 21) rfl))
theorem sp_X5 : Cond.superclass RX5 "java/lang/Object" ∈ lw_tbl := tb4 (oxw4_0 (Cond.superclass RX5 "java/lang/Object") (List.mem_of_getElem? (i := 22) rfl))
theorem pv_X5_start : Cond.privateMethod yX5_start ∈ lw_tbl := tb5 (oxw5_0 (Cond.privateMethod yX5_start) (List.mem_of_getElem? (i := 0) rfl))
theorem pv_X5_refuse : Cond.privateMethod yX5_refuse ∈ lw_tbl := tb5 (oxw5_0 (Cond.privateMethod yX5_refuse) (List.mem_of_getElem? (i := 1) rfl))
theorem pv_X5_lay : Cond.privateMethod yX5_lay ∈ lw_tbl := tb5 (oxw5_0 (Cond.privateMethod yX5_lay) (List.mem_of_getElem? (i := 2) rfl))
theorem pv_X5_multiply : Cond.privateMethod yX5_multiply ∈ lw_tbl := tb5 (oxw5_0 (Cond.privateMethod yX5_multiply) (List.mem_of_getElem? (i := 3) rfl))
theorem pv_X5_layIf : Cond.privateMethod yX5_layIf ∈ lw_tbl := tb5 (oxw5_0 (Cond.privateMethod yX5_layIf) (List.mem_of_getElem? (i := 4) rfl))
theorem pv_X5_no : Cond.privateMethod yX5_no ∈ lw_tbl := tb5 (oxw5_0 (Cond.privateMethod yX5_no) (List.mem_of_getElem? (i := 5) rfl))
theorem sr_X5_111 : Cond.stringRef RX5 111 "" ∈ lw_tbl := tb5 (oxw5_0 (Cond.stringRef RX5 111 "") (List.mem_of_getElem? (i := 6) rfl))
theorem sr_X5_113 : Cond.stringRef RX5 113 "-" ∈ lw_tbl := tb5 (oxw5_0 (Cond.stringRef RX5 113 "-") (List.mem_of_getElem? (i := 7) rfl))
theorem sr_X5_132 : Cond.stringRef RX5 132 "0123456789abcdefghijklmnopqrstuvwxyz" ∈ lw_tbl := tb5 (oxw5_0 (Cond.stringRef RX5 132 "0123456789abcdefghijklmnopqrstuvwxyz") (List.mem_of_getElem? (i := 8) rfl))
theorem im_J0_charAt_5068e : Cond.instanceMethod yJ0_charAt_5068e ∈ lw_tbl := tb5 (oxw5_0 (Cond.instanceMethod yJ0_charAt_5068e) (List.mem_of_getElem? (i := 9) rfl))
theorem im_J0_isLatin1_aae02 : Cond.instanceMethod yJ0_isLatin1_aae02 ∈ lw_tbl := tb5 (oxw5_0 (Cond.instanceMethod yJ0_isLatin1_aae02) (List.mem_of_getElem? (i := 10) rfl))
theorem pv_X5_side : Cond.privateMethod yX5_side ∈ lw_tbl := tb5 (oxw5_0 (Cond.privateMethod yX5_side) (List.mem_of_getElem? (i := 11) rfl))
theorem sr_X5_147 : Cond.stringRef RX5 147 "!" ∈ lw_tbl := tb6 (oxw6_0 (Cond.stringRef RX5 147 "!") (List.mem_of_getElem? (i := 0) rfl))
theorem ls_MS : Cond.laysStatic "CarryfreeModel" "MS" "[I" ∈ lw_tbl := tb6 (oxw6_0 (Cond.laysStatic "CarryfreeModel" "MS" "[I") (List.mem_of_getElem? (i := 1) rfl))
theorem pv_X5_found : Cond.privateMethod yX5_found ∈ lw_tbl := tb6 (oxw6_0 (Cond.privateMethod yX5_found) (List.mem_of_getElem? (i := 2) rfl))
theorem pv_X5_houseTold : Cond.privateMethod yX5_houseTold ∈ lw_tbl := tb6 (oxw6_0 (Cond.privateMethod yX5_houseTold) (List.mem_of_getElem? (i := 3) rfl))
theorem pv_X5_isWhole : Cond.privateMethod yX5_isWhole ∈ lw_tbl := tb6 (oxw6_0 (Cond.privateMethod yX5_isWhole) (List.mem_of_getElem? (i := 4) rfl))
theorem sm_java_lang_Throwable_fillInStackTrace_2 : Cond.sameMethod "java/lang/Throwable" "java/lang/Throwable" "fillInStackTrace" "(I)Ljava/lang/Throwable;" ∈ lw_tbl := tb6 (oxw6_0 (Cond.sameMethod "java/lang/Throwable" "java/lang/Throwable" "fillInStackTrace" "(I)Ljava/lang/Throwable;") (List.mem_of_getElem? (i := 5) rfl))
theorem sm_J5_length_8abf5 : Cond.sameMethod "java/lang/AbstractStringBuilder" "java/lang/AbstractStringBuilder" "length" "()I" ∈ lw_tbl := tb6 (oxw6_0 (Cond.sameMethod "java/lang/AbstractStringBuilder" "java/lang/AbstractStringBuilder" "length" "()I") (List.mem_of_getElem? (i := 6) rfl))
theorem sm_J5_append_3fe6f : Cond.sameMethod "java/lang/AbstractStringBuilder" "java/lang/AbstractStringBuilder" "append" "(C)Ljava/lang/AbstractStringBuilder;" ∈ lw_tbl := tb6 (oxw6_0 (Cond.sameMethod "java/lang/AbstractStringBuilder" "java/lang/AbstractStringBuilder" "append" "(C)Ljava/lang/AbstractStringBuilder;") (List.mem_of_getElem? (i := 7) rfl))
theorem sm_J5_ensureCapacityInternal_d00df : Cond.sameMethod "java/lang/AbstractStringBuilder" "java/lang/AbstractStringBuilder" "ensureCapacityInternal" "(I)V" ∈ lw_tbl := tb6 (oxw6_0 (Cond.sameMethod "java/lang/AbstractStringBuilder" "java/lang/AbstractStringBuilder" "ensureCapacityInternal" "(I)V") (List.mem_of_getElem? (i := 8) rfl))
theorem sm_J5_newCapacity_0f7a4 : Cond.sameMethod "java/lang/AbstractStringBuilder" "java/lang/AbstractStringBuilder" "newCapacity" "(I)I" ∈ lw_tbl := tb6 (oxw6_0 (Cond.sameMethod "java/lang/AbstractStringBuilder" "java/lang/AbstractStringBuilder" "newCapacity" "(I)I") (List.mem_of_getElem? (i := 9) rfl))
theorem sm_J5_inflate_da8c8 : Cond.sameMethod "java/lang/AbstractStringBuilder" "java/lang/AbstractStringBuilder" "inflate" "()V" ∈ lw_tbl := tb6 (oxw6_0 (Cond.sameMethod "java/lang/AbstractStringBuilder" "java/lang/AbstractStringBuilder" "inflate" "()V") (List.mem_of_getElem? (i := 10) rfl))
theorem sm_J5_append_c97b9 : Cond.sameMethod "java/lang/AbstractStringBuilder" "java/lang/AbstractStringBuilder" "append" "(I)Ljava/lang/AbstractStringBuilder;" ∈ lw_tbl := tb6 (oxw6_0 (Cond.sameMethod "java/lang/AbstractStringBuilder" "java/lang/AbstractStringBuilder" "append" "(I)Ljava/lang/AbstractStringBuilder;") (List.mem_of_getElem? (i := 11) rfl))
theorem sl_J4_J5_length_8abf5 : Cond.selects RJ4 yJ5_length_8abf5 yJ4_length_8abf5 ∈ lw_tbl := tb6 (oxw6_0 (Cond.selects RJ4 yJ5_length_8abf5 yJ4_length_8abf5) (List.mem_of_getElem? (i := 12) rfl))
theorem sm_J5_append_cf1ce : Cond.sameMethod "java/lang/AbstractStringBuilder" "java/lang/AbstractStringBuilder" "append" "(Ljava/lang/String;)Ljava/lang/AbstractStringBuilder;" ∈ lw_tbl := tb6 (oxw6_0 (Cond.sameMethod "java/lang/AbstractStringBuilder" "java/lang/AbstractStringBuilder" "append" "(Ljava/lang/String;)Ljava/lang/AbstractStringBuilder;") (List.mem_of_getElem? (i := 13) rfl))
theorem sm_J5_appendNull_278bc : Cond.sameMethod "java/lang/AbstractStringBuilder" "java/lang/AbstractStringBuilder" "appendNull" "()Ljava/lang/AbstractStringBuilder;" ∈ lw_tbl := tb6 (oxw6_0 (Cond.sameMethod "java/lang/AbstractStringBuilder" "java/lang/AbstractStringBuilder" "appendNull" "()Ljava/lang/AbstractStringBuilder;") (List.mem_of_getElem? (i := 14) rfl))
theorem sm_J5_putStringAt_47b60 : Cond.sameMethod "java/lang/AbstractStringBuilder" "java/lang/AbstractStringBuilder" "putStringAt" "(ILjava/lang/String;)V" ∈ lw_tbl := tb6 (oxw6_0 (Cond.sameMethod "java/lang/AbstractStringBuilder" "java/lang/AbstractStringBuilder" "putStringAt" "(ILjava/lang/String;)V") (List.mem_of_getElem? (i := 15) rfl))
theorem sm_J5_inflateIfNeededFor_a7421 : Cond.sameMethod "java/lang/AbstractStringBuilder" "java/lang/AbstractStringBuilder" "inflateIfNeededFor" "(Ljava/lang/String;)V" ∈ lw_tbl := tb6 (oxw6_0 (Cond.sameMethod "java/lang/AbstractStringBuilder" "java/lang/AbstractStringBuilder" "inflateIfNeededFor" "(Ljava/lang/String;)V") (List.mem_of_getElem? (i := 16) rfl))
theorem sm_J5_reverse_278bc : Cond.sameMethod "java/lang/AbstractStringBuilder" "java/lang/AbstractStringBuilder" "reverse" "()Ljava/lang/AbstractStringBuilder;" ∈ lw_tbl := tb6 (oxw6_0 (Cond.sameMethod "java/lang/AbstractStringBuilder" "java/lang/AbstractStringBuilder" "reverse" "()Ljava/lang/AbstractStringBuilder;") (List.mem_of_getElem? (i := 17) rfl))
theorem cd_J5_init_d00df : Cond.code yJ5_init_d00df cJ5_init_d00df 2 none ∈ lw_tbl := tb3 (List.mem_of_getElem? (i := 43) rfl)
theorem cd_J5_length_8abf5 : Cond.code yJ5_length_8abf5 cJ5_length_8abf5 1 (some .int) ∈ lw_tbl := tb3 (List.mem_of_getElem? (i := 75) rfl)
theorem cd_J5_append_3fe6f : Cond.code yJ5_append_3fe6f cJ5_append_3fe6f 2 (some (.object "java/lang/AbstractStringBuilder")) ∈ lw_tbl := tb3 (List.mem_of_getElem? (i := 82) rfl)
theorem cd_J5_ensureCapacityInternal_d00df : Cond.code yJ5_ensureCapacityInternal_d00df cJ5_ensureCapacityInternal_d00df 3 none ∈ lw_tbl := tb3 (List.mem_of_getElem? (i := 86) rfl)
theorem cd_J5_newCapacity_0f7a4 : Cond.code yJ5_newCapacity_0f7a4 cJ5_newCapacity_0f7a4 6 (some .int) ∈ lw_tbl := tb3 (List.mem_of_getElem? (i := 90) rfl)
theorem cd_J5_isLatin1_aae02 : Cond.code yJ5_isLatin1_aae02 cJ5_isLatin1_aae02 1 (some .boolean) ∈ lw_tbl := tb3 (List.mem_of_getElem? (i := 122) rfl)
theorem cd_J5_inflate_da8c8 : Cond.code yJ5_inflate_da8c8 cJ5_inflate_da8c8 2 none ∈ lw_tbl := tb3 (List.mem_of_getElem? (i := 129) rfl)
theorem cd_J5_append_c97b9 : Cond.code yJ5_append_c97b9 cJ5_append_c97b9 4 (some (.object "java/lang/AbstractStringBuilder")) ∈ lw_tbl := tb3 (List.mem_of_getElem? (i := 177) rfl)
theorem cd_J5_getValue_6d5f1 : Cond.code yJ5_getValue_6d5f1 cJ5_getValue_6d5f1 1 (some (.array .byte)) ∈ lw_tbl := tb3 (List.mem_of_getElem? (i := 222) rfl)
theorem cd_J5_append_cf1ce : Cond.code yJ5_append_cf1ce cJ5_append_cf1ce 3 (some (.object "java/lang/AbstractStringBuilder")) ∈ lw_tbl := tb4 (List.mem_of_getElem? (i := 5) rfl)
theorem cd_J5_appendNull_278bc : Cond.code yJ5_appendNull_278bc cJ5_appendNull_278bc 3 (some (.object "java/lang/AbstractStringBuilder")) ∈ lw_tbl := tb4 (List.mem_of_getElem? (i := 9) rfl)
theorem cd_J5_putStringAt_47b60 : Cond.code yJ5_putStringAt_47b60 cJ5_putStringAt_47b60 3 none ∈ lw_tbl := tb4 (List.mem_of_getElem? (i := 25) rfl)
theorem cd_J5_inflateIfNeededFor_a7421 : Cond.code yJ5_inflateIfNeededFor_a7421 cJ5_inflateIfNeededFor_a7421 2 none ∈ lw_tbl := tb4 (List.mem_of_getElem? (i := 29) rfl)
theorem cd_J5_reverse_278bc : Cond.code yJ5_reverse_278bc cJ5_reverse_278bc 7 (some (.object "java/lang/AbstractStringBuilder")) ∈ lw_tbl := tb4 (List.mem_of_getElem? (i := 83) rfl)
theorem cd_oi : Cond.code Lib.objectInit ⟨#[0xb1]⟩ 1 none ∈ lw_tbl := tb1 (List.mem_of_getElem? (i := 32) rfl)
theorem cd_mxI : Cond.code Lib.Math.max.name Lib.Math.max.code 2 (some .int) ∈ lw_tbl := tb3 (List.mem_of_getElem? (i := 96) rfl)
theorem cd_mnI : Cond.code Lib.Math.min.name Lib.Math.min.code 2 (some .int) ∈ lw_tbl := tb3 (List.mem_of_getElem? (i := 114) rfl)
