/-! ===== further words of the tables ===== -/
def xl1_0 : List Cond := [Cond.instantiable RX3 4, Cond.methodLink RX3 1 Lib.objectInit, Cond.instanceMethod Lib.objectInit, Cond.superclass RX3 "java/lang/Object", Cond.privateMethod yX3_polyIn, Cond.privateMethod yX3_checkCell, Cond.instantiable "java/lang/IndexOutOfBoundsException" 6, Cond.castable "java/lang/IndexOutOfBoundsException" "java/lang/IndexOutOfBoundsException", Cond.superclass "java/lang/Throwable" "java/lang/Object", Cond.laysStatic "java/lang/Throwable" "UNASSIGNED_STACK" "[Ljava/lang/StackTraceElement;", Cond.laysStatic "java/lang/Throwable" "SUPPRESSED_SENTINEL" "Ljava/util/List;", Cond.sameMethod "java/lang/Throwable" "java/lang/Throwable" "fillInStackTrace" "()Ljava/lang/Throwable;", Cond.instantiable "java/lang/Throwable" 6, Cond.stringRef RX3 205 "a cell is 0 to 5", Cond.superclass "java/lang/IndexOutOfBoundsException" "java/lang/RuntimeException", Cond.instantiable "java/lang/IllegalArgumentException" 6, Cond.castable "java/lang/IllegalArgumentException" "java/lang/IllegalArgumentException", Cond.stringRef RX3 212 "a number is out of its range", Cond.superclass "java/lang/IllegalArgumentException" "java/lang/RuntimeException", Cond.privateMethod yX3_cellsWithZero, Cond.privateMethod yX3_allWeights, Cond.instantiable RX4 2, Cond.methodLink RX4 1 Lib.objectInit]
theorem oxe1_0 : xl1_0 = [26, 30, 31, 45, 65, 69, 73, 74, 94, 99, 101, 104, 110, 112, 137, 206, 207, 214, 220, 222, 226, 231, 235].filterMap (fun i => tables_1_1[i]?) := by decide +kernel
theorem oxw1_0 (w : Cond) (h : w ∈ xl1_0) : w ∈ tables_1_1 := by
  rw [oxe1_0] at h
  obtain ⟨i, -, hi⟩ := List.mem_filterMap.mp h
  exact List.mem_of_getElem? hi
def xl2_0 : List Cond := [Cond.superclass RX4 "java/lang/Object", Cond.privateMethod yX3_fill, Cond.privateMethod yX3_fillProduct, Cond.privateMethod yX3_refuse]
theorem oxe2_0 : xl2_0 = [2, 13, 87, 91].filterMap (fun i => tables_1_2[i]?) := by decide +kernel
theorem oxw2_0 (w : Cond) (h : w ∈ xl2_0) : w ∈ tables_1_2 := by
  rw [oxe2_0] at h
  obtain ⟨i, -, hi⟩ := List.mem_filterMap.mp h
  exact List.mem_of_getElem? hi
def xl3_0 : List Cond := [Cond.stringRef RX2 7 "-", Cond.instantiable RJ4 4, Cond.instanceMethod yJ4_init_da8c8, Cond.instanceMethod yJ5_init_d00df, Cond.methodLink RJ5 3 Lib.objectInit, Cond.laysStatic "java/lang/String" "COMPACT_STRINGS" "Z", Cond.constant RJ2 20 (1073741823), Cond.superclass RJ4 RJ5, Cond.instanceMethod yJ4_length_8abf5, Cond.instanceMethod yJ5_length_8abf5, Cond.instanceMethod yJ4_append_cf468, Cond.instanceMethod yJ5_append_3fe6f, Cond.privateMethod yJ5_ensureCapacityInternal_d00df, Cond.instanceMethod yJ5_ensureCapacityInternal_d00df, Cond.privateMethod yJ5_newCapacity_0f7a4, Cond.instanceMethod yJ5_newCapacity_0f7a4, Cond.methodLink RJ8 194 Lib.Math.max.name, Cond.static Lib.Math.max.name, Cond.constant RJ8 200 (2147483639), Cond.constant RJ5 39 (2147483647), Cond.methodLink RJ7 310 ⟨"[B", "clone", "()Ljava/lang/Object;"⟩, Cond.sameMethod "[B" "java/lang/Object" "clone" "()Ljava/lang/Object;", Cond.native ⟨"java/lang/Object", "clone", "()Ljava/lang/Object;"⟩, Cond.instanceMethod ⟨"java/lang/Object", "clone", "()Ljava/lang/Object;"⟩, Cond.selects "[B" ⟨"[B", "clone", "()Ljava/lang/Object;"⟩ ⟨"java/lang/Object", "clone", "()Ljava/lang/Object;"⟩, Cond.castable "[B" "java/lang/Cloneable", Cond.methodLink RJ7 304 Lib.Math.min.name, Cond.static Lib.Math.min.name, Cond.methodLink RJ7 150 arraycopyName, Cond.static arraycopyName, Cond.native arraycopyName, Cond.instanceMethod yJ5_isLatin1_aae02, Cond.sameMethod "java/lang/AbstractStringBuilder" "java/lang/AbstractStringBuilder" "isLatin1" "()Z", Cond.selects RJ4 yJ5_isLatin1_aae02 yJ5_isLatin1_aae02, Cond.privateMethod yJ5_inflate_da8c8, Cond.instanceMethod yJ5_inflate_da8c8, Cond.laysStatic "jdk/internal/util/Preconditions" "SIOOBE_FORMATTER" "Ljava/util/function/BiFunction;", Cond.laysStatic "java/lang/StringUTF16" "$assertionsDisabled" "Z", Cond.laysStatic "java/lang/StringUTF16" "HI_BYTE_SHIFT" "I", Cond.laysStatic "java/lang/StringUTF16" "LO_BYTE_SHIFT" "I", Cond.instanceMethod yJ4_append_bf812, Cond.instanceMethod yJ5_append_c97b9, Cond.laysStatic "java/lang/Integer" "DigitOnes" "[B", Cond.laysStatic "java/lang/Integer" "DigitTens" "[B", Cond.instanceMethod yJ4_toString_0e30d, Cond.instantiable RJ0 4, Cond.instanceMethod yJ0_init_81219, Cond.instanceMethod yJ0_init_db425, Cond.methodLink RJ0 1 Lib.objectInit, Cond.instanceMethod yJ5_getValue_6d5f1]
theorem oxe3_0 : xl3_0 = [35, 37, 39, 42, 44, 46, 53, 66, 70, 74, 77, 81, 84, 85, 88, 89, 94, 95, 97, 101, 105, 106, 107, 108, 109, 110, 112, 113, 115, 116, 117, 119, 120, 121, 127, 128, 146, 154, 156, 158, 172, 176, 185, 187, 206, 210, 212, 215, 217, 219].filterMap (fun i => tables_1_3[i]?) := by decide +kernel
theorem oxw3_0 (w : Cond) (h : w ∈ xl3_0) : w ∈ tables_1_3 := by
  rw [oxe3_0] at h
  obtain ⟨i, -, hi⟩ := List.mem_filterMap.mp h
  exact List.mem_of_getElem? hi
def xl3_1 : List Cond := [Cond.sameMethod "java/lang/AbstractStringBuilder" "java/lang/AbstractStringBuilder" "getValue" "()[B", Cond.selects RJ4 yJ5_getValue_6d5f1 yJ5_getValue_6d5f1, Cond.stringRef RJ7 337 " > "]
theorem oxe3_1 : xl3_1 = [220, 221, 238].filterMap (fun i => tables_1_3[i]?) := by decide +kernel
theorem oxw3_1 (w : Cond) (h : w ∈ xl3_1) : w ∈ tables_1_3 := by
  rw [oxe3_1] at h
  obtain ⟨i, -, hi⟩ := List.mem_filterMap.mp h
  exact List.mem_of_getElem? hi
def xl4_0 : List Cond := [Cond.instanceMethod yJ4_append_15ec4, Cond.instanceMethod yJ5_append_cf1ce, Cond.privateMethod yJ5_appendNull_278bc, Cond.instanceMethod yJ5_appendNull_278bc, Cond.instanceMethod yJ0_length_8abf5, Cond.instanceMethod yJ0_coder_7d493, Cond.privateMethod yJ5_putStringAt_47b60, Cond.instanceMethod yJ5_putStringAt_47b60, Cond.privateMethod yJ5_inflateIfNeededFor_a7421, Cond.instanceMethod yJ5_inflateIfNeededFor_a7421, Cond.instanceMethod yJ0_getBytes_840e7, Cond.methodLink RJ0 212 arraycopyName, Cond.superclass RJ0 "java/lang/Object", Cond.stringRef RX2 37 "0", Cond.instanceMethod yJ4_reverse_43fcb, Cond.instanceMethod yJ5_reverse_278bc, Cond.constant RJ11 75 (55296), Cond.constant RJ11 77 (57344), Cond.constant RJ11 76 (56320), Cond.stringRef RX3 151 "!", Cond.instantiable RX5 5, Cond.methodLink RX5 1 Lib.objectInit, Cond.superclass RX5 "java/lang/Object"]
theorem oxe4_0 : xl4_0 = [0, 4, 7, 8, 14, 18, 23, 24, 27, 28, 32, 35, 62, 73, 78, 82, 96, 97, 104, 166, 217, 221, 237].filterMap (fun i => tables_1_4[i]?) := by decide +kernel
theorem oxw4_0 (w : Cond) (h : w ∈ xl4_0) : w ∈ tables_1_4 := by
  rw [oxe4_0] at h
  obtain ⟨i, -, hi⟩ := List.mem_filterMap.mp h
  exact List.mem_of_getElem? hi
def xl5_0 : List Cond := [Cond.privateMethod yX5_start, Cond.privateMethod yX5_refuse, Cond.privateMethod yX5_lay, Cond.privateMethod yX5_multiply, Cond.privateMethod yX5_layIf, Cond.privateMethod yX5_no, Cond.stringRef RX5 111 "", Cond.stringRef RX5 113 "-", Cond.stringRef RX5 132 "0123456789abcdefghijklmnopqrstuvwxyz", Cond.instanceMethod yJ0_charAt_5068e, Cond.instanceMethod yJ0_isLatin1_aae02, Cond.privateMethod yX5_side]
theorem oxe5_0 : xl5_0 = [9, 13, 18, 63, 73, 77, 189, 190, 201, 203, 207, 222].filterMap (fun i => tables_1_5[i]?) := by decide +kernel
theorem oxw5_0 (w : Cond) (h : w ∈ xl5_0) : w ∈ tables_1_5 := by
  rw [oxe5_0] at h
  obtain ⟨i, -, hi⟩ := List.mem_filterMap.mp h
  exact List.mem_of_getElem? hi
def xl6_0 : List Cond := [Cond.stringRef RX5 147 "!", Cond.laysStatic "CarryfreeModel" "MS" "[I", Cond.privateMethod yX5_found, Cond.privateMethod yX5_houseTold, Cond.privateMethod yX5_isWhole, Cond.sameMethod "java/lang/Throwable" "java/lang/Throwable" "fillInStackTrace" "(I)Ljava/lang/Throwable;", Cond.sameMethod "java/lang/AbstractStringBuilder" "java/lang/AbstractStringBuilder" "length" "()I", Cond.sameMethod "java/lang/AbstractStringBuilder" "java/lang/AbstractStringBuilder" "append" "(C)Ljava/lang/AbstractStringBuilder;", Cond.sameMethod "java/lang/AbstractStringBuilder" "java/lang/AbstractStringBuilder" "ensureCapacityInternal" "(I)V", Cond.sameMethod "java/lang/AbstractStringBuilder" "java/lang/AbstractStringBuilder" "newCapacity" "(I)I", Cond.sameMethod "java/lang/AbstractStringBuilder" "java/lang/AbstractStringBuilder" "inflate" "()V", Cond.sameMethod "java/lang/AbstractStringBuilder" "java/lang/AbstractStringBuilder" "append" "(I)Ljava/lang/AbstractStringBuilder;", Cond.selects RJ4 yJ5_length_8abf5 yJ4_length_8abf5, Cond.sameMethod "java/lang/AbstractStringBuilder" "java/lang/AbstractStringBuilder" "append" "(Ljava/lang/String;)Ljava/lang/AbstractStringBuilder;", Cond.sameMethod "java/lang/AbstractStringBuilder" "java/lang/AbstractStringBuilder" "appendNull" "()Ljava/lang/AbstractStringBuilder;", Cond.sameMethod "java/lang/AbstractStringBuilder" "java/lang/AbstractStringBuilder" "putStringAt" "(ILjava/lang/String;)V", Cond.sameMethod "java/lang/AbstractStringBuilder" "java/lang/AbstractStringBuilder" "inflateIfNeededFor" "(Ljava/lang/String;)V", Cond.sameMethod "java/lang/AbstractStringBuilder" "java/lang/AbstractStringBuilder" "reverse" "()Ljava/lang/AbstractStringBuilder;"]
theorem oxe6_0 : xl6_0 = [16, 33, 39, 47, 59, 71, 72, 73, 74, 75, 76, 77, 78, 79, 80, 81, 82, 83].filterMap (fun i => tables_1_6[i]?) := by decide +kernel
theorem oxw6_0 (w : Cond) (h : w ∈ xl6_0) : w ∈ tables_1_6 := by
  rw [oxe6_0] at h
  obtain ⟨i, -, hi⟩ := List.mem_filterMap.mp h
  exact List.mem_of_getElem? hi
theorem it_X3 : Cond.instantiable RX3 4 ∈ lw_tbl := tb1 (oxw1_0 (Cond.instantiable RX3 4) (List.mem_of_getElem? (i := 0) rfl))
theorem my_X3_1 : Cond.methodLink RX3 1 Lib.objectInit ∈ lw_tbl := tb1 (oxw1_0 (Cond.methodLink RX3 1 Lib.objectInit) (List.mem_of_getElem? (i := 1) rfl))
theorem im_java_lang_Object_init : Cond.instanceMethod Lib.objectInit ∈ lw_tbl := tb1 (oxw1_0 (Cond.instanceMethod Lib.objectInit) (List.mem_of_getElem? (i := 2) rfl))
theorem sp_X3 : Cond.superclass RX3 "java/lang/Object" ∈ lw_tbl := tb1 (oxw1_0 (Cond.superclass RX3 "java/lang/Object") (List.mem_of_getElem? (i := 3) rfl))
theorem pv_X3_polyIn : Cond.privateMethod yX3_polyIn ∈ lw_tbl := tb1 (oxw1_0 (Cond.privateMethod yX3_polyIn) (List.mem_of_getElem? (i := 4) rfl))
theorem pv_X3_checkCell : Cond.privateMethod yX3_checkCell ∈ lw_tbl := tb1 (oxw1_0 (Cond.privateMethod yX3_checkCell) (List.mem_of_getElem? (i := 5) rfl))
theorem it_java_lang_IndexOutOfBoundsException : Cond.instantiable "java/lang/IndexOutOfBoundsException" 6 ∈ lw_tbl := tb1 (oxw1_0 (Cond.instantiable "java/lang/IndexOutOfBoundsException" 6) (List.mem_of_getElem? (i := 6) rfl))
theorem ca_java_lang_IndexOutOfBoundsException : Cond.castable "java/lang/IndexOutOfBoundsException" "java/lang/IndexOutOfBoundsException" ∈ lw_tbl := tb1 (oxw1_0 (Cond.castable "java/lang/IndexOutOfBoundsException" "java/lang/IndexOutOfBoundsException") (List.mem_of_getElem? (i := 7) rfl))
theorem sp_java_lang_Throwable : Cond.superclass "java/lang/Throwable" "java/lang/Object" ∈ lw_tbl := tb1 (oxw1_0 (Cond.superclass "java/lang/Throwable" "java/lang/Object") (List.mem_of_getElem? (i := 8) rfl))
theorem ls_UNASSIGNED_STACK : Cond.laysStatic "java/lang/Throwable" "UNASSIGNED_STACK" "[Ljava/lang/StackTraceElement;" ∈ lw_tbl := tb1 (oxw1_0 (Cond.laysStatic "java/lang/Throwable" "UNASSIGNED_STACK" "[Ljava/lang/StackTraceElement;") (List.mem_of_getElem? (i := 9) rfl))
theorem ls_SUPPRESSED_SENTINEL : Cond.laysStatic "java/lang/Throwable" "SUPPRESSED_SENTINEL" "Ljava/util/List;" ∈ lw_tbl := tb1 (oxw1_0 (Cond.laysStatic "java/lang/Throwable" "SUPPRESSED_SENTINEL" "Ljava/util/List;") (List.mem_of_getElem? (i := 10) rfl))
theorem sm_java_lang_Throwable_fillInStackTrace : Cond.sameMethod "java/lang/Throwable" "java/lang/Throwable" "fillInStackTrace" "()Ljava/lang/Throwable;" ∈ lw_tbl := tb1 (oxw1_0 (Cond.sameMethod "java/lang/Throwable" "java/lang/Throwable" "fillInStackTrace" "()Ljava/lang/Throwable;") (List.mem_of_getElem? (i := 11) rfl))
theorem it_java_lang_Throwable : Cond.instantiable "java/lang/Throwable" 6 ∈ lw_tbl := tb1 (oxw1_0 (Cond.instantiable "java/lang/Throwable" 6) (List.mem_of_getElem? (i := 12) rfl))
theorem sr_X3_205 : Cond.stringRef RX3 205 "a cell is 0 to 5" ∈ lw_tbl := tb1 (oxw1_0 (Cond.stringRef RX3 205 "a cell is 0 to 5") (List.mem_of_getElem? (i := 13) rfl))
theorem sp_java_lang_IndexOutOfBoundsException : Cond.superclass "java/lang/IndexOutOfBoundsException" "java/lang/RuntimeException" ∈ lw_tbl := tb1 (oxw1_0 (Cond.superclass "java/lang/IndexOutOfBoundsException" "java/lang/RuntimeException") (List.mem_of_getElem? (i := 14) rfl))
theorem it_java_lang_IllegalArgumentException : Cond.instantiable "java/lang/IllegalArgumentException" 6 ∈ lw_tbl := tb1 (oxw1_0 (Cond.instantiable "java/lang/IllegalArgumentException" 6) (List.mem_of_getElem? (i := 15) rfl))
theorem ca_java_lang_IllegalArgumentException : Cond.castable "java/lang/IllegalArgumentException" "java/lang/IllegalArgumentException" ∈ lw_tbl := tb1 (oxw1_0 (Cond.castable "java/lang/IllegalArgumentException" "java/lang/IllegalArgumentException") (List.mem_of_getElem? (i := 16) rfl))
theorem sr_X3_212 : Cond.stringRef RX3 212 "a number is out of its range" ∈ lw_tbl := tb1 (oxw1_0 (Cond.stringRef RX3 212 "a number is out of its range") (List.mem_of_getElem? (i := 17) rfl))
theorem sp_java_lang_IllegalArgumentException : Cond.superclass "java/lang/IllegalArgumentException" "java/lang/RuntimeException" ∈ lw_tbl := tb1 (oxw1_0 (Cond.superclass "java/lang/IllegalArgumentException" "java/lang/RuntimeException") (List.mem_of_getElem? (i := 18) rfl))
theorem pv_X3_cellsWithZero : Cond.privateMethod yX3_cellsWithZero ∈ lw_tbl := tb1 (oxw1_0 (Cond.privateMethod yX3_cellsWithZero) (List.mem_of_getElem? (i := 19) rfl))
theorem pv_X3_allWeights : Cond.privateMethod yX3_allWeights ∈ lw_tbl := tb1 (oxw1_0 (Cond.privateMethod yX3_allWeights) (List.mem_of_getElem? (i := 20) rfl))
theorem it_X4 : Cond.instantiable RX4 2 ∈ lw_tbl := tb1 (oxw1_0 (Cond.instantiable RX4 2) (List.mem_of_getElem? (i := 21) rfl))
theorem my_X4_1 : Cond.methodLink RX4 1 Lib.objectInit ∈ lw_tbl := tb1 (oxw1_0 (Cond.methodLink RX4 1 Lib.objectInit) (List.mem_of_getElem? (i := 22) rfl))
theorem sp_X4 : Cond.superclass RX4 "java/lang/Object" ∈ lw_tbl := tb2 (oxw2_0 (Cond.superclass RX4 "java/lang/Object") (List.mem_of_getElem? (i := 0) rfl))
theorem pv_X3_fill : Cond.privateMethod yX3_fill ∈ lw_tbl := tb2 (oxw2_0 (Cond.privateMethod yX3_fill) (List.mem_of_getElem? (i := 1) rfl))
theorem pv_X3_fillProduct : Cond.privateMethod yX3_fillProduct ∈ lw_tbl := tb2 (oxw2_0 (Cond.privateMethod yX3_fillProduct) (List.mem_of_getElem? (i := 2) rfl))
theorem pv_X3_refuse : Cond.privateMethod yX3_refuse ∈ lw_tbl := tb2 (oxw2_0 (Cond.privateMethod yX3_refuse) (List.mem_of_getElem? (i := 3) rfl))
theorem sr_X2_7 : Cond.stringRef RX2 7 "-" ∈ lw_tbl := tb3 (oxw3_0 (Cond.stringRef RX2 7 "-") (List.mem_of_getElem? (i := 0) rfl))
theorem it_J4 : Cond.instantiable RJ4 4 ∈ lw_tbl := tb3 (oxw3_0 (Cond.instantiable RJ4 4) (List.mem_of_getElem? (i := 1) rfl))
theorem im_J4_init_da8c8 : Cond.instanceMethod yJ4_init_da8c8 ∈ lw_tbl := tb3 (oxw3_0 (Cond.instanceMethod yJ4_init_da8c8) (List.mem_of_getElem? (i := 2) rfl))
theorem im_J5_init_d00df : Cond.instanceMethod yJ5_init_d00df ∈ lw_tbl := tb3 (oxw3_0 (Cond.instanceMethod yJ5_init_d00df) (List.mem_of_getElem? (i := 3) rfl))
theorem my_J5_3 : Cond.methodLink RJ5 3 Lib.objectInit ∈ lw_tbl := tb3 (oxw3_0 (Cond.methodLink RJ5 3 Lib.objectInit) (List.mem_of_getElem? (i := 4) rfl))
theorem ls_COMPACT_STRINGS : Cond.laysStatic "java/lang/String" "COMPACT_STRINGS" "Z" ∈ lw_tbl := tb3 (oxw3_0 (Cond.laysStatic "java/lang/String" "COMPACT_STRINGS" "Z") (List.mem_of_getElem? (i := 5) rfl))
theorem ki_J2_20 : Cond.constant RJ2 20 (1073741823) ∈ lw_tbl := tb3 (oxw3_0 (Cond.constant RJ2 20 (1073741823)) (List.mem_of_getElem? (i := 6) rfl))
theorem sp_J4 : Cond.superclass RJ4 RJ5 ∈ lw_tbl := tb3 (oxw3_0 (Cond.superclass RJ4 RJ5) (List.mem_of_getElem? (i := 7) rfl))
theorem im_J4_length_8abf5 : Cond.instanceMethod yJ4_length_8abf5 ∈ lw_tbl := tb3 (oxw3_0 (Cond.instanceMethod yJ4_length_8abf5) (List.mem_of_getElem? (i := 8) rfl))
theorem im_J5_length_8abf5 : Cond.instanceMethod yJ5_length_8abf5 ∈ lw_tbl := tb3 (oxw3_0 (Cond.instanceMethod yJ5_length_8abf5) (List.mem_of_getElem? (i := 9) rfl))
theorem im_J4_append_cf468 : Cond.instanceMethod yJ4_append_cf468 ∈ lw_tbl := tb3 (oxw3_0 (Cond.instanceMethod yJ4_append_cf468) (List.mem_of_getElem? (i := 10) rfl))
theorem im_J5_append_3fe6f : Cond.instanceMethod yJ5_append_3fe6f ∈ lw_tbl := tb3 (oxw3_0 (Cond.instanceMethod yJ5_append_3fe6f) (List.mem_of_getElem? (i := 11) rfl))
theorem pv_J5_ensureCapacityInternal_d00df : Cond.privateMethod yJ5_ensureCapacityInternal_d00df ∈ lw_tbl := tb3 (oxw3_0 (Cond.privateMethod yJ5_ensureCapacityInternal_d00df) (List.mem_of_getElem? (i := 12) rfl))
theorem im_J5_ensureCapacityInternal_d00df : Cond.instanceMethod yJ5_ensureCapacityInternal_d00df ∈ lw_tbl := tb3 (oxw3_0 (Cond.instanceMethod yJ5_ensureCapacityInternal_d00df) (List.mem_of_getElem? (i := 13) rfl))
theorem pv_J5_newCapacity_0f7a4 : Cond.privateMethod yJ5_newCapacity_0f7a4 ∈ lw_tbl := tb3 (oxw3_0 (Cond.privateMethod yJ5_newCapacity_0f7a4) (List.mem_of_getElem? (i := 14) rfl))
theorem im_J5_newCapacity_0f7a4 : Cond.instanceMethod yJ5_newCapacity_0f7a4 ∈ lw_tbl := tb3 (oxw3_0 (Cond.instanceMethod yJ5_newCapacity_0f7a4) (List.mem_of_getElem? (i := 15) rfl))
theorem my_J8_194 : Cond.methodLink RJ8 194 Lib.Math.max.name ∈ lw_tbl := tb3 (oxw3_0 (Cond.methodLink RJ8 194 Lib.Math.max.name) (List.mem_of_getElem? (i := 16) rfl))
theorem sc_J9_max_I : Cond.static Lib.Math.max.name ∈ lw_tbl := tb3 (oxw3_0 (Cond.static Lib.Math.max.name) (List.mem_of_getElem? (i := 17) rfl))
theorem ki_J8_200 : Cond.constant RJ8 200 (2147483639) ∈ lw_tbl := tb3 (oxw3_0 (Cond.constant RJ8 200 (2147483639)) (List.mem_of_getElem? (i := 18) rfl))
theorem ki_J5_39 : Cond.constant RJ5 39 (2147483647) ∈ lw_tbl := tb3 (oxw3_0 (Cond.constant RJ5 39 (2147483647)) (List.mem_of_getElem? (i := 19) rfl))
theorem my_J7_310 : Cond.methodLink RJ7 310 ⟨"[B", "clone", "()Ljava/lang/Object;"⟩ ∈ lw_tbl := tb3 (oxw3_0 (Cond.methodLink RJ7 310 ⟨"[B", "clone", "()Ljava/lang/Object;"⟩) (List.mem_of_getElem? (i := 20) rfl))
theorem sm__B_clone : Cond.sameMethod "[B" "java/lang/Object" "clone" "()Ljava/lang/Object;" ∈ lw_tbl := tb3 (oxw3_0 (Cond.sameMethod "[B" "java/lang/Object" "clone" "()Ljava/lang/Object;") (List.mem_of_getElem? (i := 21) rfl))
theorem nv_java_lang_Object_clone : Cond.native ⟨"java/lang/Object", "clone", "()Ljava/lang/Object;"⟩ ∈ lw_tbl := tb3 (oxw3_0 (Cond.native ⟨"java/lang/Object", "clone", "()Ljava/lang/Object;"⟩) (List.mem_of_getElem? (i := 22) rfl))
theorem im_java_lang_Object_clone : Cond.instanceMethod ⟨"java/lang/Object", "clone", "()Ljava/lang/Object;"⟩ ∈ lw_tbl := tb3 (oxw3_0 (Cond.instanceMethod ⟨"java/lang/Object", "clone", "()Ljava/lang/Object;"⟩) (List.mem_of_getElem? (i := 23) rfl))
theorem sl_B_clone : Cond.selects "[B" ⟨"[B", "clone", "()Ljava/lang/Object;"⟩ ⟨"java/lang/Object", "clone", "()Ljava/lang/Object;"⟩ ∈ lw_tbl := tb3 (oxw3_0 (Cond.selects "[B" ⟨"[B", "clone", "()Ljava/lang/Object;"⟩ ⟨"java/lang/Object", "clone", "()Ljava/lang/Object;"⟩) (List.mem_of_getElem? (i := 24) rfl))
theorem ca__B : Cond.castable "[B" "java/lang/Cloneable" ∈ lw_tbl := tb3 (oxw3_0 (Cond.castable "[B" "java/lang/Cloneable") (List.mem_of_getElem? (i := 25) rfl))
theorem my_J7_304 : Cond.methodLink RJ7 304 Lib.Math.min.name ∈ lw_tbl := tb3 (oxw3_0 (Cond.methodLink RJ7 304 Lib.Math.min.name) (List.mem_of_getElem? (i := 26) rfl))
theorem sc_J9_min_I : Cond.static Lib.Math.min.name ∈ lw_tbl := tb3 (oxw3_0 (Cond.static Lib.Math.min.name) (List.mem_of_getElem? (i := 27) rfl))
theorem my_J7_150 : Cond.methodLink RJ7 150 arraycopyName ∈ lw_tbl := tb3 (oxw3_0 (Cond.methodLink RJ7 150 arraycopyName) (List.mem_of_getElem? (i := 28) rfl))
theorem sc_J10_arraycopy : Cond.static arraycopyName ∈ lw_tbl := tb3 (oxw3_0 (Cond.static arraycopyName) (List.mem_of_getElem? (i := 29) rfl))
theorem nv_J10_arraycopy : Cond.native arraycopyName ∈ lw_tbl := tb3 (oxw3_0 (Cond.native arraycopyName) (List.mem_of_getElem? (i := 30) rfl))
theorem im_J5_isLatin1_aae02 : Cond.instanceMethod yJ5_isLatin1_aae02 ∈ lw_tbl := tb3 (oxw3_0 (Cond.instanceMethod yJ5_isLatin1_aae02) (List.mem_of_getElem? (i := 31) rfl))
theorem sm_J5_isLatin1_aae02 : Cond.sameMethod "java/lang/AbstractStringBuilder" "java/lang/AbstractStringBuilder" "isLatin1" "()Z" ∈ lw_tbl := tb3 (oxw3_0 (Cond.sameMethod "java/lang/AbstractStringBuilder" "java/lang/AbstractStringBuilder" "isLatin1" "()Z") (List.mem_of_getElem? (i := 32) rfl))
theorem sl_J4_J5_isLatin1_aae02 : Cond.selects RJ4 yJ5_isLatin1_aae02 yJ5_isLatin1_aae02 ∈ lw_tbl := tb3 (oxw3_0 (Cond.selects RJ4 yJ5_isLatin1_aae02 yJ5_isLatin1_aae02) (List.mem_of_getElem? (i := 33) rfl))
theorem pv_J5_inflate_da8c8 : Cond.privateMethod yJ5_inflate_da8c8 ∈ lw_tbl := tb3 (oxw3_0 (Cond.privateMethod yJ5_inflate_da8c8) (List.mem_of_getElem? (i := 34) rfl))
theorem im_J5_inflate_da8c8 : Cond.instanceMethod yJ5_inflate_da8c8 ∈ lw_tbl := tb3 (oxw3_0 (Cond.instanceMethod yJ5_inflate_da8c8) (List.mem_of_getElem? (i := 35) rfl))
theorem ls_SIOOBE_FORMATTER : Cond.laysStatic "jdk/internal/util/Preconditions" "SIOOBE_FORMATTER" "Ljava/util/function/BiFunction;" ∈ lw_tbl := tb3 (oxw3_0 (Cond.laysStatic "jdk/internal/util/Preconditions" "SIOOBE_FORMATTER" "Ljava/util/function/BiFunction;") (List.mem_of_getElem? (i := 36) rfl))
theorem ls__assertionsDisabled : Cond.laysStatic "java/lang/StringUTF16" "$assertionsDisabled" "Z" ∈ lw_tbl := tb3 (oxw3_0 (Cond.laysStatic "java/lang/StringUTF16" "$assertionsDisabled" "Z") (List.mem_of_getElem? (i := 37) rfl))
theorem ls_HI_BYTE_SHIFT : Cond.laysStatic "java/lang/StringUTF16" "HI_BYTE_SHIFT" "I" ∈ lw_tbl := tb3 (oxw3_0 (Cond.laysStatic "java/lang/StringUTF16" "HI_BYTE_SHIFT" "I") (List.mem_of_getElem? (i := 38) rfl))
theorem ls_LO_BYTE_SHIFT : Cond.laysStatic "java/lang/StringUTF16" "LO_BYTE_SHIFT" "I" ∈ lw_tbl := tb3 (oxw3_0 (Cond.laysStatic "java/lang/StringUTF16" "LO_BYTE_SHIFT" "I") (List.mem_of_getElem? (i := 39) rfl))
theorem im_J4_append_bf812 : Cond.instanceMethod yJ4_append_bf812 ∈ lw_tbl := tb3 (oxw3_0 (Cond.instanceMethod yJ4_append_bf812) (List.mem_of_getElem? (i := 40) rfl))
theorem im_J5_append_c97b9 : Cond.instanceMethod yJ5_append_c97b9 ∈ lw_tbl := tb3 (oxw3_0 (Cond.instanceMethod yJ5_append_c97b9) (List.mem_of_getElem? (i := 41) rfl))
theorem ls_DigitOnes : Cond.laysStatic "java/lang/Integer" "DigitOnes" "[B" ∈ lw_tbl := tb3 (oxw3_0 (Cond.laysStatic "java/lang/Integer" "DigitOnes" "[B") (List.mem_of_getElem? (i := 42) rfl))
theorem ls_DigitTens : Cond.laysStatic "java/lang/Integer" "DigitTens" "[B" ∈ lw_tbl := tb3 (oxw3_0 (Cond.laysStatic "java/lang/Integer" "DigitTens" "[B") (List.mem_of_getElem? (i := 43) rfl))
theorem im_J4_toString_0e30d : Cond.instanceMethod yJ4_toString_0e30d ∈ lw_tbl := tb3 (oxw3_0 (Cond.instanceMethod yJ4_toString_0e30d) (List.mem_of_getElem? (i := 44) rfl))
theorem it_J0 : Cond.instantiable RJ0 4 ∈ lw_tbl := tb3 (oxw3_0 (Cond.instantiable RJ0 4) (List.mem_of_getElem? (i := 45) rfl))
theorem im_J0_init_81219 : Cond.instanceMethod yJ0_init_81219 ∈ lw_tbl := tb3 (oxw3_0 (Cond.instanceMethod yJ0_init_81219) (List.mem_of_getElem? (i := 46) rfl))
theorem im_J0_init_db425 : Cond.instanceMethod yJ0_init_db425 ∈ lw_tbl := tb3 (oxw3_0 (Cond.instanceMethod yJ0_init_db425) (List.mem_of_getElem? (i := 47) rfl))
theorem my_J0_1 : Cond.methodLink RJ0 1 Lib.objectInit ∈ lw_tbl := tb3 (oxw3_0 (Cond.methodLink RJ0 1 Lib.objectInit) (List.mem_of_getElem? (i := 48) rfl))
theorem im_J5_getValue_6d5f1 : Cond.instanceMethod yJ5_getValue_6d5f1 ∈ lw_tbl := tb3 (oxw3_0 (Cond.instanceMethod yJ5_getValue_6d5f1) (List.mem_of_getElem? (i := 49) rfl))
theorem sm_J5_getValue_6d5f1 : Cond.sameMethod "java/lang/AbstractStringBuilder" "java/lang/AbstractStringBuilder" "getValue" "()[B" ∈ lw_tbl := tb3 (oxw3_1 (Cond.sameMethod "java/lang/AbstractStringBuilder" "java/lang/AbstractStringBuilder" "getValue" "()[B") (List.mem_of_getElem? (i := 0) rfl))
theorem sl_J4_J5_getValue_6d5f1 : Cond.selects RJ4 yJ5_getValue_6d5f1 yJ5_getValue_6d5f1 ∈ lw_tbl := tb3 (oxw3_1 (Cond.selects RJ4 yJ5_getValue_6d5f1 yJ5_getValue_6d5f1) (List.mem_of_getElem? (i := 1) rfl))
theorem sr_J7_337 : Cond.stringRef RJ7 337 " > " ∈ lw_tbl := tb3 (oxw3_1 (Cond.stringRef RJ7 337 " > ") (List.mem_of_getElem? (i := 2) rfl))
theorem im_J4_append_15ec4 : Cond.instanceMethod yJ4_append_15ec4 ∈ lw_tbl := tb4 (oxw4_0 (Cond.instanceMethod yJ4_append_15ec4) (List.mem_of_getElem? (i := 0) rfl))
theorem im_J5_append_cf1ce : Cond.instanceMethod yJ5_append_cf1ce ∈ lw_tbl := tb4 (oxw4_0 (Cond.instanceMethod yJ5_append_cf1ce) (List.mem_of_getElem? (i := 1) rfl))
theorem pv_J5_appendNull_278bc : Cond.privateMethod yJ5_appendNull_278bc ∈ lw_tbl := tb4 (oxw4_0 (Cond.privateMethod yJ5_appendNull_278bc) (List.mem_of_getElem? (i := 2) rfl))
theorem im_J5_appendNull_278bc : Cond.instanceMethod yJ5_appendNull_278bc ∈ lw_tbl := tb4 (oxw4_0 (Cond.instanceMethod yJ5_appendNull_278bc) (List.mem_of_getElem? (i := 3) rfl))
theorem im_J0_length_8abf5 : Cond.instanceMethod yJ0_length_8abf5 ∈ lw_tbl := tb4 (oxw4_0 (Cond.instanceMethod yJ0_length_8abf5) (List.mem_of_getElem? (i := 4) rfl))
theorem im_J0_coder_7d493 : Cond.instanceMethod yJ0_coder_7d493 ∈ lw_tbl := tb4 (oxw4_0 (Cond.instanceMethod yJ0_coder_7d493) (List.mem_of_getElem? (i := 5) rfl))
theorem pv_J5_putStringAt_47b60 : Cond.privateMethod yJ5_putStringAt_47b60 ∈ lw_tbl := tb4 (oxw4_0 (Cond.privateMethod yJ5_putStringAt_47b60) (List.mem_of_getElem? (i := 6) rfl))
theorem im_J5_putStringAt_47b60 : Cond.instanceMethod yJ5_putStringAt_47b60 ∈ lw_tbl := tb4 (oxw4_0 (Cond.instanceMethod yJ5_putStringAt_47b60) (List.mem_of_getElem? (i := 7) rfl))
theorem pv_J5_inflateIfNeededFor_a7421 : Cond.privateMethod yJ5_inflateIfNeededFor_a7421 ∈ lw_tbl := tb4 (oxw4_0 (Cond.privateMethod yJ5_inflateIfNeededFor_a7421) (List.mem_of_getElem? (i := 8) rfl))
theorem im_J5_inflateIfNeededFor_a7421 : Cond.instanceMethod yJ5_inflateIfNeededFor_a7421 ∈ lw_tbl := tb4 (oxw4_0 (Cond.instanceMethod yJ5_inflateIfNeededFor_a7421) (List.mem_of_getElem? (i := 9) rfl))
theorem im_J0_getBytes_840e7 : Cond.instanceMethod yJ0_getBytes_840e7 ∈ lw_tbl := tb4 (oxw4_0 (Cond.instanceMethod yJ0_getBytes_840e7) (List.mem_of_getElem? (i := 10) rfl))
theorem my_J0_212 : Cond.methodLink RJ0 212 arraycopyName ∈ lw_tbl := tb4 (oxw4_0 (Cond.methodLink RJ0 212 arraycopyName) (List.mem_of_getElem? (i := 11) rfl))
theorem sp_J0 : Cond.superclass RJ0 "java/lang/Object" ∈ lw_tbl := tb4 (oxw4_0 (Cond.superclass RJ0 "java/lang/Object") (List.mem_of_getElem? (i := 12) rfl))
theorem sr_X2_37 : Cond.stringRef RX2 37 "0" ∈ lw_tbl := tb4 (oxw4_0 (Cond.stringRef RX2 37 "0") (List.mem_of_getElem? (i := 13) rfl))
theorem im_J4_reverse_43fcb : Cond.instanceMethod yJ4_reverse_43fcb ∈ lw_tbl := tb4 (oxw4_0 (Cond.instanceMethod yJ4_reverse_43fcb) (List.mem_of_getElem? (i := 14) rfl))
theorem im_J5_reverse_278bc : Cond.instanceMethod yJ5_reverse_278bc ∈ lw_tbl := tb4 (oxw4_0 (Cond.instanceMethod yJ5_reverse_278bc) (List.mem_of_getElem? (i := 15) rfl))
theorem ki_J11_75 : Cond.constant RJ11 75 (55296) ∈ lw_tbl := tb4 (oxw4_0 (Cond.constant RJ11 75 (55296)) (List.mem_of_getElem? (i := 16) rfl))
theorem ki_J11_77 : Cond.constant RJ11 77 (57344) ∈ lw_tbl := tb4 (oxw4_0 (Cond.constant RJ11 77 (57344)) (List.mem_of_getElem? (i := 17) rfl))
theorem ki_J11_76 : Cond.constant RJ11 76 (56320) ∈ lw_tbl := tb4 (oxw4_0 (Cond.constant RJ11 76 (56320)) (List.mem_of_getElem? (i := 18) rfl))
theorem sr_X3_151 : Cond.stringRef RX3 151 "!" ∈ lw_tbl := tb4 (oxw4_0 (Cond.stringRef RX3 151 "!") (List.mem_of_getElem? (i := 19) rfl))
theorem it_X5 : Cond.instantiable RX5 5 ∈ lw_tbl := tb4 (oxw4_0 (Cond.instantiable RX5 5) (List.mem_of_getElem? (i := 20) rfl))
theorem my_X5_1 : Cond.methodLink RX5 1 Lib.objectInit ∈ lw_tbl := tb4 (oxw4_0 (Cond.methodLink RX5 1 Lib.objectInit) (List.mem_of_getElem? (i := 21) rfl))
theorem sp_X5 : Cond.superclass RX5 "java/lang/Object" ∈ lw_tbl := tb4 (oxw4_0 (Cond.superclass RX5 "java/lang/Object") (List.mem_of_getElem? (i := 22) rfl))
theorem pv_X5_start : Cond.privateMethod yX5_start ∈ lw_tbl := tb5 (oxw5_0 (Cond.privateMethod yX5_start) (List.mem_of_getElem? (i := 0) rfl))
theorem pv_X5_refuse : Cond.privateMethod yX5_refuse ∈ lw_tbl := tb5 (oxw5_0 (Cond.privateMethod yX5_refuse) (List.mem_of_getElem? (i := 1) rfl))
theorem pv_X5_lay : Cond.privateMethod yX5_lay ∈ lw_tbl := tb5 (oxw5_0 (Cond.privateMethod yX5_lay) (List.mem_of_getElem? (i := 2) rfl))
theorem pv_X5_multiply : Cond.privateMethod yX5_multiply ∈ lw_tbl := tb5 (oxw5_0 (Cond.privateMethod yX5_multiply) (List.mem_of_getElem? (i := 3) rfl))
theorem pv_X5_layIf : Cond.privateMethod yX5_layIf ∈ lw_tbl := tb5 (oxw5_0 (Cond.privateMethod yX5_layIf) (List.mem_of_getElem? (i := 4) rfl))
theorem pv_X5_no : Cond.privateMethod yX5_no ∈ lw_tbl := tb5 (oxw5_0 (Cond.privateMethod yX5_no) (List.mem_of_getElem? (i := 5) rfl))
theorem sr_X5_111 : Cond.stringRef RX5 111 "" ∈ lw_tbl := tb5 (oxw5_0 (Cond.stringRef RX5 111 "") (List.mem_of_getElem? (i := 6) rfl))
theorem sr_X5_113 : Cond.stringRef RX5 113 "-" ∈ lw_tbl := tb5 (oxw5_0 (Cond.stringRef RX5 113 "-") (List.mem_of_getElem? (i := 7) rfl))
theorem sr_X5_132 : Cond.stringRef RX5 132 "0123456789abcdefghijklmnopqrstuvwxyz" ∈ lw_tbl := tb5 (oxw5_0 (Cond.stringRef RX5 132 "0123456789abcdefghijklmnopqrstuvwxyz") (List.mem_of_getElem? (i := 8) rfl))
theorem im_J0_charAt_5068e : Cond.instanceMethod yJ0_charAt_5068e ∈ lw_tbl := tb5 (oxw5_0 (Cond.instanceMethod yJ0_charAt_5068e) (List.mem_of_getElem? (i := 9) rfl))
theorem im_J0_isLatin1_aae02 : Cond.instanceMethod yJ0_isLatin1_aae02 ∈ lw_tbl := tb5 (oxw5_0 (Cond.instanceMethod yJ0_isLatin1_aae02) (List.mem_of_getElem? (i := 10) rfl))
theorem pv_X5_side : Cond.privateMethod yX5_side ∈ lw_tbl := tb5 (oxw5_0 (Cond.privateMethod yX5_side) (List.mem_of_getElem? (i := 11) rfl))
theorem sr_X5_147 : Cond.stringRef RX5 147 "!" ∈ lw_tbl := tb6 (oxw6_0 (Cond.stringRef RX5 147 "!") (List.mem_of_getElem? (i := 0) rfl))
theorem ls_MS : Cond.laysStatic "CarryfreeModel" "MS" "[I" ∈ lw_tbl := tb6 (oxw6_0 (Cond.laysStatic "CarryfreeModel" "MS" "[I") (List.mem_of_getElem? (i := 1) rfl))
theorem pv_X5_found : Cond.privateMethod yX5_found ∈ lw_tbl := tb6 (oxw6_0 (Cond.privateMethod yX5_found) (List.mem_of_getElem? (i := 2) rfl))
theorem pv_X5_houseTold : Cond.privateMethod yX5_houseTold ∈ lw_tbl := tb6 (oxw6_0 (Cond.privateMethod yX5_houseTold) (List.mem_of_getElem? (i := 3) rfl))
theorem pv_X5_isWhole : Cond.privateMethod yX5_isWhole ∈ lw_tbl := tb6 (oxw6_0 (Cond.privateMethod yX5_isWhole) (List.mem_of_getElem? (i := 4) rfl))
theorem sm_java_lang_Throwable_fillInStackTrace_2 : Cond.sameMethod "java/lang/Throwable" "java/lang/Throwable" "fillInStackTrace" "(I)Ljava/lang/Throwable;" ∈ lw_tbl := tb6 (oxw6_0 (Cond.sameMethod "java/lang/Throwable" "java/lang/Throwable" "fillInStackTrace" "(I)Ljava/lang/Throwable;") (List.mem_of_getElem? (i := 5) rfl))
theorem sm_J5_length_8abf5 : Cond.sameMethod "java/lang/AbstractStringBuilder" "java/lang/AbstractStringBuilder" "length" "()I" ∈ lw_tbl := tb6 (oxw6_0 (Cond.sameMethod "java/lang/AbstractStringBuilder" "java/lang/AbstractStringBuilder" "length" "()I") (List.mem_of_getElem? (i := 6) rfl))
theorem sm_J5_append_3fe6f : Cond.sameMethod "java/lang/AbstractStringBuilder" "java/lang/AbstractStringBuilder" "append" "(C)Ljava/lang/AbstractStringBuilder;" ∈ lw_tbl := tb6 (oxw6_0 (Cond.sameMethod "java/lang/AbstractStringBuilder" "java/lang/AbstractStringBuilder" "append" "(C)Ljava/lang/AbstractStringBuilder;") (List.mem_of_getElem? (i := 7) rfl))
theorem sm_J5_ensureCapacityInternal_d00df : Cond.sameMethod "java/lang/AbstractStringBuilder" "java/lang/AbstractStringBuilder" "ensureCapacityInternal" "(I)V" ∈ lw_tbl := tb6 (oxw6_0 (Cond.sameMethod "java/lang/AbstractStringBuilder" "java/lang/AbstractStringBuilder" "ensureCapacityInternal" "(I)V") (List.mem_of_getElem? (i := 8) rfl))
theorem sm_J5_newCapacity_0f7a4 : Cond.sameMethod "java/lang/AbstractStringBuilder" "java/lang/AbstractStringBuilder" "newCapacity" "(I)I" ∈ lw_tbl := tb6 (oxw6_0 (Cond.sameMethod "java/lang/AbstractStringBuilder" "java/lang/AbstractStringBuilder" "newCapacity" "(I)I") (List.mem_of_getElem? (i := 9) rfl))
theorem sm_J5_inflate_da8c8 : Cond.sameMethod "java/lang/AbstractStringBuilder" "java/lang/AbstractStringBuilder" "inflate" "()V" ∈ lw_tbl := tb6 (oxw6_0 (Cond.sameMethod "java/lang/AbstractStringBuilder" "java/lang/AbstractStringBuilder" "inflate" "()V") (List.mem_of_getElem? (i := 10) rfl))
theorem sm_J5_append_c97b9 : Cond.sameMethod "java/lang/AbstractStringBuilder" "java/lang/AbstractStringBuilder" "append" "(I)Ljava/lang/AbstractStringBuilder;" ∈ lw_tbl := tb6 (oxw6_0 (Cond.sameMethod "java/lang/AbstractStringBuilder" "java/lang/AbstractStringBuilder" "append" "(I)Ljava/lang/AbstractStringBuilder;") (List.mem_of_getElem? (i := 11) rfl))
theorem sl_J4_J5_length_8abf5 : Cond.selects RJ4 yJ5_length_8abf5 yJ4_length_8abf5 ∈ lw_tbl := tb6 (oxw6_0 (Cond.selects RJ4 yJ5_length_8abf5 yJ4_length_8abf5) (List.mem_of_getElem? (i := 12) rfl))
theorem sm_J5_append_cf1ce : Cond.sameMethod "java/lang/AbstractStringBuilder" "java/lang/AbstractStringBuilder" "append" "(Ljava/lang/String;)Ljava/lang/AbstractStringBuilder;" ∈ lw_tbl := tb6 (oxw6_0 (Cond.sameMethod "java/lang/AbstractStringBuilder" "java/lang/AbstractStringBuilder" "append" "(Ljava/lang/String;)Ljava/lang/AbstractStringBuilder;") (List.mem_of_getElem? (i := 13) rfl))
theorem sm_J5_appendNull_278bc : Cond.sameMethod "java/lang/AbstractStringBuilder" "java/lang/AbstractStringBuilder" "appendNull" "()Ljava/lang/AbstractStringBuilder;" ∈ lw_tbl := tb6 (oxw6_0 (Cond.sameMethod "java/lang/AbstractStringBuilder" "java/lang/AbstractStringBuilder" "appendNull" "()Ljava/lang/AbstractStringBuilder;") (List.mem_of_getElem? (i := 14) rfl))
theorem sm_J5_putStringAt_47b60 : Cond.sameMethod "java/lang/AbstractStringBuilder" "java/lang/AbstractStringBuilder" "putStringAt" "(ILjava/lang/String;)V" ∈ lw_tbl := tb6 (oxw6_0 (Cond.sameMethod "java/lang/AbstractStringBuilder" "java/lang/AbstractStringBuilder" "putStringAt" "(ILjava/lang/String;)V") (List.mem_of_getElem? (i := 15) rfl))
theorem sm_J5_inflateIfNeededFor_a7421 : Cond.sameMethod "java/lang/AbstractStringBuilder" "java/lang/AbstractStringBuilder" "inflateIfNeededFor" "(Ljava/lang/String;)V" ∈ lw_tbl := tb6 (oxw6_0 (Cond.sameMethod "java/lang/AbstractStringBuilder" "java/lang/AbstractStringBuilder" "inflateIfNeededFor" "(Ljava/lang/String;)V") (List.mem_of_getElem? (i := 16) rfl))
theorem sm_J5_reverse_278bc : Cond.sameMethod "java/lang/AbstractStringBuilder" "java/lang/AbstractStringBuilder" "reverse" "()Ljava/lang/AbstractStringBuilder;" ∈ lw_tbl := tb6 (oxw6_0 (Cond.sameMethod "java/lang/AbstractStringBuilder" "java/lang/AbstractStringBuilder" "reverse" "()Ljava/lang/AbstractStringBuilder;") (List.mem_of_getElem? (i := 17) rfl))
theorem cd_J5_init_d00df : Cond.code yJ5_init_d00df cJ5_init_d00df 2 none ∈ lw_tbl := tb3 (List.mem_of_getElem? (i := 43) rfl)
theorem cd_J5_length_8abf5 : Cond.code yJ5_length_8abf5 cJ5_length_8abf5 1 (some .int) ∈ lw_tbl := tb3 (List.mem_of_getElem? (i := 75) rfl)
theorem cd_J5_append_3fe6f : Cond.code yJ5_append_3fe6f cJ5_append_3fe6f 2 (some (.object "java/lang/AbstractStringBuilder")) ∈ lw_tbl := tb3 (List.mem_of_getElem? (i := 82) rfl)
theorem cd_J5_ensureCapacityInternal_d00df : Cond.code yJ5_ensureCapacityInternal_d00df cJ5_ensureCapacityInternal_d00df 3 none ∈ lw_tbl := tb3 (List.mem_of_getElem? (i := 86) rfl)
theorem cd_J5_newCapacity_0f7a4 : Cond.code yJ5_newCapacity_0f7a4 cJ5_newCapacity_0f7a4 6 (some .int) ∈ lw_tbl := tb3 (List.mem_of_getElem? (i := 90) rfl)
theorem cd_J5_isLatin1_aae02 : Cond.code yJ5_isLatin1_aae02 cJ5_isLatin1_aae02 1 (some .boolean) ∈ lw_tbl := tb3 (List.mem_of_getElem? (i := 122) rfl)
theorem cd_J5_inflate_da8c8 : Cond.code yJ5_inflate_da8c8 cJ5_inflate_da8c8 2 none ∈ lw_tbl := tb3 (List.mem_of_getElem? (i := 129) rfl)
theorem cd_J5_append_c97b9 : Cond.code yJ5_append_c97b9 cJ5_append_c97b9 4 (some (.object "java/lang/AbstractStringBuilder")) ∈ lw_tbl := tb3 (List.mem_of_getElem? (i := 177) rfl)
theorem cd_J5_getValue_6d5f1 : Cond.code yJ5_getValue_6d5f1 cJ5_getValue_6d5f1 1 (some (.array .byte)) ∈ lw_tbl := tb3 (List.mem_of_getElem? (i := 222) rfl)
theorem cd_J5_append_cf1ce : Cond.code yJ5_append_cf1ce cJ5_append_cf1ce 3 (some (.object "java/lang/AbstractStringBuilder")) ∈ lw_tbl := tb4 (List.mem_of_getElem? (i := 5) rfl)
theorem cd_J5_appendNull_278bc : Cond.code yJ5_appendNull_278bc cJ5_appendNull_278bc 3 (some (.object "java/lang/AbstractStringBuilder")) ∈ lw_tbl := tb4 (List.mem_of_getElem? (i := 9) rfl)
theorem cd_J5_putStringAt_47b60 : Cond.code yJ5_putStringAt_47b60 cJ5_putStringAt_47b60 3 none ∈ lw_tbl := tb4 (List.mem_of_getElem? (i := 25) rfl)
theorem cd_J5_inflateIfNeededFor_a7421 : Cond.code yJ5_inflateIfNeededFor_a7421 cJ5_inflateIfNeededFor_a7421 2 none ∈ lw_tbl := tb4 (List.mem_of_getElem? (i := 29) rfl)
theorem cd_J5_reverse_278bc : Cond.code yJ5_reverse_278bc cJ5_reverse_278bc 7 (some (.object "java/lang/AbstractStringBuilder")) ∈ lw_tbl := tb4 (List.mem_of_getElem? (i := 83) rfl)
theorem cd_oi : Cond.code Lib.objectInit ⟨#[0xb1]⟩ 1 none ∈ lw_tbl := tb1 (List.mem_of_getElem? (i := 32) rfl)
theorem cd_mxI : Cond.code Lib.Math.max.name Lib.Math.max.code 2 (some .int) ∈ lw_tbl := tb3 (List.mem_of_getElem? (i := 96) rfl)
theorem cd_mnI : Cond.code Lib.Math.min.name Lib.Math.min.code 2 (some .int) ∈ lw_tbl := tb3 (List.mem_of_getElem? (i := 114) rfl)
/-! ===== texts: byte arrays, builders, what they stand on ===== -/
section SA
/-- a cell's address isn't asked of by more than is there -/
theorem va_Z_nar {C n d : String} {v : Value} {A B : Nat → Prop} {U : State} {H : Heap} (h : va_Z C n d v A U H) (hAB : ∀ q, q < H.size → B q → A q) : va_Z C n d v B U H := by
  obtain ⟨cf, kf, fi, f, a, cell, h1, h2, h3, h4, h5, h6, h7, h8⟩ := h
  exact ⟨cf, kf, fi, f, a, cell, h1, h2, h3, h4, h5, h6, h7, fun z => h8 (hAB a (Array.getElem?_eq_some_iff.mp h5).1 z)⟩
theorem va_Zq_nar {C n d : String} {A B : Nat → Prop} {U : State} {H : Heap} (h : va_Zq C n d A U H) (hAB : ∀ q, q < H.size → B q → A q) : va_Zq C n d B U H :=
  h.elim (fun g => Or.inl (va_Z_nar g hAB)) (fun ⟨t, g⟩ => Or.inr ⟨t, va_Z_nar g hAB⟩)
theorem va_T_nar {ty : FieldType} {t N : Nat} {f : Nat → Value} {A B : Nat → Prop} {U : State} {H : Heap} (h : va_T ty t N f A U H) (hAB : ∀ q, q < H.size → B q → A q) : va_T ty t N f B U H := by
  obtain ⟨cell, h1, h2, h3, h4, h5, h6, h7⟩ := h
  exact ⟨cell, h1, h2, h3, h4, h5, h6, fun z => h7 (hAB t (Array.getElem?_eq_some_iff.mp h1).1 z)⟩
theorem va_O_nar {E : String} {t : Nat} {A B : Nat → Prop} {U : State} {H : Heap} (h : va_O E t A U H) (hAB : ∀ q, q < H.size → B q → A q) : va_O E t B U H := by
  obtain ⟨cell, h1, h2, h3, h4⟩ := h
  exact ⟨cell, h1, h2, h3, fun z => h4 (hAB t (Array.getElem?_eq_some_iff.mp h1).1 z)⟩
theorem va_OF_nar {o n d : String} {v : Value} {t : Nat} {A B : Nat → Prop} {U : State} {H : Heap} (h : va_OF o n d v t A U H) (hAB : ∀ q, q < H.size → B q → A q) : va_OF o n d v t B U H := by
  obtain ⟨cf, k, i, f, cell, h1, h2, h3, h4, h5, h6⟩ := h
  exact ⟨cf, k, i, f, cell, h1, h2, h3, h4, h5, fun z => h6 (hAB t (Array.getElem?_eq_some_iff.mp h3).1 z)⟩
/-- what stands in the model's row MS -/
def msv (k : Nat) : Int := if k = 1 then 1 else if k = 2 then -1 else if k = 3 then -1 else if k = 5 then -1 else if k = 6 then 1 else if k = 7 then -1 else 0
def zVd (n : String) (A : Nat → Prop) (U : State) (H : Heap) : Prop := ∃ (t : Nat) (g : Nat → Int32), va_Z "java/lang/Integer" n "[B" (.ref t) A U H ∧ va_T .byte t 100 (fun j => .int (g j)) A U H
def zVs (A : Nat → Prop) (U : State) (H : Heap) : Prop := ∃ (a t : Nat) (g : Nat → Int32), vk_R RX5 132 "0123456789abcdefghijklmnopqrstuvwxyz" a U ∧ va_O RJ0 a A U H ∧ va_OF RJ0 "coder" "B" (.int (iZ 0)) a A U H ∧ va_OF RJ0 "value" "[B" (.ref t) a A U H ∧ va_T .byte t 36 (fun j => .int (g j)) A U H
def zVm (A : Nat → Prop) (U : State) (H : Heap) : Prop := ∃ t : Nat, va_Z RX5 "MS" "[I" (.ref t) A U H ∧ va_T .int t 9 (fun j => .int (iZ (msv j))) A U H
def zVt (U : State) : Prop := (∃ a, vk_R RX2 7 "-" a U) ∧ (∃ a, vk_R RX2 37 "0" a U) ∧ (∃ a, vk_R RX3 151 "!" a U) ∧ (∃ a, vk_R RX5 111 "" a U) ∧ (∃ a, vk_R RX5 113 "-" a U) ∧ (∃ a, vk_R RX5 147 "!" a U) ∧ (Cond.castable "[B" "java/lang/Cloneable").before #[] U = true ∧ (Cond.selects RJ4 yJ5_ensureCapacityInternal_d00df yJ5_ensureCapacityInternal_d00df).before #[] U = true ∧ (Cond.selects RJ4 yJ5_newCapacity_0f7a4 yJ5_newCapacity_0f7a4).before #[] U = true
def zV (A : Nat → Prop) (U : State) (H : Heap) : Prop :=
  va_Z RJ0 "COMPACT_STRINGS" "Z" (.int (iZ 1)) A U H ∧ va_Zq RJ3 "SIOOBE_FORMATTER" "Ljava/util/function/BiFunction;" A U H ∧ zVd "DigitOnes" A U H ∧ zVd "DigitTens" A U H ∧ zVm A U H ∧ zVs A U H ∧ zVt U
theorem zVt.warm {s U : State} (hW : s.WarmedH U.vm) (h : zVt s) : zVt U :=
  ⟨h.1.imp fun _ g => vk_R.warm hW g, h.2.1.imp fun _ g => vk_R.warm hW g, h.2.2.1.imp fun _ g => vk_R.warm hW g, h.2.2.2.1.imp fun _ g => vk_R.warm hW g, h.2.2.2.2.1.imp fun _ g => vk_R.warm hW g, h.2.2.2.2.2.1.imp fun _ g => vk_R.warm hW g, zW_move hW rfl h.2.2.2.2.2.2.1, zW_move hW rfl h.2.2.2.2.2.2.2.1, zW_move hW rfl h.2.2.2.2.2.2.2.2⟩
theorem zV.t {A : Nat → Prop} {U : State} {H : Heap} (h : zV A U H) : zVt U := h.2.2.2.2.2.2
theorem zVt.s1 {s : State} {A : Array Value} (h : zVt s) : (Cond.selects RJ4 yJ5_ensureCapacityInternal_d00df yJ5_ensureCapacityInternal_d00df).before A s = true := zW_move (State.WarmedH.refl s) rfl h.2.2.2.2.2.2.2.1
theorem zVt.s2 {s : State} {A : Array Value} (h : zVt s) : (Cond.selects RJ4 yJ5_newCapacity_0f7a4 yJ5_newCapacity_0f7a4).before A s = true := zW_move (State.WarmedH.refl s) rfl h.2.2.2.2.2.2.2.2
theorem zV.warm {A : Nat → Prop} {s U : State} {H : Heap} (hW : s.WarmedH U.vm) (h : zV A s H) : zV A U H := by
  obtain ⟨h1, h2, ⟨t3, g3, a3, b3⟩, ⟨t4, g4, a4, b4⟩, ⟨t5, a5, b5⟩, ⟨a6, t6, g6, b6, c6, d6, e6, f6⟩, h7⟩ := h
  exact ⟨h1.moved hW.alike, h2.moved hW.alike, ⟨t3, g3, a3.moved hW.alike, b3.moved hW.alike⟩, ⟨t4, g4, a4.moved hW.alike, b4.moved hW.alike⟩, ⟨t5, a5.moved hW.alike, b5.moved hW.alike⟩, ⟨a6, t6, g6, vk_R.warm hW b6, c6.moved hW.alike, d6.moved hW.alike, e6.moved hW.alike, f6.moved hW.alike⟩, h7.warm hW⟩
theorem zV.kept {A : Nat → Prop} {U : State} {H H1 : Heap} (h : zV A U H) (hq : ∀ a : Nat, a < H.size → ¬ A a → H1[a]? = H[a]?) : zV A U H1 := by
  obtain ⟨h1, h2, ⟨t3, g3, a3, b3⟩, ⟨t4, g4, a4, b4⟩, ⟨t5, a5, b5⟩, ⟨a6, t6, g6, b6, c6, d6, e6, f6⟩, h7⟩ := h
  exact ⟨h1.kept hq, va_Zq.kept h2 hq, ⟨t3, g3, a3.kept hq, b3.kept hq⟩, ⟨t4, g4, a4.kept hq, b4.kept hq⟩, ⟨t5, a5.kept hq, b5.kept hq⟩, ⟨a6, t6, g6, b6, c6.kept hq, d6.kept hq, e6.kept hq, f6.kept hq⟩, h7⟩
theorem zV.nar {A B : Nat → Prop} {U : State} {H : Heap} (h : zV A U H) (hq : ∀ q, q < H.size → B q → A q) : zV B U H := by
  obtain ⟨h1, h2, ⟨t3, g3, a3, b3⟩, ⟨t4, g4, a4, b4⟩, ⟨t5, a5, b5⟩, ⟨a6, t6, g6, b6, c6, d6, e6, f6⟩, h7⟩ := h
  exact ⟨va_Z_nar h1 hq, va_Zq_nar h2 hq, ⟨t3, g3, va_Z_nar a3 hq, va_T_nar b3 hq⟩, ⟨t4, g4, va_Z_nar a4 hq, va_T_nar b4 hq⟩, ⟨t5, va_Z_nar a5 hq, va_T_nar b5 hq⟩, ⟨a6, t6, g6, b6, va_O_nar c6 hq, va_OF_nar d6 hq, va_OF_nar e6 hq, va_T_nar f6 hq⟩, h7⟩
/-- at a callee's start, out of what the caller had at its own -/
theorem zV.at {A B : Nat → Prop} {s U : State} {H : Heap} {locs : List Loc} (V : zV A s s.heap) (hS : va_S A s.heap H locs) (hW : s.WarmedH U.vm) (hU : U.heap = H) (hB : ∀ q, B q → A q ∨ H.size ≤ q) : zV B U U.heap := by
  rw [hU]
  exact ((V.kept hS.2.1).nar (fun q h1 h2 => (hB q h2).elim id (fun z => absurd h1 (by omega)))).warm hW
/-- a byte array of length m -/
def AtR (D : va_G) (cB : ClassId) (v m : Nat) (U : State) (H : Heap) : Prop := ∃ f : Nat → Int32, sb_Fit f ∧ va_P D vwCl [(v, .inl (cB, m, .inl f))] H ∧ va_K D vwCl [(cB, .byte)] U
theorem wP1 {D : va_G} {a : Nat} {x : va_E} {H : Heap} (h : va_at D vwCl (a, x) H) : va_P D vwCl [(a, x)] H := by
  intro k q hk
  match k, hk with
  | 0, hk => cases hk; exact h
  | k + 1, hk => simp at hk
theorem wD1 {A : Nat → Prop} {a : Nat} {x : va_E} (hA : A a) : va_D A [(a, x)] := by
  refine ⟨fun i j p q hp hq _ => ?_, fun k q hk => ?_⟩
  · match i, j, hp, hq with
    | 0, 0, _, _ => rfl
    | i + 1, _, hp, _ => simp at hp
    | 0, j + 1, _, hq => simp at hq
  · match k, hk with
    | 0, hk => cases hk; exact hA
    | k + 1, hk => simp at hk
theorem wK1 {D : va_G} {a : Nat} {x : va_E} {H H1 : Heap} (h : va_P D vwCl [(a, x)] H) (ha : H1[a]? = H[a]?) : va_P D vwCl [(a, x)] H1 := wP1 ((h 0 _ rfl).kept ha)
theorem AtR.moved {D : va_G} {cB : ClassId} {v m : Nat} {u U : State} {H : Heap} (hvm : u.vm.Alike U.vm) (h : AtR D cB v m u H) : AtR D cB v m U H := by
  obtain ⟨f, h1, h2, h3⟩ := h
  exact ⟨f, h1, h2, va_K.moved hvm h3⟩
theorem AtR.kept {D : va_G} {cB : ClassId} {v m : Nat} {U : State} {H H1 : Heap} (h : AtR D cB v m U H) (hv : H1[v]? = H[v]?) : AtR D cB v m U H1 := by
  obtain ⟨f, h1, h2, h3⟩ := h
  exact ⟨f, h1, wK1 h2 hv, h3⟩
theorem AtR.lt {D : va_G} {cB : ClassId} {v m : Nat} {U : State} {H : Heap} (h : AtR D cB v m U H) : v < H.size := by
  obtain ⟨f, -, h2, -⟩ := h
  exact (h2 0 _ rfl).lt
theorem AtR.K {D : va_G} {cB : ClassId} {v m : Nat} {U : State} {H : Heap} (h : AtR D cB v m U H) : va_K D vwCl [(cB, .byte)] U := by
  obtain ⟨f, -, -, h3⟩ := h
  exact h3
/-- a builder of n signs, in an array of m bytes -/
def AtB (D : va_G) (cB : ClassId) (b v n m : Nat) (U : State) (H : Heap) : Prop := AtR D cB v m U H ∧ b ≠ v ∧ ∃ ml : Int32, va_P D vwCl [(b, .inr (1, [.ref v, .int (iZ 0), .int ml, .int (iZ (n : Int))]))] H
theorem AtB.moved {D : va_G} {cB : ClassId} {b v n m : Nat} {u U : State} {H : Heap} (hvm : u.vm.Alike U.vm) (h : AtB D cB b v n m u H) : AtB D cB b v n m U H := ⟨h.1.moved hvm, h.2⟩
theorem AtB.kept {D : va_G} {cB : ClassId} {b v n m : Nat} {U : State} {H H1 : Heap} (h : AtB D cB b v n m U H) (hb : H1[b]? = H[b]?) (hv : H1[v]? = H[v]?) : AtB D cB b v n m U H1 :=
  ⟨h.1.kept hv, h.2.1, h.2.2.imp fun _ g => wK1 g hb⟩
theorem AtB.lt {D : va_G} {cB : ClassId} {b v n m : Nat} {U : State} {H : Heap} (h : AtB D cB b v n m U H) : b < H.size ∧ v < H.size := by
  obtain ⟨h1, -, ml, h2⟩ := h
  exact ⟨(h2 0 _ rfl).lt, h1.lt⟩
/-- the tables' word that a private method is run, whatever the object's class -/
theorem zsel_priv {y : MethodName} {s : State} {args : Array Value} (hy : y.cls ≠ "java/lang/invoke/MethodHandle" ∧ y.cls ≠ "java/lang/invoke/VarHandle") (hins : (Cond.instantiable RJ4 4).before args s = true)
    (hsm : (Cond.sameMethod y.cls y.cls y.name y.desc).before args s = true) (hpriv : (Cond.privateMethod y).before args s = true) (hinst : (Cond.instanceMethod y).before args s = true) : (Cond.selects RJ4 y y).before args s = true := by
  obtain ⟨c, k, hc, hk, -, -, -, -⟩ := Cond.instantiable_spec hins
  obtain ⟨mk, methM, hnamed, hmethM, -, -⟩ := Cond.instanceMethod_spec hinst
  obtain ⟨cn, ck, r, hcn, hck, hni, hf, hn⟩ := Cond.sameMethod_found hsm
  have hfound : s.methodFound? y.cls y.name y.desc = some mk := State.methodFound?_of_named hnamed hy
  have hcls : mk.cls = cn := Option.some.inj ((findClass_of_methodNamed hnamed).symm.trans hcn)
  have hsel : selectMethod {} s.vm c mk = .method mk := selectMethod_private hmethM (Cond.privateMethod_at hpriv mk methM hnamed hmethM)
  simp only [Cond.before, Cond.holds, Cond.value, hc, hfound, hnamed, hsel, hcls, hck]
  simp; exact hni
end SA
section SB
variable {p : Program} {l : Launch} {e : Env} {R : Room} {s : State} {m : MethodId} {args : Array Value} {below : List Frame} {meth : Method} {c : Code} {H : Heap} {locs : List Loc} {cells slots : Nat} {Q : State → Prop}
variable {cc : ByteArray} {pc nL : Nat} {ls : Array Slot} {rest st : List Value} {own : String} {lv : List (Nat × Value)} {D : va_G} {cB : ClassId} {A : Nat → Prop} {b v n sz : Nat}
-- arrays of bytes
theorem zr_alen (C : CallFix p m c cc nL s args T0 own) (hR : AtR D cB v n s H) (d : decode cc pc = .ok (.arraylength, 1))
    (kk : W p l e R s m args below meth c H locs cells slots Q (F0 m (pc + 1) ls (.int (iZ (n : Int)) :: rest))) : W p l e R s m args below meth c H locs cells slots Q (F0 m pc ls (.ref v :: rest)) := by
  obtain ⟨f, h1, h2, h3⟩ := hR
  exact va_alen (D := D) (cl := vwCl) C.1 C.2.1 h3 h2 0 0 rfl rfl (iZ_nI n).symm d kk
theorem zr_bald (C : CallFix p m c cc nL s args T0 own) (hR : AtR D cB v n s H) {z : Int} (j : Nat) (hz : z = (j : Int)) (hj : j < n) (hn : n < 2147483648) (d : decode cc pc = .ok (.baload, 1))
    (kk : ∀ x : Int32, W p l e R s m args below meth c H locs cells slots Q (F0 m (pc + 1) ls (.int x :: rest))) : W p l e R s m args below meth c H locs cells slots Q (F0 m pc ls (.int (iZ z) :: .ref v :: rest)) := by
  obtain ⟨f, h1, h2, h3⟩ := hR
  exact va_bald (D := D) (cl := vwCl) C.1 C.2.1 h3 h2 0 0 rfl rfl (iZ_in (n := n) (by omega) (by omega)) d (kk _)
theorem zr_bast (C : CallFix p m c cc nL s args T0 own) (hR : AtR D cB v n s H) (hS : va_S A s.heap H locs) (hA : A v) {z : Int} {x : Int32} (j : Nat) (hz : z = (j : Int)) (hj : j < n) (hn : n < 2147483648) (d : decode cc pc = .ok (.bastore, 1))
    (kk : ∀ H1 locs1, AtR D cB v n s H1 → va_S A s.heap H1 locs1 → (∀ q : Nat, q ≠ v → H1[q]? = H[q]?) → W p l e R s m args below meth c H1 locs1 cells slots Q (F0 m (pc + 1) ls rest)) : W p l e R s m args below meth c H locs cells slots Q (F0 m pc ls (.int x :: .int (iZ z) :: .ref v :: rest)) := by
  obtain ⟨f, h1, h2, h3⟩ := hR
  refine W.bast C.1 C.2.1 (h2 0 _ rfl) ((h3.2 0 _ rfl).1 n (fun j => .int (f j))) (fun q => by cases q) (by show ¬ ((iZ z) < 0 ∨ (arrV _ _ _).slots.size ≤ _); rw [arrV_size]; exact iZ_in (n := n) (by omega) (by omega)) rfl rfl d fun H1 e z9 oq => ?_
  refine kk H1 _ ⟨upd f (iZ z).toNatClampNeg (vp_nar .byte x), sb_fitU h1 (pk_fb x), wP1 ?_, h3⟩ (hS.put z9 oq hA) oq
  show H1[v]? = some (vp_cell _ _)
  rw [e]
  rw [vp_cell_i, vp_cell_i, arrV_store]
  congr 2
  funext q
  by_cases hq : q = (iZ z).toNatClampNeg
  · subst hq
    simp [updV, upd, vp_nar_byte]
    rfl
  · simp [updV, upd, hq]
theorem zr_newb (C : CallFix p m c cc nL s args T0 own) (hK : va_K D vwCl [(cB, .byte)] s) (hS : va_S A s.heap H locs) {z : Int} (j : Nat) (hz : z = (j : Int)) (hj : j < 100000) (hc : cells + 1 ≤ R.cells) (hs : slots + j ≤ R.slots) (d : decode cc pc = .ok (.newarray .byte, 2))
    (kk : ∀ q H1, H.size ≤ q → AtR D cB q j s H1 → va_S A s.heap H1 locs → (∀ x : Nat, x < H.size → H1[x]? = H[x]?) → H.size ≤ H1.size → W p l e R s m args below meth c H1 locs (cells + 1) (slots + j) Q (F0 m (pc + 2) ls (.ref q :: rest))) : W p l e R s m args below meth c H locs cells slots Q (F0 m pc ls (.int (iZ z) :: rest)) := by
  subst hz
  refine va_newaK C.1 C.2.1 (atype := .byte) (C.2.2.2.2 _ (T0_of ac_byte rfl)) (g := F0 m pc ls (.int (iZ (j : Int)) :: rest)) rfl d rfl (N := j) (by rw [show (0 : Int32) = iZ 0 from iZ_0, iZ_lt (by omega) (by omega)]; omega) (by rw [iZ_clamp (by omega)]; rfl) (by show j * 1 ≤ _; omega) hc hs rfl fun H1 cA e1 z1 o1 hAr hNm => ?_
  have hB : s.vm.findClass ("[" ++ (newarray.typeOf .byte).toString) = some cB := (hK.2 0 _ rfl).2
  have e9 : cA = cB := Option.some.inj (hNm.symm.trans hB)
  subst e9
  refine kk H.size H1 (Nat.le_refl _) ⟨fun _ => 0, sb_fit0, wP1 ?_, hK⟩ ⟨Nat.le_trans hS.1 (by omega), fun x g1 g2 => (o1 x (Nat.lt_of_lt_of_le g1 hS.1)).trans (hS.2.1 x g1 g2), hS.2.2⟩ o1 (by omega)
  show H1[H.size]? = some (vp_cell _ _)
  exact e1
/-- an array, seen as a table that nobody writes -/
theorem AtR.T (hR : AtR D cB v n s H) (hn : n < 2147483648) (hA : ¬ A v) : ∃ f : Nat → Int32, sb_Fit f ∧ va_T .byte v n (fun j => .int (f j)) A s H := by
  obtain ⟨f, h1, h2, h3⟩ := hR
  refine ⟨f, h1, vp_cell cB (n, .inl f), h2 0 _ rfl, (h3.2 0 _ rfl).1 n (fun j => .int (f j)), (fun q => by cases q), ?_, ?_, fun j hj => ?_, hA⟩
  · show n ≤ (arrV _ _ _).slots.size
    rw [arrV_size]
    exact Nat.le_refl _
  · show (arrV _ _ _).slots.size.toInt32 = _
    rw [arrV_size]
  · show (arrV _ _ _).slots[j]? = _
    rw [arrV_read _ _ hj]
theorem zr_copy (C : CallFix p m c cc nL s args T0 own) {v0 m0 : Nat} (h0 : AtR D cB v0 m0 s s.heap) (hA0 : ¬ A v0) (h1 : AtR D cB v n s H) (hS : va_S A s.heap H locs) (hA : A v) {zs zd zn : Int} (j : Nat) (hzs : zs = 0) (hzd : zd = 0) (hz : zn = (j : Int)) (hn0 : j ≤ m0) (hn1 : j ≤ n) (hm : m0 < 100000) (hn : n < 100000) (hl : lv_has ls nL lv) {idx : Nat} (hG : Cond.methodLink own idx arraycopyName ∈ lw_tbl) (hR : 1 ≤ R.frames ∧ 40 ≤ R.locals) (hcat : (rest.map fun v => v.category).sum ≤ 8) (d : decode cc pc = .ok (.invokestatic idx, 3))
    (kk : ∀ H1 locs1, AtR D cB v n s H1 → va_S A s.heap H1 locs1 → (∀ q : Nat, q ≠ v → H1[q]? = H[q]?) → W p l e R s m args below meth c H1 locs1 cells slots Q (F0 m (pc + 3) ls rest)) : W p l e R s m args below meth c H locs cells slots Q (F0 m pc ls (.int (iZ zn) :: .int (iZ zd) :: .ref v :: .int (iZ zs) :: .ref v0 :: rest)) := by
  subst hzs hzd hz
  obtain ⟨f0, hf0, hT⟩ := h0.T (A := A) (by omega) hA0
  obtain ⟨f, h2, h3, h4⟩ := h1
  have c0 : (iZ 0).toNatClampNeg = 0 := by rw [iZ_clamp (by omega)]; rfl
  have cj : (iZ (j : Int)).toNatClampNeg = j := by rw [iZ_clamp (by omega)]; rfl
  have n0 : ¬ iZ 0 < 0 := by decide
  have nj : ¬ iZ (j : Int) < 0 := by rw [show (0 : Int32) = iZ 0 from iZ_0, iZ_lt (by omega) (by omega)]; omega
  intro T9 hT9 X
  obtain ⟨scr, hs1, hs2, hs3, hs4, -, hs5, hs7⟩ := hT
  have hc0 : H[v0]? = some scr := by rw [hS.2.1 v0 (Array.getElem?_eq_some_iff.mp hs1).1 hs7]; exact hs1
  have hc1 : H[v]? = some (vp_cell cB (n, .inl f)) := h3 0 _ rfl
  obtain ⟨hs6, k0, hk0, cm0, hkk0⟩ := hs2
  obtain ⟨-, k1, hk1, cm1, hkk1⟩ := (h4.2 0 _ rfl).1 n (fun j => .int (f j))
  have nn : ∀ z : Int32, ¬ z < 0 → z.toInt = (z.toNatClampNeg : Int) := by
    intro z hz
    have hz0 : (0 : Int) ≤ z.toInt := by
      have := Int32.not_lt.mp hz
      simpa using Int32.le_iff_toInt_le.mp this
    show z.toInt = ((z.toInt.toNat : Nat) : Int)
    omega
  have hnf : nativeFrameWords "java/lang/System" "arraycopy" 5 + 11 ≤ 32 := by decide +kernel
  obtain ⟨vm', X', step⟩ := X.arraycopy C.1 C.2.2.2.1 (C.2.2.2.2 _ (T0_of hG rfl)) (C.2.2.2.2 _ (T0_of nv_J10_arraycopy rfl)) (C.2.2.2.2 _ (T0_of sc_J10_arraycopy rfl)) (C.2.2.2.2 _ (T0_of ini_J10 rfl)) (src := v0) (dst := v) (cs := scr) (cd := vp_cell cB (n, .inl f)) (srcPos := iZ 0) (destPos := iZ 0) (n := iZ (j : Int)) (by rw [hT9]; exact hc0) (by rw [hT9]; exact hc1)
    hs6 (fun _ h => by cases h) hs3 (fun h => by cases h) hk0 hk1 hkk0 hkk1 (by simp [refKind]) n0 n0 nj
    (by rw [nn _ n0, nn _ nj, c0, cj]; omega)
    (by rw [nn _ n0, nn _ nj, c0, cj]; show ¬ _ > ((arrV cB n (fun j => .int (f j))).slots.size : Int); rw [arrV_size]; omega)
    (fun vm₁ _ i hi => by
      rw [cj] at hi
      have e : scr.slots.getD ((iZ 0).toNatClampNeg + i) .null = .int (f0 ((iZ 0).toNatClampNeg + i)) := by
        rw [c0, Array.getD_eq_getD_getElem?, hs5 _ (by omega)]
        rfl
      refine ⟨?_, ?_⟩
      · rw [e]
        exact hf0 _
      · rw [e]
        exact trivial)
    (g := F0 m pc ls (.int (iZ (j : Int)) :: .int (iZ 0) :: .ref v :: .int (iZ 0) :: .ref v0 :: rest)) rfl (by show ls.size = _; rw [hl.1]; exact C.2.2.1.symm) (rest := rest) rfl (by rw [C.2.1]; exact d) hR.1 (by show 2 * 0 + _ + (nativeFrameWords "java/lang/System" "arraycopy" 5 + 11) ≤ _; omega)
  have e1 : copied scr (vp_cell cB (n, .inl f)) (iZ 0) (iZ 0) (iZ (j : Int)) = vp_cell cB (n, .inl (va_cpy f0 f (iZ 0).toNatClampNeg (iZ 0).toNatClampNeg (iZ (j : Int)).toNatClampNeg)) := va_copiedX (fun z => .int z) scr cB f0 f (n0 := m0) hs5 (by rw [c0, cj]; omega)
  rw [e1] at X' step
  have hlv : v < H.size := (Array.getElem?_eq_some_iff.mp hc1).1
  have hheap : ((T9.setVm vm').setCell v (vp_cell cB (n, .inl (va_cpy f0 f (iZ 0).toNatClampNeg (iZ 0).toNatClampNeg (iZ (j : Int)).toNatClampNeg)))).heap = H.setIfInBounds v (vp_cell cB (n, .inl (va_cpy f0 f (iZ 0).toNatClampNeg (iZ 0).toNatClampNeg (iZ (j : Int)).toNatClampNeg))) := by rw [← hT9]; rfl
  have oq : ∀ q : Nat, q ≠ v → (H.setIfInBounds v (vp_cell cB (n, .inl (va_cpy f0 f (iZ 0).toNatClampNeg (iZ 0).toNatClampNeg (iZ (j : Int)).toNatClampNeg))))[q]? = H[q]? := fun q hq => by simp [Array.getElem?_setIfInBounds, Ne.symm hq]
  obtain ⟨t, a1, b1⟩ := kk _ _ ⟨va_cpy f0 f (iZ 0).toNatClampNeg (iZ 0).toNatClampNeg (iZ (j : Int)).toNatClampNeg, sb_fitC hf0 h2, wP1 (show (H.setIfInBounds v _)[v]? = some _ by simp [Array.getElem?_setIfInBounds, hlv]), h4⟩ ⟨by simp; exact hS.1, fun q g1 g2 => by
      rw [oq q (fun e => g2 (by rw [e]; exact hA))]
      exact hS.2.1 q g1 g2, fun q hq => by
      rcases List.mem_append.mp hq with h | h
      · exact hS.2.2 q h
      · obtain ⟨z, -, hz⟩ := List.mem_map.mp h
        rw [← hz]
        exact hA⟩ oq _ hheap X'
  exact ⟨t, step t a1, b1⟩
end SB
/-! ===== builders: contracts of their methods, rows ===== -/
section BA
/-- inside a builder's method: v0 is its array at the method's start -/
def zJn (D : va_G) (cB : ClassId) (b v0 v n m : Nat) (s : State) (H : Heap) (locs : List Loc) : Prop :=
  AtB D cB b v n m s H ∧ va_S (zF b v0 s.heap.size) s.heap H locs ∧ (v = v0 ∨ s.heap.size ≤ v)
/-- a builder's method: of n signs in m bytes it makes n2 signs in some m2 bytes -/
def zBM (l : Launch) (y : MethodName) (fr need mc ms : Nat) (D : va_G) (cB : ClassId) (as : List Value) (n m : Nat) (rv : Nat → Nat → Option Value) (n2 : Nat) (post : Nat → Nat → Nat → Prop) : Prop :=
  ∃ (bytes : ByteArray) (maxL lo : Nat) (ret : Option FieldType), (Cond.instanceMethod y ∈ lw_tbl ∧ Cond.initialized y.cls ∈ lw_tbl ∧ Cond.code y bytes maxL ret ∈ lw_tbl) ∧ need = 8 + (maxL + 11) + lo ∧
    (y.cls ≠ "java/lang/invoke/MethodHandle" ∧ y.cls ≠ "java/lang/invoke/VarHandle" ∧ (parseMethodDescriptor y.desc).map (fun d => d.parameters.length) = some as.length) ∧
    ∀ b v sz : Nat, Met l y (Cond.code y bytes maxL ret :: T0) { frames := fr, cells := mc, slots := ms, locals := lo } (fun a U => a = (Value.ref b :: as).toArray ∧ U.heap.size = sz ∧ AtB D cB b v n m U U.heap ∧ zV (fun q => q = b ∨ q = v) U U.heap)
      (fun _ st oc t => ∃ v2 m2, oc = .returned (rv b v2) ∧ AtB D cB b v2 n2 m2 t t.heap ∧ post v v2 m2 ∧ (v2 = v ∨ sz ≤ v2) ∧ va_F (zF b v sz) st t) mc ms (zF b v sz)
abbrev zB1 (below : List Frame) (D : va_G) (cB : ClassId) (b v : Nat) (av : Array Value) (s : State) (mc ms : Nat) (rv : Nat → Nat → Option Value) (n2 : Nat) (post : Nat → Nat → Nat → Prop) : State → Prop :=
  MQ below (fun _ st oc t => ∃ v2 m2, oc = .returned (rv b v2) ∧ AtB D cB b v2 n2 m2 t t.heap ∧ post v v2 m2 ∧ (v2 = v ∨ s.heap.size ≤ v2) ∧ va_F (zF b v s.heap.size) st t) av s mc ms (zF b v s.heap.size)
theorem zBM.intro {l : Launch} {y : MethodName} {fr need lo nA mc ms : Nat} {D : va_G} {cB : ClassId} {as : List Value} {n m : Nat} {rv : Nat → Nat → Option Value} {n2 : Nat} {post : Nat → Nat → Nat → Prop} {cc : ByteArray} {maxL : Nat} {ret : Option FieldType} {own : String}
    (hz : Cond.instanceMethod y ∈ lw_tbl ∧ Cond.initialized y.cls ∈ lw_tbl ∧ Cond.code y cc maxL ret ∈ lw_tbl) (hy : plainName y.cls = true) (ho : own = y.cls) (hn : need = 8 + (maxL + 11) + lo)
    (hd : y.cls ≠ "java/lang/invoke/MethodHandle" ∧ y.cls ≠ "java/lang/invoke/VarHandle" ∧ (parseMethodDescriptor y.desc).map (fun d => d.parameters.length) = some nA) (hA : as.length = nA) (hle : ∀ b, (lg_sl (.ref b :: as)).length ≤ maxL)
    (body : ∀ (b v : Nat) (p : Program) (e : Env) (s : State) (m0 : MethodId) (below : List Frame) (meth : Method) (c0 : Code) (ls : Array Slot), CallFix p m0 c0 cc maxL s (Value.ref b :: as).toArray T0 own → meth.sig.returnType = ret → meth.locks = false → zJn D cB b v v n m s s.heap [] → zV (zF b v s.heap.size) s s.heap → lv_has ls maxL (lv_args 0 (.ref b :: as)) →
      W p l e { frames := fr, cells := mc, slots := ms, locals := lo } s m0 (Value.ref b :: as).toArray below meth c0 s.heap [] 0 0 (zB1 below D cB b v (Value.ref b :: as).toArray s mc ms rv n2 post) (F0 m0 0 ls [])) : zBM l y fr need mc ms D cB as n m rv n2 post := by
  subst hA
  refine ⟨cc, maxL, lo, ret, hz, hn, hd, fun b v sz => ?_⟩
  refine Met.ofW (ws' := T0) hy rfl ?_
  intro p e s m0 args below meth c0 s₁ B hml hv
  obtain ⟨hv, hsz, hAt, hV⟩ := hv
  subst hv
  subst hsz
  have hts := atoms_spec (ws := Cond.code y cc maxL ret :: T0) B.pre
  have hown : s.vm.findClass own = some m0.cls := by rw [ho]; exact findClass_of_methodNamed B.named
  rw [lg_entry_eq]
  exact body b v p e s m0 below meth c0 _ ⟨B.exec, B.bytes, hml, hown, fun w h => hts w (List.mem_cons_of_mem _ h)⟩ B.returns B.notSynchronized ⟨hAt, va_S.rf, Or.inl rfl⟩ (hV.nar (fun q h1 h2 => by rcases h2 with h2 | h2 | h2; exact Or.inl h2; exact Or.inr h2; omega)) (lv_entry (.ref b :: as) (hle b))
theorem zgB {y : MethodName} {bytes : ByteArray} {maxL : Nat} {ret : Option FieldType} (h : Cond.code y bytes maxL ret ∈ lw_tbl) : GoodIn T0 (Cond.code y bytes maxL ret :: T0) := by
  intro w hw
  have hm : w ∈ T0 := by
    rcases List.mem_cons.mp hw with rfl | hw
    · exact T0_of h rfl
    · exact hw
  exact ⟨hm, T0_good hm⟩
end BA
section BB
variable {p : Program} {l : Launch} {e : Env} {R : Room} {s : State} {m0 : MethodId} {args : Array Value} {below : List Frame} {meth : Method} {c : Code} {H : Heap} {locs : List Loc} {cells slots : Nat} {Q : State → Prop}
variable {cc : ByteArray} {pc nL : Nat} {ls : Array Slot} {rest st : List Value} {own : String} {lv : List (Nat × Value)} {D : va_G} {cB : ClassId} {A : Nat → Prop} {b v v0 n m sz : Nat}
-- fields
theorem zj_getV (C : CallFix p m0 c cc nL s args T0 own) (B : AtB D cB b v n m s H) {idx : Nat} (hlink : Cond.fieldLink own idx RJ5 "value" "[B" ∈ lw_tbl) (d : decode cc pc = .ok (.getfield idx, 3))
    (kk : W p l e R s m0 args below meth c H locs cells slots Q (F0 m0 (pc + 3) ls (.ref v :: rest))) : W p l e R s m0 args below meth c H locs cells slots Q (F0 m0 pc ls (.ref b :: rest)) := by
  obtain ⟨h1, -, ml, h2⟩ := B
  exact va_get (D := D) (cl := vwCl) (tys := [(cB, .byte)]) C.1 C.2.1 C.2.2.2.2 inJ4 C.2.2.2.1 h1.K h2 0 rfl rfl 0 (by decide) (C.2.2.2.2 _ (T0_of hlink rfl)) (fun x h => h) rfl d kk
theorem zj_getC (C : CallFix p m0 c cc nL s args T0 own) (B : AtB D cB b v n m s H) {idx : Nat} (hlink : Cond.fieldLink own idx RJ5 "coder" "B" ∈ lw_tbl) (d : decode cc pc = .ok (.getfield idx, 3))
    (kk : W p l e R s m0 args below meth c H locs cells slots Q (F0 m0 (pc + 3) ls (.int (iZ 0) :: rest))) : W p l e R s m0 args below meth c H locs cells slots Q (F0 m0 pc ls (.ref b :: rest)) := by
  obtain ⟨h1, -, ml, h2⟩ := B
  exact va_get (D := D) (cl := vwCl) (tys := [(cB, .byte)]) C.1 C.2.1 C.2.2.2.2 inJ4 C.2.2.2.1 h1.K h2 0 rfl rfl 1 (by decide) (C.2.2.2.2 _ (T0_of hlink rfl)) (fun x h => h) rfl d kk
theorem zj_getN (C : CallFix p m0 c cc nL s args T0 own) (B : AtB D cB b v n m s H) {idx : Nat} (hlink : Cond.fieldLink own idx RJ5 "count" "I" ∈ lw_tbl) (d : decode cc pc = .ok (.getfield idx, 3))
    (kk : W p l e R s m0 args below meth c H locs cells slots Q (F0 m0 (pc + 3) ls (.int (iZ (n : Int)) :: rest))) : W p l e R s m0 args below meth c H locs cells slots Q (F0 m0 pc ls (.ref b :: rest)) := by
  obtain ⟨h1, -, ml, h2⟩ := B
  exact va_get (D := D) (cl := vwCl) (tys := [(cB, .byte)]) C.1 C.2.1 C.2.2.2.2 inJ4 C.2.2.2.1 h1.K h2 0 rfl rfl 3 (by decide) (C.2.2.2.2 _ (T0_of hlink rfl)) (fun x h => h) rfl d kk
end BB
section BC
variable {p : Program} {l : Launch} {e : Env} {R : Room} {s : State} {m0 : MethodId} {args : Array Value} {below : List Frame} {meth : Method} {c : Code} {H : Heap} {locs : List Loc} {cells slots : Nat} {Q : State → Prop}
variable {cc : ByteArray} {pc nL : Nat} {ls : Array Slot} {rest st : List Value} {own : String} {lv : List (Nat × Value)} {D : va_G} {cB : ClassId} {A : Nat → Prop} {b v v0 n m sz : Nat}
/-- a field is written: what becomes of the heap -/
theorem za_put (C : CallFix p m0 c cc nL s args T0 own) {Cn : String} {T : u_T} {N ci idx : Nat} (hin : ∀ w ∈ u_ws Cn T N, w ∈ T0) (ty0 : Nat → FieldType) (hty : ∀ k, k < N → parseFieldDescriptor (T k).2.2.1 = some (ty0 k)) (hnm : ∀ a, a < N → ∀ b, b < N → a ≠ b → (T a).2.1 ≠ (T b).2.1)
    {tys : List (ClassId × FieldType)} (hK : va_K D vwCl tys s) {a : Nat} {fs : List Value} (hP : va_P D vwCl [(a, .inr (ci, fs))] H) (hS : va_S A s.heap H locs) (hA : A a) (hc : vwCl[ci]? = some (Cn, T, N)) (k : Nat) (hk : k < N) {ref : String} (hlink : Cond.fieldLink own idx ref (T k).2.1 (T k).2.2.1 ∈ lw_tbl) (href : (T k).1 = ref) (hfin : (T k).2.2.2 = false) {ty : FieldType} {v : Value} (hd : parseFieldDescriptor (T k).2.2.1 = some ty) (hn : narrow ty v = v) (hfit : fits ty v = true) (hl : k < fs.length) (d : decode cc pc = .ok (.putfield idx, 3))
    (kk : ∀ H1 locs1, va_P D vwCl [(a, .inr (ci, fs.set k v))] H1 → va_S A s.heap H1 locs1 → (∀ q : Nat, q ≠ a → H1[q]? = H[q]?) → H1.size = H.size → W p l e R s m0 args below meth c H1 locs1 cells slots Q (F0 m0 (pc + 3) ls rest)) : W p l e R s m0 args below meth c H locs cells slots Q (F0 m0 pc ls (v :: .ref a :: rest)) := by
  subst href
  have hts : ∀ y ∈ T0, y.before args s = true := C.2.2.2.2
  have hap := va_apart (own := own) (cl := vwCl) (ci := ci) hts hin ty0 hty hnm hK hc
  obtain ⟨r, h1, cell, q1, q2, q3, q4⟩ := hP 0 _ rfl
  have hr : r = (Cn, T, N) := Option.some.inj (h1.symm.trans hc)
  subst hr
  obtain ⟨hSl, hfc, kC, hkC, hkind⟩ := hK.1 ci _ hc
  obtain ⟨cf, kf, fi, f, hi, hsl⟩ := hSl k hk
  have hlay := hts _ (hin _ (u_in_lay hk))
  unfold u_lay at hlay
  rw [if_neg (by rw [hfin]; decide)] at hlay
  have hst := (u_facts hfc hkC (u_lays hts hin hk) hi).1
  have h6 := u_store hfc hkC hkind hlay hi hd hn hfit
  refine W.putK C.1 C.2.1 (f := f) ⟨C.2.2.2.1, hts _ (T0_of hlink rfl), ⟨_, _, _, hi⟩, hst⟩ (by rw [q2]; exact h6) q1 q3 (by rw [hsl]; exact k2_hasslot (q4 k hk)) rfl rfl d fun H' e1 e2 e3 => ?_
  rw [hsl] at e1 ⊢
  have hat : va_at D vwCl (a, .inr (ci, fs.set k v)) H' := ⟨_, hc, t_OB.to (V := updV (vp_V fs) k v) ⟨_, e1, q2, q3, t_set q4 hap hk v⟩ (fun j _ => vp_updV_set hl v j)⟩
  exact kk H' _ (wP1 hat) (hS.put e2 e3 hA) e3 e2
/-- .. a final one, in a constructor of its class -/
theorem za_putF (C : CallFix p m0 c cc nL s args T0 own) (hin2 : meth.name = "<init>") {Cn : String} {T : u_T} {N ci idx : Nat} (hin : ∀ w ∈ u_ws Cn T N, w ∈ T0) (ty0 : Nat → FieldType) (hty : ∀ k, k < N → parseFieldDescriptor (T k).2.2.1 = some (ty0 k)) (hnm : ∀ a, a < N → ∀ b, b < N → a ≠ b → (T a).2.1 ≠ (T b).2.1)
    {tys : List (ClassId × FieldType)} (hK : va_K D vwCl tys s) {a : Nat} {fs : List Value} (hP : va_P D vwCl [(a, .inr (ci, fs))] H) (hS : va_S A s.heap H locs) (hA : A a) (hc : vwCl[ci]? = some (Cn, T, N)) (k : Nat) (hk : k < N) {ref : String} (hlink : Cond.fieldLink own idx ref (T k).2.1 (T k).2.2.1 ∈ lw_tbl) (href : (T k).1 = ref) (hown : ref = own) (hfin : (T k).2.2.2 = true) {ty : FieldType} {v : Value} (hd : parseFieldDescriptor (T k).2.2.1 = some ty) (hn : narrow ty v = v) (hfit : fits ty v = true) (hl : k < fs.length) (d : decode cc pc = .ok (.putfield idx, 3))
    (kk : ∀ H1 locs1, va_P D vwCl [(a, .inr (ci, fs.set k v))] H1 → va_S A s.heap H1 locs1 → (∀ q : Nat, q ≠ a → H1[q]? = H[q]?) → H1.size = H.size → W p l e R s m0 args below meth c H1 locs1 cells slots Q (F0 m0 (pc + 3) ls rest)) : W p l e R s m0 args below meth c H locs cells slots Q (F0 m0 pc ls (v :: .ref a :: rest)) := by
  subst href
  have hts : ∀ y ∈ T0, y.before args s = true := C.2.2.2.2
  have hap := va_apart (own := own) (cl := vwCl) (ci := ci) hts hin ty0 hty hnm hK hc
  obtain ⟨r, h1, cell, q1, q2, q3, q4⟩ := hP 0 _ rfl
  have hr : r = (Cn, T, N) := Option.some.inj (h1.symm.trans hc)
  subst hr
  obtain ⟨hSl, hfc, kC, hkC, hkind⟩ := hK.1 ci _ hc
  obtain ⟨cf, kf, fi, f, hi, hsl⟩ := hSl k hk
  have hlay := hts _ (hin _ (u_in_lay hk))
  unfold u_lay at hlay
  rw [if_pos hfin] at hlay
  have hst := (u_facts hfc hkC (u_lays hts hin hk) hi).1
  have hcf : m0.cls = cf := by
    obtain ⟨_, _, c', _, _, _, -, -, hf', -, -, -, hown2, -⟩ := Cond.laysFinal_spec hlay
    have e1 : c' = cf := by have := hi.symm.trans hf'; simp at this; exact this.1.symm
    rw [hown] at hown2
    rw [← e1]; exact Option.some.inj (C.2.2.2.1.symm.trans hown2)
  have h6 := u_fits hfc hkC hkind (Or.inr hlay) hi hd hn hfit
  refine W.putFinK C.1 C.2.1 C.2.2.2.1 (hts _ (T0_of hlink rfl)) hi hst hcf hin2 (by rw [q2]; exact h6) q1 q3 (by rw [hsl]; exact k2_hasslot (q4 k hk)) rfl rfl d fun H' e1 e2 e3 => ?_
  rw [hsl] at e1 ⊢
  have hat : va_at D vwCl (a, .inr (ci, fs.set k v)) H' := ⟨_, hc, t_OB.to (V := updV (vp_V fs) k v) ⟨_, e1, q2, q3, t_set q4 hap hk v⟩ (fun j _ => vp_updV_set hl v j)⟩
  exact kk H' _ (wP1 hat) (hS.put e2 e3 hA) e3 e2
theorem zj_putN (C : CallFix p m0 c cc nL s args T0 own) (B : AtB D cB b v n m s H) (hS : va_S A s.heap H locs) (hA : A b) {idx : Nat} (hlink : Cond.fieldLink own idx RJ5 "count" "I" ∈ lw_tbl) {z : Int} (j : Nat) (hz : z = (j : Int)) (d : decode cc pc = .ok (.putfield idx, 3))
    (kk : ∀ H1 locs1, AtB D cB b v j m s H1 → va_S A s.heap H1 locs1 → W p l e R s m0 args below meth c H1 locs1 cells slots Q (F0 m0 (pc + 3) ls rest)) : W p l e R s m0 args below meth c H locs cells slots Q (F0 m0 pc ls (.int (iZ z) :: .ref b :: rest)) := by
  subst hz
  obtain ⟨h1, hne, ml, h2⟩ := B
  exact za_put C inJ4 tyJ4 tyJ4_ok nmJ4 h1.K h2 hS hA rfl 3 (by decide) hlink rfl rfl (ty := .int) rfl rfl rfl (Nat.le_of_ble_eq_true rfl) d (fun H1 locs1 hP hS1 hq _ => kk H1 locs1 ⟨h1.kept (hq v (Ne.symm hne)), hne, ml, hP⟩ hS1)
theorem zj_putV (C : CallFix p m0 c cc nL s args T0 own) (B : AtB D cB b v n m s H) (hS : va_S A s.heap H locs) (hA : A b) {w m2 : Nat} (hw : AtR D cB w m2 s H) (hne2 : b ≠ w) {idx : Nat} (hlink : Cond.fieldLink own idx RJ5 "value" "[B" ∈ lw_tbl) (d : decode cc pc = .ok (.putfield idx, 3))
    (kk : ∀ H1 locs1, AtB D cB b w n m2 s H1 → va_S A s.heap H1 locs1 → W p l e R s m0 args below meth c H1 locs1 cells slots Q (F0 m0 (pc + 3) ls rest)) : W p l e R s m0 args below meth c H locs cells slots Q (F0 m0 pc ls (.ref w :: .ref b :: rest)) := by
  obtain ⟨h1, hne, ml, h2⟩ := B
  exact za_put C inJ4 tyJ4 tyJ4_ok nmJ4 h1.K h2 hS hA rfl 0 (by decide) hlink rfl rfl (ty := .array .byte) rfl rfl rfl (Nat.le_of_ble_eq_true rfl) d (fun H1 locs1 hP hS1 hq _ => kk H1 locs1 ⟨hw.kept (hq w (Ne.symm hne2)), hne2, ml, hP⟩ hS1)
-- calls of a builder's methods
theorem zb_after {mc ms : Nat} {y : MethodName} {rv : Nat → Nat → Option Value} {n2 : Nat} {post : Nat → Nat → Nat → Prop} (hS : va_S A s.heap H locs) (hA : ∀ q, zF b v H.size q → A q)
    (hr : va_Run p l e R s m0 args below meth c H locs cells slots mc ms (F0 m0 pc ls st) rest (fun st oc t => ∃ v2 m2, oc = .returned (rv b v2) ∧ AtB D cB b v2 n2 m2 t t.heap ∧ post v v2 m2 ∧ (v2 = v ∨ H.size ≤ v2) ∧ va_F (zF b v H.size) st t) (zF b v H.size))
    (k : ∀ v2 m2 H1 locs1, post v v2 m2 → (v2 = v ∨ H.size ≤ v2) → AtB D cB b v2 n2 m2 s H1 → va_S A s.heap H1 locs1 → (∀ q : Nat, q < H.size → ¬ (q = b ∨ q = v) → H1[q]? = H[q]?) → H.size ≤ H1.size → W p l e R s m0 args below meth c H1 locs1 (cells + mc) (slots + ms) Q (F0 m0 (pc + 3) ls ((rv b v2).toList ++ rest))) : W p l e R s m0 args below meth c H locs cells slots Q (F0 m0 pc ls st) := by
  intro T9 hT X
  obtain ⟨v9, st₀, t, T', L, h0, X', hL, e1, e2, ⟨v2, m2, hv, hAt, hp, hv2, hF⟩, st2⟩ := hr T9 hT X
  cases hv
  obtain ⟨hz2, hk2⟩ := hF
  rw [h0] at hz2 hk2
  have hss : s.heap.size ≤ H.size := hS.1
  have hS2 : va_S A s.heap T'.heap (locs ++ L) := by
    refine ⟨Nat.le_trans hss (by rw [e1]; exact hz2), fun q h1 h2 => ?_, fun q hq => ?_⟩
    · rw [e1, hk2 q (Nat.lt_of_lt_of_le h1 hss) (fun z => h2 (hA q z))]
      exact hS.2.1 q h1 h2
    · rcases List.mem_append.mp hq with h | h
      · exact hS.2.2 q h
      · exact hA _ (hL q h)
  obtain ⟨t2, a1, b1⟩ := k v2 m2 T'.heap (locs ++ L) hp hv2 (by rw [e1]; exact hAt.moved (by rw [← e2]; exact X'.warmed.alike.symm)) hS2 (fun q h1 h2 => by rw [e1]; exact hk2 q h1 (fun z => by rcases z with z | z | z; exact h2 (Or.inl z); exact h2 (Or.inr z); omega)) (by rw [e1]; exact hz2) T' rfl X'
  exact ⟨t2, st2 t2 a1, b1⟩
/-- by invokevirtual: hsel says that it is this method that is run -/
theorem zb_callV (C : CallFix p m0 c cc nL s args T0 own) (B : AtB D cB b v n m s H) (V : zV A s s.heap) (hS : va_S A s.heap H locs) (hA : ∀ q, zF b v H.size q → A q) {y : MethodName} {fr need mc ms idx : Nat} {as : List Value} {rv : Nat → Nat → Option Value} {n2 : Nat} {post : Nat → Nat → Nat → Prop} (hM : zBM l y fr need mc ms D cB as n m rv n2 post) (hG : Cond.methodLink own idx y ∈ lw_tbl) (hsel : (Cond.selects RJ4 y y).before args s = true)
    (hR : fr + 1 ≤ R.frames ∧ need ≤ R.locals) (hf : cells + mc ≤ R.cells ∧ slots + ms ≤ R.slots) (hl : lv_has ls nL lv) (hcat : (rest.map fun v => v.category).sum ≤ 8) (hst : st = as.reverse ++ .ref b :: rest) (d : decode cc pc = .ok (.invokevirtual idx, 3))
    (k : ∀ v2 m2 H1 locs1, post v v2 m2 → (v2 = v ∨ H.size ≤ v2) → AtB D cB b v2 n2 m2 s H1 → va_S A s.heap H1 locs1 → (∀ q : Nat, q < H.size → ¬ (q = b ∨ q = v) → H1[q]? = H[q]?) → H.size ≤ H1.size → W p l e R s m0 args below meth c H1 locs1 (cells + mc) (slots + ms) Q (F0 m0 (pc + 3) ls ((rv b v2).toList ++ rest))) : W p l e R s m0 args below meth c H locs cells slots Q (F0 m0 pc ls st) := by
  obtain ⟨bytes, maxL, lo, ret, hz, hn, hd, hM⟩ := hM
  have hM := hM b v H.size
  have cw : CallW R s args own RJ4 idx y bytes maxL ret (Cond.code y bytes maxL ret :: T0) { frames := fr, cells := mc, slots := ms, locals := lo } mc ms as.length :=
    ⟨callB_of as.length C.2.2.2.2 (zgB hz.2.2) rfl rfl rfl (C.2.2.2.2 _ (T0_of hz.2.1 rfl)) (C.2.2.2.2 _ (T0_of hG rfl)) hd ⟨hR.1, by rw [hn] at hR; exact hR.2⟩, C.2.2.2.2 _ (T0_of hz.1 rfl), hsel⟩
  obtain ⟨b1, b2, ml, b3⟩ := B
  have hr := va_runV (p := p) (l := l) (e := e) (below := below) (meth := meth) (c := c) (H := H) (locs := locs) (cells := cells) (slots := slots) (g := F0 m0 pc ls st) (rest := rest) C hM cw ⟨fun A U g mk q => ⟨q.1, q.2.1, q.2.2.1.moved (U := U.calling g mk A) (Vm.Alike.refl U.vm), q.2.2.2.warm (State.WarmedH.refl U)⟩, va_recv b1.K b3 (ci := 1) (q0 := 0) rfl rfl, fun U hU hW => ⟨rfl, by rw [hU], by rw [hU]; exact (show AtB D cB b v n m s H from ⟨b1, b2, ml, b3⟩).moved hW.alike, V.at hS hW hU (fun q hq => Or.inl (hA q (hq.elim Or.inl (fun z => Or.inr (Or.inl z)))))⟩⟩ rfl rfl hl.1 hst (lv_room hcat) d hf
  exact zb_after (y := y) (n2 := n2) (post := post) hS hA hr k
/-- by invokespecial: the superclass's -/
theorem zb_callS (C : CallFix p m0 c cc nL s args T0 own) (B : AtB D cB b v n m s H) (V : zV A s s.heap) (hS : va_S A s.heap H locs) (hA : ∀ q, zF b v H.size q → A q) {y : MethodName} {fr need mc ms idx : Nat} {as : List Value} {rv : Nat → Nat → Option Value} {n2 : Nat} {post : Nat → Nat → Nat → Prop} (hM : zBM l y fr need mc ms D cB as n m rv n2 post) (hG : Cond.methodLink own idx y ∈ lw_tbl) (hsm : Cond.sameMethod y.cls y.cls y.name y.desc ∈ lw_tbl) (hsup : Cond.superclass own y.cls ∈ lw_tbl) (hno : y.name ≠ "<init>")
    (hR : fr + 1 ≤ R.frames ∧ need ≤ R.locals) (hf : cells + mc ≤ R.cells ∧ slots + ms ≤ R.slots) (hl : lv_has ls nL lv) (hcat : (rest.map fun v => v.category).sum ≤ 8) (hst : st = as.reverse ++ .ref b :: rest) (d : decode cc pc = .ok (.invokespecial idx, 3))
    (k : ∀ v2 m2 H1 locs1, post v v2 m2 → (v2 = v ∨ H.size ≤ v2) → AtB D cB b v2 n2 m2 s H1 → va_S A s.heap H1 locs1 → (∀ q : Nat, q < H.size → ¬ (q = b ∨ q = v) → H1[q]? = H[q]?) → H.size ≤ H1.size → W p l e R s m0 args below meth c H1 locs1 (cells + mc) (slots + ms) Q (F0 m0 (pc + 3) ls ((rv b v2).toList ++ rest))) : W p l e R s m0 args below meth c H locs cells slots Q (F0 m0 pc ls st) := by
  obtain ⟨bytes, maxL, lo, ret, hz, hn, hd, hM⟩ := hM
  have hM := hM b v H.size
  have hG9 : GoodIn T0 (va_wsSU own idx y (Cond.code y bytes maxL ret :: T0)) := by
    intro w hw
    have hm : w ∈ T0 := by
      rcases List.mem_append.mp hw with hw | hw
      · simp only [List.mem_cons, List.not_mem_nil, or_false] at hw
        rcases hw with rfl | rfl | rfl | rfl | rfl
        · exact T0_of hG rfl
        · exact T0_of hsm rfl
        · exact T0_of hsup rfl
        · exact T0_of hz.1 rfl
        · exact T0_of hz.2.1 rfl
      · exact (zgB hz.2.2 w hw).1
    exact ⟨hm, T0_good hm⟩
  have cw := va_cwSU (R := R) (s := s) (args := args) (own := own) (index := idx) (y := y) (bytes := bytes) (maxL := maxL) (ret := ret) (ws := Cond.code y bytes maxL ret :: T0) (ws' := T0) (rm := { frames := fr, cells := mc, slots := ms, locals := lo }) (mc := mc) (ms := ms) as.length C.2.2.2.2 hG9 rfl rfl rfl ⟨hno, hd.2.2⟩ ⟨hR.1, by rw [hn] at hR; exact hR.2⟩
  obtain ⟨b1, b2, ml, b3⟩ := B
  have hr := va_runSU (p := p) (l := l) (e := e) (below := below) (meth := meth) (c := c) (H := H) (locs := locs) (cells := cells) (slots := slots) (g := F0 m0 pc ls st) (rest := rest) (b1.K.1 1 _ rfl).2 C hM cw ⟨fun A U g mk q => ⟨q.1, q.2.1, q.2.2.1.moved (U := U.calling g mk A) (Vm.Alike.refl U.vm), q.2.2.2.warm (State.WarmedH.refl U)⟩, va_recv b1.K b3 (ci := 1) (q0 := 0) rfl rfl, fun U hU hW => ⟨rfl, by rw [hU], by rw [hU]; exact (show AtB D cB b v n m s H from ⟨b1, b2, ml, b3⟩).moved hW.alike, V.at hS hW hU (fun q hq => Or.inl (hA q (hq.elim Or.inl (fun z => Or.inr (Or.inl z)))))⟩⟩ rfl rfl hl.1 hst (lv_room hcat) d hf
  exact zb_after (y := y) (n2 := n2) (post := post) hS hA hr k
/-- by invokevirtual of what another method overrides -/
theorem zb_callO (C : CallFix p m0 c cc nL s args T0 own) (B : AtB D cB b v n m s H) (V : zV A s s.heap) (hS : va_S A s.heap H locs) (hA : ∀ q, zF b v H.size q → A q) {x y : MethodName} {fr need mc ms idx : Nat} {as : List Value} {rv : Nat → Nat → Option Value} {n2 : Nat} {post : Nat → Nat → Nat → Prop} (hM : zBM l y fr need mc ms D cB as n m rv n2 post) (hG : Cond.methodLink own idx x ∈ lw_tbl) (hsm : Cond.sameMethod x.cls x.cls x.name x.desc ∈ lw_tbl) (him : Cond.instanceMethod x ∈ lw_tbl) {b0 : ByteArray} {l0 : Nat} {r0 : Option FieldType} (hc0 : Cond.code x b0 l0 r0 ∈ lw_tbl) (hsel : Cond.selects RJ4 x y ∈ lw_tbl)
    (hdx : x.cls ≠ "java/lang/invoke/MethodHandle" ∧ x.cls ≠ "java/lang/invoke/VarHandle" ∧ (parseMethodDescriptor x.desc).map (fun d => d.parameters.length) = some as.length)
    (hR : fr + 1 ≤ R.frames ∧ need ≤ R.locals) (hf : cells + mc ≤ R.cells ∧ slots + ms ≤ R.slots) (hl : lv_has ls nL lv) (hcat : (rest.map fun v => v.category).sum ≤ 8) (hst : st = as.reverse ++ .ref b :: rest) (d : decode cc pc = .ok (.invokevirtual idx, 3))
    (k : ∀ v2 m2 H1 locs1, post v v2 m2 → (v2 = v ∨ H.size ≤ v2) → AtB D cB b v2 n2 m2 s H1 → va_S A s.heap H1 locs1 → (∀ q : Nat, q < H.size → ¬ (q = b ∨ q = v) → H1[q]? = H[q]?) → H.size ≤ H1.size → W p l e R s m0 args below meth c H1 locs1 (cells + mc) (slots + ms) Q (F0 m0 (pc + 3) ls ((rv b v2).toList ++ rest))) : W p l e R s m0 args below meth c H locs cells slots Q (F0 m0 pc ls st) := by
  obtain ⟨bytes, maxL, lo, ret, hz, hn, hd, hM⟩ := hM
  have hM := hM b v H.size
  have hG9 : GoodIn T0 (va_wsO own idx RJ4 x.cls x y (Cond.code y bytes maxL ret :: T0)) := by
    intro w hw
    have hm : w ∈ T0 := by
      rcases List.mem_append.mp hw with hw | hw
      · simp only [List.mem_cons, List.not_mem_nil, or_false] at hw
        rcases hw with rfl | rfl | rfl | rfl | rfl | rfl
        · exact T0_of hG rfl
        · exact T0_of hsm rfl
        · exact T0_of him rfl
        · exact T0_of hsel rfl
        · exact T0_of hz.1 rfl
        · exact T0_of hz.2.1 rfl
      · exact (zgB hz.2.2 w hw).1
    exact ⟨hm, T0_good hm⟩
  have cw := va_cwO (R := R) (s := s) (args := args) (own := own) (C := RJ4) (owner := x.cls) (index := idx) (x := x) (y := y) (bytes := bytes) (maxL := maxL) (ret := ret) (ws := Cond.code y bytes maxL ret :: T0) (ws' := T0) (rm := { frames := fr, cells := mc, slots := ms, locals := lo }) (mc := mc) (ms := ms) as.length C.2.2.2.2 hG9 rfl rfl rfl (b0 := b0) (m0 := l0) (r0 := r0) (T0_of hc0 rfl) hdx ⟨hR.1, by rw [hn] at hR; exact hR.2⟩
  obtain ⟨b1, b2, ml, b3⟩ := B
  have hr := va_runU (p := p) (l := l) (e := e) (below := below) (meth := meth) (c := c) (H := H) (locs := locs) (cells := cells) (slots := slots) (g := F0 m0 pc ls st) (rest := rest) C hM cw ⟨fun A U g mk q => ⟨q.1, q.2.1, q.2.2.1.moved (U := U.calling g mk A) (Vm.Alike.refl U.vm), q.2.2.2.warm (State.WarmedH.refl U)⟩, va_recv b1.K b3 (ci := 1) (q0 := 0) rfl rfl, fun U hU hW => ⟨rfl, by rw [hU], by rw [hU]; exact (show AtB D cB b v n m s H from ⟨b1, b2, ml, b3⟩).moved hW.alike, V.at hS hW hU (fun q hq => Or.inl (hA q (hq.elim Or.inl (fun z => Or.inr (Or.inl z)))))⟩⟩ rfl rfl hl.1 hst (lv_room hcat) d hf
  exact zb_after (y := y) (n2 := n2) (post := post) hS hA hr k
end BC
section BD0
def mxi (b c : Int) : Int := if b < c then c else b
theorem mxi_rng (b c : Int) : b ≤ mxi b c ∧ c ≤ mxi b c ∧ (mxi b c = b ∨ mxi b c = c) := by
  unfold mxi
  split
  · exact ⟨by omega, by omega, Or.inr rfl⟩
  · exact ⟨by omega, by omega, Or.inl rfl⟩
def mni (b c : Int) : Int := if c < b then c else b
theorem mni_rng (b c : Int) : mni b c ≤ b ∧ mni b c ≤ c ∧ (mni b c = b ∨ mni b c = c) := by
  unfold mni
  split
  · exact ⟨by omega, by omega, Or.inr rfl⟩
  · exact ⟨by omega, by omega, Or.inl rfl⟩
end BD0
section BD
variable {p : Program} {l : Launch} {e : Env} {R : Room} {s : State} {m : MethodId} {args : Array Value} {below : List Frame} {meth : Method} {c : Code} {H : Heap} {locs : List Loc} {cells slots : Nat} {Q : State → Prop}
variable {cc : ByteArray} {pc nL : Nat} {ls : Array Slot} {rest st : List Value} {own : String} {lv : List (Nat × Value)} {D : va_G} {cB : ClassId} {A : Nat → Prop} {b v v0 n k sz : Nat}
theorem z_ishr0 (C : CallFix p m c cc nL s args T0 own) {x : Int32} (d : decode cc pc = .ok (.ishr, 1)) (kk : W p l e R s m args below meth c H locs cells slots Q (F0 m (pc + 1) ls (.int x :: rest))) : W p l e R s m args below meth c H locs cells slots Q (F0 m pc ls (.int (iZ 0) :: .int x :: rest)) :=
  lv_ishr C.1 C.2.1 d (by rw [show iZ 0 = (0 : Int32) from rfl, sb_shr0]; exact kk)
theorem z_ishl0 (C : CallFix p m c cc nL s args T0 own) {x : Int32} (d : decode cc pc = .ok (.ishl, 1)) (kk : W p l e R s m args below meth c H locs cells slots Q (F0 m (pc + 1) ls (.int x :: rest))) : W p l e R s m args below meth c H locs cells slots Q (F0 m pc ls (.int (iZ 0) :: .int x :: rest)) :=
  lv_ishl C.1 C.2.1 d (by rw [show iZ 0 = (0 : Int32) from rfl, sb_shl0]; exact kk)
theorem z_ldc (C : CallFix p m c cc nL s args T0 own) {idx : Nat} {w : Int32} (n : Int) (hm : Cond.constant own idx w ∈ lw_tbl) (hn : w = iZ n) (d : decode cc pc = .ok (.ldc idx, 2)) (kk : W p l e R s m args below meth c H locs cells slots Q (F0 m (pc + 2) ls (.int (iZ n) :: rest))) : W p l e R s m args below meth c H locs cells slots Q (F0 m pc ls rest) :=
  lv_ldc C.1 C.2.1 C.2.2.2.1 (C.2.2.2.2 _ (T0_of hm rfl)) d (by rw [hn]; exact kk)
theorem z_mxI (C : CallFix p m c cc nL s args T0 own) {x y : Int} {idx : Nat} (hx : -2147483648 ≤ x ∧ x ≤ 2147483647) (hy : -2147483648 ≤ y ∧ y ≤ 2147483647) (hG : Cond.methodLink own idx Lib.Math.max.name ∈ lw_tbl) (hl : lv_has ls nL lv) (hR : 1 ≤ R.frames ∧ 31 ≤ R.locals) (hf : cells ≤ R.cells ∧ slots ≤ R.slots) (hcat : (rest.map fun v => v.category).sum ≤ 16) (d : decode cc pc = .ok (.invokestatic idx, 3))
    (kk : W p l e R s m args below meth c H locs cells slots Q (F0 m (pc + 3) ls (.int (iZ (mxi x y)) :: rest))) : W p l e R s m args below meth c H locs cells slots Q (F0 m pc ls (.int (iZ y) :: .int (iZ x) :: rest)) := by
  refine va_mmax C.1 C.2.1 (C.2.2.1.trans hl.1.symm) C.2.2.2.1 (C.2.2.2.2 _ (T0_of hG rfl)) (C.2.2.2.2 _ (T0_of sc_J9_max_I rfl)) (C.2.2.2.2 _ (T0_of ini_J9 rfl)) (C.2.2.2.2 _ (T0_of cd_mxI rfl)) hR.1 (by omega) hf.1 hf.2 d ?_
  have e1 : (if iZ x < iZ y then iZ y else iZ x) = iZ (mxi x y) := by
    unfold mxi
    by_cases h : x < y
    · rw [if_pos h, if_pos ((iZ_lt hx hy).mpr h)]
    · rw [if_neg h, if_neg (fun g => h ((iZ_lt hx hy).mp g))]
  rw [e1]
  exact kk
theorem z_mnI (C : CallFix p m c cc nL s args T0 own) {x y : Int} {idx : Nat} (hx : -2147483648 ≤ x ∧ x ≤ 2147483647) (hy : -2147483648 ≤ y ∧ y ≤ 2147483647) (hG : Cond.methodLink own idx Lib.Math.min.name ∈ lw_tbl) (hl : lv_has ls nL lv) (hR : 1 ≤ R.frames ∧ 31 ≤ R.locals) (hf : cells ≤ R.cells ∧ slots ≤ R.slots) (hcat : (rest.map fun v => v.category).sum ≤ 16) (d : decode cc pc = .ok (.invokestatic idx, 3))
    (kk : W p l e R s m args below meth c H locs cells slots Q (F0 m (pc + 3) ls (.int (iZ (mni x y)) :: rest))) : W p l e R s m args below meth c H locs cells slots Q (F0 m pc ls (.int (iZ y) :: .int (iZ x) :: rest)) := by
  refine va_mmin C.1 C.2.1 (C.2.2.1.trans hl.1.symm) C.2.2.2.1 (C.2.2.2.2 _ (T0_of hG rfl)) (C.2.2.2.2 _ (T0_of sc_J9_min_I rfl)) (C.2.2.2.2 _ (T0_of ini_J9 rfl)) (C.2.2.2.2 _ (T0_of cd_mnI rfl)) hR.1 (by omega) hf.1 hf.2 d ?_
  have e1 : (if iZ y < iZ x then iZ y else iZ x) = iZ (mni x y) := by
    unfold mni
    by_cases h : y < x
    · rw [if_pos h, if_pos ((iZ_lt hy hx).mpr h)]
    · rw [if_neg h, if_neg (fun g => h ((iZ_lt hy hx).mp g))]
  rw [e1]
  exact kk
/-- a division of what isn't positive -/
theorem z_idivN (C : CallFix p m c cc nL s args T0 own) {z : Int} (w : Nat) (hz : z = -(w : Int)) (hw : w < 2147483648) (d : decode cc pc = .ok (.idiv, 1)) (kk : W p l e R s m args below meth c H locs cells slots Q (F0 m (pc + 1) ls (.int (iZ (-((w / 100 : Nat) : Int))) :: rest))) : W p l e R s m args below meth c H locs cells slots Q (F0 m pc ls (.int (iZ 100) :: .int (iZ z) :: rest)) := by
  subst hz
  refine lv_idiv C.1 C.2.1 d (by decide) ?_
  have e1 : iZ (-(w : Int)) / iZ 100 = iZ (-((w / 100 : Nat) : Int)) := by
    have h := sb_ndiv (w := w) (by omega)
    rw [← iZ_neg, ← iZ_neg, iZ_nI, iZ_nI]
    exact h
  rw [e1]
  exact kk
theorem z_ishr1 (C : CallFix p m c cc nL s args T0 own) {z : Int} (hz : -2147483648 ≤ z ∧ z ≤ 2147483647) (d : decode cc pc = .ok (.ishr, 1)) (kk : W p l e R s m args below meth c H locs cells slots Q (F0 m (pc + 1) ls (.int (iZ (z / 2)) :: rest))) : W p l e R s m args below meth c H locs cells slots Q (F0 m pc ls (.int (iZ 1) :: .int (iZ z) :: rest)) := by
  refine lv_ishr C.1 C.2.1 d ?_
  have e1 : iZ z >>> (iZ 1 &&& 31) = iZ (z / 2) := by
    apply Int32.toInt_inj.mp
    rw [pk_shr (iZ z) (iZ 1 &&& 31) 1 (by decide +kernel), iZ_toInt hz, iZ_toInt (by omega), Int.shiftRight_eq_div_pow]
    rfl
  rw [e1]
  exact kk
theorem z_i2c (C : CallFix p m c cc nL s args T0 own) {z : Int} (hz : 0 ≤ z ∧ z ≤ 65535) (d : decode cc pc = .ok (.i2c, 1)) (kk : W p l e R s m args below meth c H locs cells slots Q (F0 m (pc + 1) ls (.int (iZ z) :: rest))) : W p l e R s m args below meth c H locs cells slots Q (F0 m pc ls (.int (iZ z) :: rest)) :=
  lv_i2c C.1 C.2.1 d (by
    obtain ⟨n, rfl⟩ := Int.eq_ofNat_of_zero_le hz.1
    rw [iZ_nI, pk_char, pk_tn (by omega), Nat.mod_eq_of_lt (by omega)]) kk
theorem zn_char {z : Int} (hz : 0 ≤ z ∧ z ≤ 65535) : narrow .char (.int (iZ z)) = .int (iZ z) := by
  obtain ⟨n, rfl⟩ := Int.eq_ofNat_of_zero_le hz.1
  rw [iZ_nI]
  exact (pk_charN (by omega)).1
theorem zv_cs (C : CallFix p m c cc nL s args T0 own) (V : zV A s s.heap) (hS : va_S A s.heap H locs) {idx : Nat} (hlink : Cond.fieldLink own idx RJ0 "COMPACT_STRINGS" "Z" ∈ lw_tbl) (d : decode cc pc = .ok (.getstatic idx, 3))
    (kk : W p l e R s m args below meth c H locs cells slots Q (F0 m (pc + 3) ls (.int (iZ 1) :: rest))) : W p l e R s m args below meth c H locs cells slots Q (F0 m pc ls rest) :=
  va_gets C.1 C.2.1 V.1 hS C.2.2.2.1 (C.2.2.2.2 _ (T0_of hlink rfl)) (fun x h => h) d kk
theorem zv_gets (C : CallFix p m c cc nL s args T0 own) {Cn fn fd : String} {v : Value} (hZ : va_Z Cn fn fd v A s s.heap) (hS : va_S A s.heap H locs) {idx : Nat} (hlink : Cond.fieldLink own idx Cn fn fd ∈ lw_tbl) (d : decode cc pc = .ok (.getstatic idx, 3))
    (kk : W p l e R s m args below meth c H locs cells slots Q (F0 m (pc + 3) ls (v :: rest))) : W p l e R s m args below meth c H locs cells slots Q (F0 m pc ls rest) :=
  va_gets C.1 C.2.1 hZ hS C.2.2.2.1 (C.2.2.2.2 _ (T0_of hlink rfl)) (fun x h => h) d kk
theorem zv_tb (C : CallFix p m c cc nL s args T0 own) {t N : Nat} {g : Nat → Int32} (hT : va_T .byte t N (fun j => .int (g j)) A s s.heap) (hS : va_S A s.heap H locs) {z : Int} (j : Nat) (hz : z = (j : Int)) (hj : j < N) (hN : N < 2147483648) (d : decode cc pc = .ok (.baload, 1))
    (kk : ∀ x : Int32, W p l e R s m args below meth c H locs cells slots Q (F0 m (pc + 1) ls (.int x :: rest))) : W p l e R s m args below meth c H locs cells slots Q (F0 m pc ls (.int (iZ z) :: .ref t :: rest)) :=
  va_tb C.1 C.2.1 hT hS (iZ_in (n := N) (by omega) hN) rfl d (kk _)
theorem zJn.Av {D : va_G} {cB : ClassId} {b v0 v n k : Nat} {s : State} {H : Heap} {locs : List Loc} (B : zJn D cB b v0 v n k s H locs) : zF b v0 s.heap.size v := B.2.2.elim (fun h => Or.inr (Or.inl h)) (fun h => Or.inr (Or.inr h))
theorem zJn.sub {D : va_G} {cB : ClassId} {b v0 v n k : Nat} {s : State} {H : Heap} {locs : List Loc} (B : zJn D cB b v0 v n k s H locs) : ∀ q, zF b v H.size q → zF b v0 s.heap.size q := by
  intro q h
  rcases h with h | h | h
  · exact Or.inl h
  · rw [h]; exact B.Av
  · exact Or.inr (Or.inr (Nat.le_trans B.2.1.1 h))
theorem zJn.nxt {D : va_G} {cB : ClassId} {b v0 v n k v2 n2 k2 : Nat} {s : State} {H H1 : Heap} {locs locs1 : List Loc} (B : zJn D cB b v0 v n k s H locs) (h1 : v2 = v ∨ H.size ≤ v2) (h2 : AtB D cB b v2 n2 k2 s H1) (h3 : va_S (zF b v0 s.heap.size) s.heap H1 locs1) : zJn D cB b v0 v2 n2 k2 s H1 locs1 :=
  ⟨h2, h3, h1.elim (fun h => by rw [h]; exact B.2.2) (fun h => Or.inr (Nat.le_trans B.2.1.1 h))⟩
theorem zj_callV (C : CallFix p m c cc nL s args T0 own) (B : zJn D cB b v0 v n k s H locs) (V : zV (zF b v0 s.heap.size) s s.heap) {y : MethodName} {fr need mc ms idx : Nat} {as : List Value} {rv : Nat → Nat → Option Value} {n2 : Nat} {post : Nat → Nat → Nat → Prop} (hM : zBM l y fr need mc ms D cB as n k rv n2 post) (hG : Cond.methodLink own idx y ∈ lw_tbl) (hsel : (Cond.selects RJ4 y y).before args s = true)
    (hR : fr + 1 ≤ R.frames ∧ need ≤ R.locals) (hf : cells + mc ≤ R.cells ∧ slots + ms ≤ R.slots) (hl : lv_has ls nL lv) (hcat : (rest.map fun v => v.category).sum ≤ 8) (hst : st = as.reverse ++ .ref b :: rest) (d : decode cc pc = .ok (.invokevirtual idx, 3))
    (kk : ∀ v2 k2 H1 locs1, post v v2 k2 → zJn D cB b v0 v2 n2 k2 s H1 locs1 → W p l e R s m args below meth c H1 locs1 (cells + mc) (slots + ms) Q (F0 m (pc + 3) ls ((rv b v2).toList ++ rest))) : W p l e R s m args below meth c H locs cells slots Q (F0 m pc ls st) :=
  zb_callV C B.1 V B.2.1 B.sub hM hG hsel hR hf hl hcat hst d (fun v2 m2 H1 locs1 hp hv hB hS _ _ => kk v2 m2 H1 locs1 hp (B.nxt hv hB hS))
theorem zj_callS (C : CallFix p m c cc nL s args T0 own) (B : zJn D cB b v0 v n k s H locs) (V : zV (zF b v0 s.heap.size) s s.heap) {y : MethodName} {fr need mc ms idx : Nat} {as : List Value} {rv : Nat → Nat → Option Value} {n2 : Nat} {post : Nat → Nat → Nat → Prop} (hM : zBM l y fr need mc ms D cB as n k rv n2 post) (hG : Cond.methodLink own idx y ∈ lw_tbl) (hsm : Cond.sameMethod y.cls y.cls y.name y.desc ∈ lw_tbl) (hsup : Cond.superclass own y.cls ∈ lw_tbl) (hno : y.name ≠ "<init>")
    (hR : fr + 1 ≤ R.frames ∧ need ≤ R.locals) (hf : cells + mc ≤ R.cells ∧ slots + ms ≤ R.slots) (hl : lv_has ls nL lv) (hcat : (rest.map fun v => v.category).sum ≤ 8) (hst : st = as.reverse ++ .ref b :: rest) (d : decode cc pc = .ok (.invokespecial idx, 3))
    (kk : ∀ v2 k2 H1 locs1, post v v2 k2 → zJn D cB b v0 v2 n2 k2 s H1 locs1 → W p l e R s m args below meth c H1 locs1 (cells + mc) (slots + ms) Q (F0 m (pc + 3) ls ((rv b v2).toList ++ rest))) : W p l e R s m args below meth c H locs cells slots Q (F0 m pc ls st) :=
  zb_callS C B.1 V B.2.1 B.sub hM hG hsm hsup hno hR hf hl hcat hst d (fun v2 m2 H1 locs1 hp hv hB hS _ _ => kk v2 m2 H1 locs1 hp (B.nxt hv hB hS))
-- ends
theorem zj_iret {as : List Value} {mc ms : Nat} {rv : Nat → Nat → Option Value} {n2 : Nat} {post : Nat → Nat → Nat → Prop} {r : Int32} (C : CallFix p m c cc nL s as.toArray T0 own) (B : zJn D cB b v0 v n k s H locs) (hr : meth.sig.returnType = some .int) (hk : meth.locks = false) (h1 : cells ≤ mc) (h2 : slots ≤ ms) (d : decode cc pc = .ok (.ireturn, 1)) (hv : some (.int r) = rv b v) (hn : n = n2) (hp : post v0 v k) : W p l e R s m as.toArray below meth c H locs cells slots (zB1 below D cB b v0 as.toArray s mc ms rv n2 post) (F0 m pc ls [.int r]) := by
  subst hn
  refine W.widen (k := mc) (n := ms) h1 h2 ?_
  exact W.iret C.1 C.2.1 hr (fun t ht hW => ⟨v, k, by rw [← hv], by rw [ht]; exact B.1.moved hW.alike, hp, B.2.2, B.2.1.F ht⟩) B.2.1.2.2 d hk
theorem zj_zret {as : List Value} {mc ms : Nat} {rv : Nat → Nat → Option Value} {n2 : Nat} {post : Nat → Nat → Nat → Prop} {r : Int32} {ty : FieldType} (C : CallFix p m c cc nL s as.toArray T0 own) (B : zJn D cB b v0 v n k s H locs) (hr : meth.sig.returnType = some ty) (hk : meth.locks = false) (h1 : cells ≤ mc) (h2 : slots ≤ ms) (d : decode cc pc = .ok (.ireturn, 1)) (hnw : narrow ty (.int r) = .int r) (hv : some (.int r) = rv b v) (hn : n = n2) (hp : post v0 v k) : W p l e R s m as.toArray below meth c H locs cells slots (zB1 below D cB b v0 as.toArray s mc ms rv n2 post) (F0 m pc ls [.int r]) := by
  subst hn
  refine W.widen (k := mc) (n := ms) h1 h2 ?_
  exact W.zret C.1 C.2.1 hr hnw (fun t ht hW => ⟨v, k, by rw [← hv], by rw [ht]; exact B.1.moved hW.alike, hp, B.2.2, B.2.1.F ht⟩) B.2.1.2.2 d hk
theorem zj_aret {as : List Value} {mc ms : Nat} {rv : Nat → Nat → Option Value} {n2 : Nat} {post : Nat → Nat → Nat → Prop} {r : Nat} {rt : FieldType} (C : CallFix p m c cc nL s as.toArray T0 own) (B : zJn D cB b v0 v n k s H locs) (hr : meth.sig.returnType = some rt) (hrt : (∃ n, rt = .object n) ∨ ∃ t, rt = .array t) (hk : meth.locks = false) (h1 : cells ≤ mc) (h2 : slots ≤ ms) (d : decode cc pc = .ok (.areturn, 1)) (hv : some (.ref r) = rv b v) (hn : n = n2) (hp : post v0 v k) : W p l e R s m as.toArray below meth c H locs cells slots (zB1 below D cB b v0 as.toArray s mc ms rv n2 post) (F0 m pc ls [.ref r]) := by
  subst hn
  refine W.widen (k := mc) (n := ms) h1 h2 ?_
  exact W.aret C.1 C.2.1 hr hrt (Or.inr ⟨r, rfl⟩) (fun t ht hW => ⟨v, k, by rw [← hv], by rw [ht]; exact B.1.moved hW.alike, hp, B.2.2, B.2.1.F ht⟩) B.2.1.2.2 d hk
theorem zj_vret {as : List Value} {mc ms : Nat} {rv : Nat → Nat → Option Value} {n2 : Nat} {post : Nat → Nat → Nat → Prop} (C : CallFix p m c cc nL s as.toArray T0 own) (B : zJn D cB b v0 v n k s H locs) (hr : meth.sig.returnType = none) (hk : meth.locks = false) (h1 : cells ≤ mc) (h2 : slots ≤ ms) (d : decode cc pc = .ok (.return_, 1)) (hv : none = rv b v) (hn : n = n2) (hp : post v0 v k) : W p l e R s m as.toArray below meth c H locs cells slots (zB1 below D cB b v0 as.toArray s mc ms rv n2 post) (F0 m pc ls []) := by
  subst hn
  refine W.widen (k := mc) (n := ms) h1 h2 ?_
  exact W.vret C.1 C.2.1 hr (fun t ht hW => ⟨v, k, by rw [← hv], by rw [ht]; exact B.1.moved hW.alike, hp, B.2.2, B.2.1.F ht⟩) B.2.1.2.2 d hk
end BD
section BE
/-- a static method that makes a new array of q bytes out of one of k bytes -/
def zRM (l : Launch) (y : MethodName) (fr need mc ms : Nat) (D : va_G) (cB : ClassId) (as : Nat → List Value) (nA k q : Nat) : Prop :=
  ∃ (bytes : ByteArray) (maxL lo : Nat) (ret : Option FieldType), zS y bytes maxL ret ∧ need = 8 + (maxL + 11) + lo ∧
    (y.cls ≠ "java/lang/invoke/MethodHandle" ∧ y.cls ≠ "java/lang/invoke/VarHandle" ∧ (parseMethodDescriptor y.desc).map (fun d => d.parameters.length) = some nA ∧ ∀ v, (as v).length = nA) ∧
    ∀ v sz : Nat, Met l y (Cond.code y bytes maxL ret :: T0) { frames := fr, cells := mc, slots := ms, locals := lo } (fun a U => a = (as v).toArray ∧ U.heap.size = sz ∧ AtR D cB v k U U.heap ∧ zVt U)
      (fun _ st oc t => ∃ w, oc = .returned (some (.ref w)) ∧ sz ≤ w ∧ AtR D cB w q t t.heap ∧ va_F (fun z => sz ≤ z) st t) mc ms (fun z => sz ≤ z)
theorem zRM.intro {l : Launch} {y : MethodName} {fr need lo nA mc ms : Nat} {D : va_G} {cB : ClassId} {as : Nat → List Value} {k q : Nat} {cc : ByteArray} {maxL : Nat} {ret : Option FieldType} {own : String}
    (hz : zS y cc maxL ret) (hy : plainName y.cls = true) (ho : own = y.cls) (hn : need = 8 + (maxL + 11) + lo)
    (hd : y.cls ≠ "java/lang/invoke/MethodHandle" ∧ y.cls ≠ "java/lang/invoke/VarHandle" ∧ (parseMethodDescriptor y.desc).map (fun d => d.parameters.length) = some nA) (hA : ∀ v, (as v).length = nA) (hle : ∀ v, (lg_sl (as v)).length ≤ maxL)
    (body : ∀ (v : Nat) (p : Program) (e : Env) (s : State) (m : MethodId) (below : List Frame) (meth : Method) (c : Code) (ls : Array Slot), CallFix p m c cc maxL s (as v).toArray T0 own → meth.sig.returnType = ret → meth.locks = false → AtR D cB v k s s.heap → zVt s → lv_has ls maxL (lv_args 0 (as v)) →
      W p l e { frames := fr, cells := mc, slots := ms, locals := lo } s m (as v).toArray below meth c s.heap [] 0 0 (MQ below (fun _ st oc t => ∃ w, oc = .returned (some (.ref w)) ∧ s.heap.size ≤ w ∧ AtR D cB w q t t.heap ∧ va_F (fun z => s.heap.size ≤ z) st t) (as v).toArray s mc ms (fun z => s.heap.size ≤ z)) (F0 m 0 ls [])) : zRM l y fr need mc ms D cB as nA k q := by
  refine ⟨cc, maxL, lo, ret, hz, hn, ⟨hd.1, hd.2.1, hd.2.2, hA⟩, fun v sz => ?_⟩
  refine Met.ofW (ws' := T0) hy rfl ?_
  intro p e s m args below meth c s₁ B hml hv
  obtain ⟨hv, hsz, hAt, hV⟩ := hv
  subst hv
  subst hsz
  have hts := atoms_spec (ws := Cond.code y cc maxL ret :: T0) B.pre
  have hown : s.vm.findClass own = some m.cls := by rw [ho]; exact findClass_of_methodNamed B.named
  rw [lg_entry_eq]
  exact body v p e s m below meth c _ ⟨B.exec, B.bytes, hml, hown, fun w h => hts w (List.mem_cons_of_mem _ h)⟩ B.returns B.notSynchronized hAt hV (lv_entry (as v) (hle v))
/-- the writing of a number's signs into an array -/
def zGC (l : Launch) (fr need : Nat) (D : va_G) (cB : ClassId) (z q : Int) (k : Nat) : Prop :=
  ∃ lo : Nat, need = 8 + (7 + 11) + lo ∧ ∀ v sz : Nat, Met l yJ6_getChars_ba4f3 (Cond.code yJ6_getChars_ba4f3 cJ6_getChars_ba4f3 7 (some .int) :: T0) { frames := fr, cells := 0, slots := 0, locals := lo } (fun a U => a = ([.int (iZ z), .int (iZ q), .ref v] : List Value).toArray ∧ U.heap.size = sz ∧ AtR D cB v k U U.heap ∧ zV (fun x => x = v) U U.heap)
      (fun _ st oc t => (∃ x : Int32, oc = .returned (some (.int x))) ∧ AtR D cB v k t t.heap ∧ va_F (fun x => x = v) st t) 0 0 (fun x => x = v)
end BE
section BF
variable {p : Program} {l : Launch} {e : Env} {R : Room} {s : State} {m : MethodId} {args : Array Value} {below : List Frame} {meth : Method} {c : Code} {H : Heap} {locs : List Loc} {cells slots : Nat} {Q : State → Prop}
variable {cc : ByteArray} {pc nL : Nat} {ls : Array Slot} {rest st : List Value} {own : String} {lv : List (Nat × Value)} {D : va_G} {cB : ClassId} {A : Nat → Prop} {b v v0 n k sz : Nat}
theorem zr_callN (C : CallFix p m c cc nL s args T0 own) (hB : AtR D cB v k s H) (V : zVt s) (hS : va_S A s.heap H locs) (hA : ∀ q, H.size ≤ q → A q) {y : MethodName} {fr need mc ms idx nA q : Nat} {as : Nat → List Value} (hM : zRM l y fr need mc ms D cB as nA k q) (hG : Cond.methodLink own idx y ∈ lw_tbl)
    (hR : fr + 1 ≤ R.frames ∧ need ≤ R.locals) (hf : cells + mc ≤ R.cells ∧ slots + ms ≤ R.slots) (hl : lv_has ls nL lv) (hcat : (rest.map fun v => v.category).sum ≤ 8) (hst : st = (as v).reverse ++ rest) (d : decode cc pc = .ok (.invokestatic idx, 3))
    (kk : ∀ w H1 locs1, H.size ≤ w → AtR D cB w q s H1 → va_S A s.heap H1 locs1 → (∀ x : Nat, x < H.size → H1[x]? = H[x]?) → H.size ≤ H1.size → W p l e R s m args below meth c H1 locs1 (cells + mc) (slots + ms) Q (F0 m (pc + 3) ls (.ref w :: rest))) : W p l e R s m args below meth c H locs cells slots Q (F0 m pc ls st) := by
  obtain ⟨bytes, maxL, lo, ret, hz, hn, hd, hM⟩ := hM
  have hM := hM v H.size
  have cw := va_cwS (R := R) (own := own) (index := idx) (y := y) (bytes := bytes) (maxL := maxL) (ret := ret) (ws := Cond.code y bytes maxL ret :: T0) (ws' := T0) (rm := { frames := fr, cells := mc, slots := ms, locals := lo }) (mc := mc) (ms := ms) nA C.2.2.2.2 (zg hG hz) rfl rfl rfl ⟨hd.1, hd.2.1, hd.2.2.1⟩ ⟨hR.1, by rw [hn] at hR; exact hR.2⟩
  have hr := va_runS (p := p) (l := l) (e := e) (below := below) (meth := meth) (c := c) (H := H) (locs := locs) (cells := cells) (slots := slots) (g := F0 m pc ls st) (rest := rest) C hM cw ⟨fun A U g mk q => ⟨q.1, q.2.1, q.2.2.1.moved (U := U.calling g mk A) (Vm.Alike.refl U.vm), q.2.2.2.warm (State.WarmedH.refl U)⟩, fun U hU hW => ⟨rfl, by rw [hU], by rw [hU]; exact hB.moved hW.alike, V.warm hW⟩⟩ rfl (hd.2.2.2 v) hl.1 hst (lv_room hcat) d hf
  intro T9 hT X
  obtain ⟨v9, st₀, t, T', L, h0, X', hL, e1, e2, ⟨w, hv, hw, hAt, hF⟩, st2⟩ := hr T9 hT X
  cases hv
  obtain ⟨hz2, hk2⟩ := hF
  rw [h0] at hz2 hk2
  have hss : s.heap.size ≤ H.size := hS.1
  have hke : ∀ x : Nat, x < H.size → T'.heap[x]? = H[x]? := fun x hx => by rw [e1]; exact hk2 x hx (by omega)
  have hS2 : va_S A s.heap T'.heap (locs ++ L) := by
    refine ⟨Nat.le_trans hss (by rw [e1]; exact hz2), fun q h1 h2 => ?_, fun q hq => ?_⟩
    · rw [hke q (Nat.lt_of_lt_of_le h1 hss)]
      exact hS.2.1 q h1 h2
    · rcases List.mem_append.mp hq with h | h
      · exact hS.2.2 q h
      · exact hA _ (hL q h)
  obtain ⟨t2, a1, b1⟩ := kk w T'.heap (locs ++ L) hw (by rw [e1]; exact hAt.moved (by rw [← e2]; exact X'.warmed.alike.symm)) hS2 hke (by rw [e1]; exact hz2) T' rfl X'
  exact ⟨t2, st2 t2 a1, b1⟩
theorem zr_callG (C : CallFix p m c cc nL s args T0 own) (hB : AtR D cB v k s H) (V : zV A s s.heap) (hS : va_S A s.heap H locs) (hA : A v) {fr need idx : Nat} {z q : Int} (hM : zGC l fr need D cB z q k) (hG : Cond.methodLink own idx yJ6_getChars_ba4f3 ∈ lw_tbl)
    (hR : fr + 1 ≤ R.frames ∧ need ≤ R.locals) (hf : cells ≤ R.cells ∧ slots ≤ R.slots) (hl : lv_has ls nL lv) (hcat : (rest.map fun v => v.category).sum ≤ 8) (hst : st = .ref v :: .int (iZ q) :: .int (iZ z) :: rest) (d : decode cc pc = .ok (.invokestatic idx, 3))
    (kk : ∀ (x : Int32) H1 locs1, AtR D cB v k s H1 → va_S A s.heap H1 locs1 → (∀ q : Nat, q ≠ v → q < H.size → H1[q]? = H[q]?) → W p l e R s m args below meth c H1 locs1 cells slots Q (F0 m (pc + 3) ls (.int x :: rest))) : W p l e R s m args below meth c H locs cells slots Q (F0 m pc ls st) := by
  obtain ⟨lo, hn, hM⟩ := hM
  have hM := hM v H.size
  have cw := va_cwS (R := R) (own := own) (index := idx) (y := yJ6_getChars_ba4f3) (bytes := cJ6_getChars_ba4f3) (maxL := 7) (ret := some .int) (ws := Cond.code yJ6_getChars_ba4f3 cJ6_getChars_ba4f3 7 (some .int) :: T0) (ws' := T0) (rm := { frames := fr, cells := 0, slots := 0, locals := lo }) (mc := 0) (ms := 0) 3 C.2.2.2.2 (zg hG zs_J6_getChars_ba4f3) rfl rfl rfl (by decide +kernel) ⟨hR.1, by rw [hn] at hR; exact hR.2⟩
  have hr := va_runS (p := p) (l := l) (e := e) (below := below) (meth := meth) (c := c) (H := H) (locs := locs) (cells := cells) (slots := slots) (g := F0 m pc ls st) (rest := rest) (As := [.int (iZ z), .int (iZ q), .ref v]) C hM cw ⟨fun A U g mk q => ⟨q.1, q.2.1, q.2.2.1.moved (U := U.calling g mk A) (Vm.Alike.refl U.vm), q.2.2.2.warm (State.WarmedH.refl U)⟩, fun U hU hW => ⟨rfl, by rw [hU], by rw [hU]; exact hB.moved hW.alike, V.at hS hW hU (fun x hx => Or.inl (by rw [hx]; exact hA))⟩⟩ rfl rfl hl.1 hst (lv_room hcat) d (by simpa using hf)
  intro T9 hT X
  obtain ⟨v9, st₀, t, T', L, h0, X', hL, e1, e2, ⟨⟨x, hv⟩, hAt, hF⟩, st2⟩ := hr T9 hT X
  cases hv
  obtain ⟨hz2, hk2⟩ := hF
  rw [h0] at hz2 hk2
  have hss : s.heap.size ≤ H.size := hS.1
  have hS2 : va_S A s.heap T'.heap (locs ++ L) := by
    refine ⟨Nat.le_trans hss (by rw [e1]; exact hz2), fun q h1 h2 => ?_, fun q hq => ?_⟩
    · rw [e1, hk2 q (Nat.lt_of_lt_of_le h1 hss) (fun g => h2 (by rw [g]; exact hA))]
      exact hS.2.1 q h1 h2
    · rcases List.mem_append.mp hq with h | h
      · exact hS.2.2 q h
      · rw [hL q h]; exact hA
  obtain ⟨t2, a1, b1⟩ := kk x T'.heap (locs ++ L) (by rw [e1]; exact hAt.moved (by rw [← e2]; exact X'.warmed.alike.symm)) hS2 (fun q h1 h2 => by rw [e1]; exact hk2 q h2 h1) T' rfl X'
  exact ⟨t2, st2 t2 a1, b1⟩
end BF
section BG
/-- how many signs a number below 1000 takes -/
def ssz (z : Int) : Int := if z < 10 then 1 else if z < 100 then 2 else 3
theorem ssz_rng (z : Int) : 1 ≤ ssz z ∧ ssz z ≤ 3 := by
  unfold ssz
  split
  · omega
  · split <;> omega
theorem ssz_eq (z x : Int) (h : (x = 1 ∧ z < 10) ∨ (x = 2 ∧ 10 ≤ z ∧ z < 100) ∨ (x = 3 ∧ 100 ≤ z)) : ssz z = x := by
  unfold ssz
  split
  · omega
  · split <;> omega
theorem ssz_100 {w : Nat} (h : 100 ≤ w) (h2 : w ≤ 999) : ssz (w : Int) = 3 ∧ ssz ((w / 100 : Nat) : Int) = 1 :=
  ⟨ssz_eq _ _ (by omega), ssz_eq _ _ (by omega)⟩
theorem ssz_10 {w : Nat} (h : 10 ≤ w) : 2 ≤ ssz (w : Int) := by
  unfold ssz
  split
  · omega
  · split <;> omega
/-- a builder's next capacity -/
def ncp (q : Int) (k : Nat) : Nat := ((k : Int) + mxi (q - (k : Int)) ((k : Int) + 2)).toNat
theorem ncp_rng {q : Int} {k : Nat} (h : (k : Int) < q) : q ≤ ((ncp q k : Nat) : Int) ∧ ((ncp q k : Nat) : Int) ≤ 2 * q := by
  have h1 := mxi_rng (q - (k : Int)) ((k : Int) + 2)
  unfold ncp
  omega
theorem ncpE (q : Int) (k : Nat) (h : (k : Int) < q) : q ≤ ((ncp q k : Nat) : Int) ∧ ((ncp q k : Nat) : Int) ≤ 2 * q := ncp_rng h
def sgn (z : Int) : Int := if z < 10 then 48 + z else 97 + (z - 10)
theorem sgn_rng (z : Int) (h : 0 ≤ z ∧ z ≤ 35) : 0 ≤ sgn z ∧ sgn z ≤ 255 := by
  unfold sgn
  split <;> omega
end BG
section JB
set_option maxHeartbeats 4000000 in
set_option maxRecDepth 100000 in
theorem c_J8_newLength_cabcc (l : Launch) (a : Int) (b : Int) (g : Int) (ha : 0 ≤ a ∧ a ≤ 100000) (hb : 0 < b ∧ b ≤ 100000) (hg : 0 ≤ g ∧ g ≤ 100000) : zP l yJ8_newLength_cabcc 1 54 [.int (iZ (a)), .int (iZ (b)), .int (iZ (g))] (.int (iZ (a + mxi b g))) := by
  refine zP.intro (lo := 31) (nA := 3) (own := RJ8) zs_J8_newLength_cabcc (by decide) rfl rfl (by decide +kernel) rfl (Nat.le_of_ble_eq_true rfl) ?_
  intro p e s m below meth c ls C hr hk hl
  have hl : lv_has ls 4 [(0, .int (iZ (a))), (1, .int (iZ (b))), (2, .int (iZ (g)))] := hl
  refine lv_iload_n C.1 C.2.1 dJ8_newLength_cabcc_0 rfl (lv_at hl 0 rfl) ?_
  refine lv_iload_n C.1 C.2.1 dJ8_newLength_cabcc_1 rfl (lv_at hl 1 rfl) ?_
  refine lv_iload_n C.1 C.2.1 dJ8_newLength_cabcc_2 rfl (lv_at hl 2 rfl) ?_
  refine z_mxI C (by omega) (by omega) my_J8_194 hl ⟨Nat.le_of_ble_eq_true rfl, Nat.le_of_ble_eq_true rfl⟩ ⟨Nat.le_refl _, Nat.le_refl _⟩ (Nat.le_of_ble_eq_true rfl) dJ8_newLength_cabcc_3 ?_
  have q3 := mxi_rng (b) (g)
  refine z_iadd C dJ8_newLength_cabcc_6 ?_
  refine lv_istore_n (lv' := [(3, .int (iZ ((a) + (mxi (b) (g))))), (0, .int (iZ (a))), (1, .int (iZ (b))), (2, .int (iZ (g)))]) C.1 C.2.1 dJ8_newLength_cabcc_7 rfl hl (by decide) rfl (fun ls hl => ?_)
  refine z_iconst C dJ8_newLength_cabcc_8 ?_
  refine lv_iload_n C.1 C.2.1 dJ8_newLength_cabcc_9 rfl (lv_at hl 0 rfl) ?_
  refine z_icmp_ge (tgt := 21) C (by omega) (by omega) dJ8_newLength_cabcc_10 (by decide) (fun h10 => ?_) (fun h10 => ?_)
  · exfalso; omega
  · refine lv_iload_n C.1 C.2.1 dJ8_newLength_cabcc_13 rfl (lv_at hl 0 rfl) ?_
    refine z_ldc C (2147483639) ki_J8_200 rfl dJ8_newLength_cabcc_14 ?_
    refine z_icmp_gt (tgt := 21) C (by omega) (by omega) dJ8_newLength_cabcc_16 (by decide) (fun h16 => ?_) (fun h16 => ?_)
    · exfalso; omega
    · refine lv_iload_n C.1 C.2.1 dJ8_newLength_cabcc_19 rfl (lv_at hl 0 rfl) ?_
      exact z_iret C hr hk dJ8_newLength_cabcc_20 (congrArg (fun z : Int => Value.int (iZ z)) (by rfl))

set_option maxHeartbeats 4000000 in
set_option maxRecDepth 100000 in
theorem c_J6_stringSize_0f7a4 (l : Launch) (z : Int) (hz : 0 ≤ z ∧ z ≤ 999) : zP l yJ6_stringSize_0f7a4 0 23 [.int (iZ (z))] (.int (iZ (ssz z))) := by
  refine zP.intro (lo := 0) (nA := 1) (own := RJ6) zs_J6_stringSize_0f7a4 (by decide) rfl rfl (by decide +kernel) rfl (Nat.le_of_ble_eq_true rfl) ?_
  intro p e s m below meth c ls C hr hk hl
  have hl : lv_has ls 4 [(0, .int (iZ (z)))] := hl
  refine z_iconst C dJ6_stringSize_0f7a4_0 ?_
  refine lv_istore_n (lv' := [(1, .int (iZ (1))), (0, .int (iZ (z)))]) C.1 C.2.1 dJ6_stringSize_0f7a4_1 rfl hl (by decide) rfl (fun ls hl => ?_)
  refine lv_iload_n C.1 C.2.1 dJ6_stringSize_0f7a4_2 rfl (lv_at hl 1 rfl) ?_
  refine z_if_lt (tgt := 11) C (by omega) dJ6_stringSize_0f7a4_3 (by decide) (fun h3 => ?_) (fun h3 => ?_)
  · exfalso; omega
  · refine z_iconst C dJ6_stringSize_0f7a4_6 ?_
    refine lv_istore_n (lv' := [(1, .int (iZ (0))), (0, .int (iZ (z)))]) C.1 C.2.1 dJ6_stringSize_0f7a4_7 rfl hl (by decide) rfl (fun ls hl => ?_)
    refine lv_iload_n C.1 C.2.1 dJ6_stringSize_0f7a4_8 rfl (lv_at hl 1 rfl) ?_
    refine z_ineg C dJ6_stringSize_0f7a4_9 ?_
    refine lv_istore_n (lv' := [(0, .int (iZ (-(z)))), (1, .int (iZ (0)))]) C.1 C.2.1 dJ6_stringSize_0f7a4_10 rfl hl (by decide) rfl (fun ls hl => ?_)
    refine z_bipush C dJ6_stringSize_0f7a4_11 (by decide) ?_
    refine lv_istore_n (lv' := [(2, .int (iZ (-10))), (0, .int (iZ (-(z)))), (1, .int (iZ (0)))]) C.1 C.2.1 dJ6_stringSize_0f7a4_13 rfl hl (by decide) rfl (fun ls hl => ?_)
    refine z_iconst C dJ6_stringSize_0f7a4_14 ?_
    refine lv_istore_n (lv' := [(3, .int (iZ (1))), (2, .int (iZ (-10))), (0, .int (iZ (-(z)))), (1, .int (iZ (0)))]) C.1 C.2.1 dJ6_stringSize_0f7a4_15 rfl hl (by decide) rfl (fun ls hl => ?_)
    have L16 : ∀ (j : Nat)  (x2 : Int) (x3 : Int) (ls : Array Slot), (4 - x3).toNat < j → ((x3 = 1 ∧ x2 = -10) ∨ (x3 = 2 ∧ x2 = -100 ∧ 10 ≤ z) ∨ (x3 = 3 ∧ x2 = -1000 ∧ 100 ≤ z)) → lv_has ls 4 [(0, .int (iZ (-(z)))), (1, .int (iZ (0))), (2, .int (iZ (x2))), (3, .int (iZ (x3)))] → W p l e { frames := 0, cells := 0, slots := 0, locals := 0 } s m ([.int (iZ (z))] : List Value).toArray below meth c s.heap [] 0 0 (zQ below [.int (iZ (z))] s (.int (iZ (ssz z)))) (F0 m 16 ls []) := by
      intro j
      induction j with
      | zero => intro x2 x3 ls hmu; exact absurd hmu (Nat.not_lt_zero _)
      | succ j ih16 =>
        intro x2 x3 ls hmu i16_0 hl
        refine lv_iload_n C.1 C.2.1 dJ6_stringSize_0f7a4_16 rfl (lv_at hl 3 rfl) ?_
        refine z_bipush C dJ6_stringSize_0f7a4_17 (by decide) ?_
        refine z_icmp_ge (tgt := 42) C (by omega) (by omega) dJ6_stringSize_0f7a4_19 (by decide) (fun h19 => ?_) (fun h19 => ?_)
        · exfalso; omega
        · refine lv_iload_n C.1 C.2.1 dJ6_stringSize_0f7a4_22 rfl (lv_at hl 0 rfl) ?_
          refine lv_iload_n C.1 C.2.1 dJ6_stringSize_0f7a4_23 rfl (lv_at hl 2 rfl) ?_
          refine z_icmp_le (tgt := 31) C (by omega) (by omega) dJ6_stringSize_0f7a4_24 (by decide) (fun h24 => ?_) (fun h24 => ?_)
          · refine z_bipush C dJ6_stringSize_0f7a4_31 (by decide) ?_
            refine lv_iload_n C.1 C.2.1 dJ6_stringSize_0f7a4_33 rfl (lv_at hl 2 rfl) ?_
            refine z_imul C dJ6_stringSize_0f7a4_34 ?_
            refine lv_istore_n (lv' := [(2, .int (iZ ((10) * (x2)))), (0, .int (iZ (-(z)))), (1, .int (iZ (0))), (3, .int (iZ (x3)))]) C.1 C.2.1 dJ6_stringSize_0f7a4_35 rfl hl (by decide) rfl (fun ls hl => ?_)
            refine z_iinc (j := 3) (lv' := [(3, .int (iZ (x3 + 1))), (2, .int (iZ ((10) * (x2)))), (0, .int (iZ (-(z)))), (1, .int (iZ (0)))]) C dJ6_stringSize_0f7a4_36 hl rfl (by decide) rfl (fun ls hl => ?_)
            refine lv_goto (tgt := 16) C.1 C.2.1 dJ6_stringSize_0f7a4_39 (by decide) ?_
            exact ih16  _ _ _ (by omega) (by omega) (lv_sub hl [2, 3, 1, 0] rfl)
          · refine lv_iload_n C.1 C.2.1 dJ6_stringSize_0f7a4_27 rfl (lv_at hl 3 rfl) ?_
            refine lv_iload_n C.1 C.2.1 dJ6_stringSize_0f7a4_28 rfl (lv_at hl 1 rfl) ?_
            refine z_iadd C dJ6_stringSize_0f7a4_29 ?_
            exact z_iret C hr hk dJ6_stringSize_0f7a4_30 (congrArg (fun z : Int => Value.int (iZ z)) (by rw [ssz_eq z x3 (by omega)]; omega))
    exact L16 _  _ _ _ (by exact Nat.lt_succ_self _) (by exact Or.inl ⟨rfl, rfl⟩) (lv_sub hl [2, 3, 1, 0] rfl)

set_option maxHeartbeats 4000000 in
set_option maxRecDepth 100000 in
theorem c_J1_canEncode_fc78d (l : Launch) (z : Int) (hz : 0 ≤ z ∧ z ≤ 255) : zP l yJ1_canEncode_fc78d 0 20 [.int (iZ (z))] (.int (iZ (zB (true)))) := by
  refine zP.intro (lo := 0) (nA := 1) (own := RJ1) zs_J1_canEncode_fc78d (by decide) rfl rfl (by decide +kernel) rfl (Nat.le_of_ble_eq_true rfl) ?_
  intro p e s m below meth c ls C hr hk hl
  have hl : lv_has ls 1 [(0, .int (iZ (z)))] := hl
  refine lv_iload_n C.1 C.2.1 dJ1_canEncode_fc78d_0 rfl (lv_at hl 0 rfl) ?_
  refine z_sipush C dJ1_canEncode_fc78d_1 (by decide) ?_
  refine z_icmp_gt (tgt := 11) C (by omega) (by omega) dJ1_canEncode_fc78d_4 (by decide) (fun h4 => ?_) (fun h4 => ?_)
  · exfalso; omega
  · refine z_iconst C dJ1_canEncode_fc78d_7 ?_
    refine lv_goto (tgt := 12) C.1 C.2.1 dJ1_canEncode_fc78d_8 (by decide) ?_
    exact z_zret C hr hk dJ1_canEncode_fc78d_12 (by decide) (congrArg (fun z : Int => Value.int (iZ z)) (by rfl))

set_option maxHeartbeats 4000000 in
set_option maxRecDepth 100000 in
theorem c_J7_checkLength_df160 (l : Launch) (a : Int) (b : Int) (ha : 0 ≤ a ∧ a ≤ b ∧ b ≤ 100000) : zPv l yJ7_checkLength_df160 0 21 [.int (iZ (a)), .int (iZ (b))]  := by
  refine zPv.intro (lo := 0) (nA := 2) (own := RJ7) zs_J7_checkLength_df160 (by decide) rfl rfl (by decide +kernel) rfl (Nat.le_of_ble_eq_true rfl) ?_
  intro p e s m below meth c ls C hr hk hl
  have hl : lv_has ls 2 [(0, .int (iZ (a))), (1, .int (iZ (b)))] := hl
  refine lv_iload_n C.1 C.2.1 dJ7_checkLength_df160_0 rfl (lv_at hl 1 rfl) ?_
  refine lv_iload_n C.1 C.2.1 dJ7_checkLength_df160_1 rfl (lv_at hl 0 rfl) ?_
  refine z_icmp_ge (tgt := 37) C (by omega) (by omega) dJ7_checkLength_df160_2 (by decide) (fun h2 => ?_) (fun h2 => ?_)
  · exact z_vret C hr hk dJ7_checkLength_df160_37
  · exfalso; omega

set_option maxHeartbeats 4000000 in
set_option maxRecDepth 100000 in
theorem c_X2_signOf (l : Launch) (z : Int) (hz : 0 ≤ z ∧ z ≤ 35) : zP l yX2_signOf 0 20 [.int (iZ (z))] (.int (iZ (sgn z))) := by
  refine zP.intro (lo := 0) (nA := 1) (own := RX2) zs_X2_signOf (by decide) rfl rfl (by decide +kernel) rfl (Nat.le_of_ble_eq_true rfl) ?_
  intro p e s m below meth c ls C hr hk hl
  have hl : lv_has ls 1 [(0, .int (iZ (z)))] := hl
  refine lv_iload_n C.1 C.2.1 dX2_signOf_0 rfl (lv_at hl 0 rfl) ?_
  refine z_bipush C dX2_signOf_1 (by decide) ?_
  refine z_icmp_ge (tgt := 13) C (by omega) (by omega) dX2_signOf_3 (by decide) (fun h3 => ?_) (fun h3 => ?_)
  · refine z_bipush C dX2_signOf_13 (by decide) ?_
    refine lv_iload_n C.1 C.2.1 dX2_signOf_15 rfl (lv_at hl 0 rfl) ?_
    refine z_bipush C dX2_signOf_16 (by decide) ?_
    refine z_isub C dX2_signOf_18 ?_
    refine z_iadd C dX2_signOf_19 ?_
    refine z_i2c C (by omega) dX2_signOf_20 ?_
    exact z_zret C hr hk dX2_signOf_21 (zn_char (by omega)) (congrArg (fun z : Int => Value.int (iZ z)) (by rw [sgn, if_neg (by omega)]))
  · refine z_bipush C dX2_signOf_6 (by decide) ?_
    refine lv_iload_n C.1 C.2.1 dX2_signOf_8 rfl (lv_at hl 0 rfl) ?_
    refine z_iadd C dX2_signOf_9 ?_
    refine lv_goto (tgt := 20) C.1 C.2.1 dX2_signOf_10 (by decide) ?_
    refine z_i2c C (by omega) dX2_signOf_20 ?_
    exact z_zret C hr hk dX2_signOf_21 (zn_char (by omega)) (congrArg (fun z : Int => Value.int (iZ z)) (by rw [sgn, if_pos (by omega)]))

set_option maxHeartbeats 4000000 in
set_option maxRecDepth 100000 in
theorem c_J6_getChars_ba4f3 (l : Launch) (D : va_G) (cB : ClassId) (z q : Int) (k : Nat) (hz : 0 ≤ z ∧ z ≤ 999) (hq : ssz z ≤ q ∧ q ≤ (k : Int)) (hk9 : k ≤ 100000) : zGC l 1 26 D cB z q k := by
  refine ⟨0, rfl, fun v sz => ?_⟩
  refine Met.ofW (ws' := T0) (by decide) rfl ?_
  intro p e s m args below meth c s₁ B hml hv
  obtain ⟨hv, hsz, hAt, hV⟩ := hv
  subst hv
  subst hsz
  have hts := atoms_spec (ws := Cond.code yJ6_getChars_ba4f3 cJ6_getChars_ba4f3 7 (some .int) :: T0) B.pre
  have hown : s.vm.findClass RJ6 = some m.cls := findClass_of_methodNamed B.named
  rw [lg_entry_eq]
  have C : CallFix p m c cJ6_getChars_ba4f3 7 s ([.int (iZ z), .int (iZ q), .ref v] : List Value).toArray T0 RJ6 := ⟨B.exec, B.bytes, hml, hown, fun w h => hts w (List.mem_cons_of_mem _ h)⟩
  have hr := B.returns
  have hk := B.notSynchronized
  have hl : lv_has _ 7 [(0, .int (iZ z)), (1, .int (iZ q)), (2, .ref v)] := lv_entry ([.int (iZ z), .int (iZ q), .ref v] : List Value) (n := 7) (Nat.le_of_ble_eq_true rfl)
  generalize (lg_sl ([.int (iZ z), .int (iZ q), .ref v] : List Value) ++ List.replicate (7 - (lg_sl ([.int (iZ z), .int (iZ q), .ref v] : List Value)).length) Slot.unset).toArray = ls at hl ⊢
  obtain ⟨-, -, ⟨tO, gO, V1, V2⟩, ⟨tT, gT, V3, V4⟩, -⟩ := hV
  have B : AtR D cB v k s s.heap ∧ va_S (fun q => q = v) s.heap s.heap [] := ⟨hAt, va_S.rf⟩
  refine lv_iload_n C.1 C.2.1 dJ6_getChars_ba4f3_0 rfl (lv_at hl 1 rfl) ?_
  refine lv_istore (lv' := [(5, .int (iZ (q))), (0, .int (iZ (z))), (1, .int (iZ (q))), (2, .ref v)]) C.1 C.2.1 dJ6_getChars_ba4f3_1 hl (by decide) rfl (fun ls hl => ?_)
  refine lv_iload_n C.1 C.2.1 dJ6_getChars_ba4f3_3 rfl (lv_at hl 1 rfl) ?_
  refine z_if_ge (tgt := 11) C (by omega) dJ6_getChars_ba4f3_4 (by decide) (fun h4 => ?_) (fun h4 => ?_)
  · refine z_iconst C dJ6_getChars_ba4f3_11 ?_
    refine lv_istore (lv' := [(6, .int (iZ (0))), (5, .int (iZ (q))), (0, .int (iZ (z))), (1, .int (iZ (q))), (2, .ref v)]) C.1 C.2.1 dJ6_getChars_ba4f3_12 hl (by decide) rfl (fun ls hl => ?_)
    refine lv_iload C.1 C.2.1 dJ6_getChars_ba4f3_14 (lv_at hl 0 rfl) ?_
    refine z_if_ne (tgt := 22) C (by omega) dJ6_getChars_ba4f3_16 (by decide) (fun h16 => ?_) (fun h16 => ?_)
    · exfalso; omega
    · refine lv_iload_n C.1 C.2.1 dJ6_getChars_ba4f3_19 rfl (lv_at hl 2 rfl) ?_
      refine z_ineg C dJ6_getChars_ba4f3_20 ?_
      refine lv_istore_n (lv' := [(0, .int (iZ (-(z)))), (6, .int (iZ (0))), (5, .int (iZ (q))), (1, .int (iZ (q))), (2, .ref v)]) C.1 C.2.1 dJ6_getChars_ba4f3_21 rfl hl (by decide) rfl (fun ls hl => ?_)
      have L22 : ∀ (j : Nat) (w : Nat) (x0 : Int) (x5 : Int) (H : Heap) (locs : List Loc) (ls : Array Slot), w + 1 < j → (x0 = -(w : Int)) → (w ≤ 999) → (ssz (w : Int) ≤ x5) → (x5 ≤ (k : Int)) → (AtR D cB v k s H ∧ va_S (fun q => q = v) s.heap H locs) → lv_has ls 7 [(0, .int (iZ (x0))), (1, .int (iZ (q))), (2, .ref v), (5, .int (iZ (x5))), (6, .int (iZ (0)))] → W p l e { frames := 1, cells := 0, slots := 0, locals := 0 } s m ([.int (iZ z), .int (iZ q), .ref v] : List Value).toArray below meth c H locs 0 0 (MQ below (fun _ st oc t => (∃ x : Int32, oc = .returned (some (.int x))) ∧ AtR D cB v k t t.heap ∧ va_F (fun x => x = v) st t) ([.int (iZ z), .int (iZ q), .ref v] : List Value).toArray s 0 0 (fun x => x = v)) (F0 m 22 ls []) := by
        intro j
        induction j with
        | zero => intro w x0 x5 H locs ls hmu; exact absurd hmu (Nat.not_lt_zero _)
        | succ j ih22 =>
          intro w x0 x5 H locs ls hmu i22_0 i22_1 i22_2 i22_3 B hl
          refine lv_iload_n C.1 C.2.1 dJ6_getChars_ba4f3_22 rfl (lv_at hl 0 rfl) ?_
          refine z_bipush C dJ6_getChars_ba4f3_23 (by decide) ?_
          refine z_icmp_gt (tgt := 72) C (by omega) (by omega) dJ6_getChars_ba4f3_25 (by decide) (fun h25 => ?_) (fun h25 => ?_)
          · refine lv_aload_n C.1 C.2.1 dJ6_getChars_ba4f3_72 rfl (lv_at hl 2 rfl) ?_
            refine z_iinc (j := 3) (lv' := [(5, .int (iZ (x5 + (-1)))), (0, .int (iZ (x0))), (1, .int (iZ (q))), (2, .ref v), (6, .int (iZ (0)))]) C dJ6_getChars_ba4f3_73 hl rfl (by decide) rfl (fun ls hl => ?_)
            refine lv_iload C.1 C.2.1 dJ6_getChars_ba4f3_76 (lv_at hl 0 rfl) ?_
            refine zv_gets C V1 B.2 fl_J6_83 dJ6_getChars_ba4f3_78 ?_
            refine lv_iload_n C.1 C.2.1 dJ6_getChars_ba4f3_81 rfl (lv_at hl 1 rfl) ?_
            refine z_ineg C dJ6_getChars_ba4f3_82 ?_
            refine zv_tb C V2 B.2 (w) (by omega) (by omega) (by decide) dJ6_getChars_ba4f3_83 (fun x83 => ?_)
            refine zr_bast C B.1 B.2 rfl (x5.toNat - 1) (by have h1 := ssz_rng (w : Int); omega) (by have h1 := ssz_rng (w : Int); omega) (by omega) dJ6_getChars_ba4f3_84 (fun H locs R1 S1 hq => ?_)
            have B : AtR D cB v k s H ∧ va_S (fun q => q = v) s.heap H locs := ⟨R1, S1⟩
            refine lv_iload_n C.1 C.2.1 dJ6_getChars_ba4f3_85 rfl (lv_at hl 1 rfl) ?_
            refine z_bipush C dJ6_getChars_ba4f3_86 (by decide) ?_
            refine z_icmp_ge (tgt := 104) C (by omega) (by omega) dJ6_getChars_ba4f3_88 (by decide) (fun h88 => ?_) (fun h88 => ?_)
            · refine lv_iload C.1 C.2.1 dJ6_getChars_ba4f3_104 (lv_at hl 4 rfl) ?_
              refine z_if_eq (tgt := 118) C (by omega) dJ6_getChars_ba4f3_106 (by decide) (fun h106 => ?_) (fun h106 => ?_)
              · refine lv_iload C.1 C.2.1 dJ6_getChars_ba4f3_118 (lv_at hl 0 rfl) ?_
                exact W.iret C.1 C.2.1 hr (fun t ht hW => ⟨⟨_, rfl⟩, by rw [ht]; exact B.1.moved hW.alike, B.2.F ht⟩) B.2.2.2 dJ6_getChars_ba4f3_120 hk
              · exfalso; omega
            · refine lv_aload_n C.1 C.2.1 dJ6_getChars_ba4f3_91 rfl (lv_at hl 3 rfl) ?_
              refine z_iinc (j := 0) (lv' := [(5, .int (iZ (x5 + (-1) + (-1)))), (0, .int (iZ (x0))), (1, .int (iZ (q))), (2, .ref v), (6, .int (iZ (0)))]) C dJ6_getChars_ba4f3_92 hl rfl (by decide) rfl (fun ls hl => ?_)
              refine lv_iload C.1 C.2.1 dJ6_getChars_ba4f3_95 (lv_at hl 0 rfl) ?_
              refine zv_gets C V3 B.2 fl_J6_87 dJ6_getChars_ba4f3_97 ?_
              refine lv_iload_n C.1 C.2.1 dJ6_getChars_ba4f3_100 rfl (lv_at hl 1 rfl) ?_
              refine z_ineg C dJ6_getChars_ba4f3_101 ?_
              refine zv_tb C V4 B.2 (w) (by omega) (by omega) (by decide) dJ6_getChars_ba4f3_102 (fun x102 => ?_)
              refine zr_bast C B.1 B.2 rfl (x5.toNat - 2) (by have h1 := ssz_10 (w := w) (by omega); omega) (by have h1 := ssz_10 (w := w) (by omega); omega) (by omega) dJ6_getChars_ba4f3_103 (fun H locs R1 S1 hq => ?_)
              have B : AtR D cB v k s H ∧ va_S (fun q => q = v) s.heap H locs := ⟨R1, S1⟩
              refine lv_iload C.1 C.2.1 dJ6_getChars_ba4f3_104 (lv_at hl 4 rfl) ?_
              refine z_if_eq (tgt := 118) C (by omega) dJ6_getChars_ba4f3_106 (by decide) (fun h106 => ?_) (fun h106 => ?_)
              · refine lv_iload C.1 C.2.1 dJ6_getChars_ba4f3_118 (lv_at hl 0 rfl) ?_
                exact W.iret C.1 C.2.1 hr (fun t ht hW => ⟨⟨_, rfl⟩, by rw [ht]; exact B.1.moved hW.alike, B.2.F ht⟩) B.2.2.2 dJ6_getChars_ba4f3_120 hk
              · exfalso; omega
          · refine lv_iload_n C.1 C.2.1 dJ6_getChars_ba4f3_28 rfl (lv_at hl 0 rfl) ?_
            refine z_bipush C dJ6_getChars_ba4f3_29 (by decide) ?_
            refine z_idivN C (w) (by omega) (by omega) dJ6_getChars_ba4f3_31 ?_
            refine lv_istore_n (lv' := [(3, .int (iZ (-((w / 100 : Nat) : Int)))), (0, .int (iZ (x0))), (1, .int (iZ (q))), (2, .ref v), (5, .int (iZ (x5))), (6, .int (iZ (0)))]) C.1 C.2.1 dJ6_getChars_ba4f3_32 rfl hl (by decide) rfl (fun ls hl => ?_)
            refine lv_iload_n C.1 C.2.1 dJ6_getChars_ba4f3_33 rfl (lv_at hl 0 rfl) ?_
            refine z_bipush C dJ6_getChars_ba4f3_34 (by decide) ?_
            refine z_imul C dJ6_getChars_ba4f3_36 ?_
            refine lv_iload_n C.1 C.2.1 dJ6_getChars_ba4f3_37 rfl (lv_at hl 1 rfl) ?_
            refine z_isub C dJ6_getChars_ba4f3_38 ?_
            refine lv_istore (lv' := [(4, .int (iZ (((-((w / 100 : Nat) : Int)) * (100)) - (x0)))), (3, .int (iZ (-((w / 100 : Nat) : Int)))), (0, .int (iZ (x0))), (1, .int (iZ (q))), (2, .ref v), (5, .int (iZ (x5))), (6, .int (iZ (0)))]) C.1 C.2.1 dJ6_getChars_ba4f3_39 hl (by decide) rfl (fun ls hl => ?_)
            refine lv_iload_n C.1 C.2.1 dJ6_getChars_ba4f3_41 rfl (lv_at hl 1 rfl) ?_
            refine lv_istore_n (lv' := [(0, .int (iZ (-((w / 100 : Nat) : Int)))), (4, .int (iZ (((-((w / 100 : Nat) : Int)) * (100)) - (x0)))), (3, .int (iZ (-((w / 100 : Nat) : Int)))), (1, .int (iZ (q))), (2, .ref v), (5, .int (iZ (x5))), (6, .int (iZ (0)))]) C.1 C.2.1 dJ6_getChars_ba4f3_42 rfl hl (by decide) rfl (fun ls hl => ?_)
            refine lv_aload_n C.1 C.2.1 dJ6_getChars_ba4f3_43 rfl (lv_at hl 4 rfl) ?_
            refine z_iinc (j := 5) (lv' := [(5, .int (iZ (x5 + (-1)))), (0, .int (iZ (-((w / 100 : Nat) : Int)))), (4, .int (iZ (((-((w / 100 : Nat) : Int)) * (100)) - (x0)))), (3, .int (iZ (-((w / 100 : Nat) : Int)))), (1, .int (iZ (q))), (2, .ref v), (6, .int (iZ (0)))]) C dJ6_getChars_ba4f3_44 hl rfl (by decide) rfl (fun ls hl => ?_)
            refine lv_iload C.1 C.2.1 dJ6_getChars_ba4f3_47 (lv_at hl 0 rfl) ?_
            refine zv_gets C V1 B.2 fl_J6_83 dJ6_getChars_ba4f3_49 ?_
            refine lv_iload C.1 C.2.1 dJ6_getChars_ba4f3_52 (lv_at hl 2 rfl) ?_
            refine zv_tb C V2 B.2 (w % 100) (by omega) (by omega) (by decide) dJ6_getChars_ba4f3_54 (fun x54 => ?_)
            refine zr_bast C B.1 B.2 rfl (x5.toNat - 1) (by have h1 := ssz_100 (w := w) (by omega) (by omega); omega) (by have h1 := ssz_100 (w := w) (by omega) (by omega); omega) (by omega) dJ6_getChars_ba4f3_55 (fun H locs R1 S1 hq => ?_)
            have B : AtR D cB v k s H ∧ va_S (fun q => q = v) s.heap H locs := ⟨R1, S1⟩
            refine lv_aload_n C.1 C.2.1 dJ6_getChars_ba4f3_56 rfl (lv_at hl 5 rfl) ?_
            refine z_iinc (j := 0) (lv' := [(5, .int (iZ (x5 + (-1) + (-1)))), (0, .int (iZ (-((w / 100 : Nat) : Int)))), (4, .int (iZ (((-((w / 100 : Nat) : Int)) * (100)) - (x0)))), (3, .int (iZ (-((w / 100 : Nat) : Int)))), (1, .int (iZ (q))), (2, .ref v), (6, .int (iZ (0)))]) C dJ6_getChars_ba4f3_57 hl rfl (by decide) rfl (fun ls hl => ?_)
            refine lv_iload C.1 C.2.1 dJ6_getChars_ba4f3_60 (lv_at hl 0 rfl) ?_
            refine zv_gets C V3 B.2 fl_J6_87 dJ6_getChars_ba4f3_62 ?_
            refine lv_iload C.1 C.2.1 dJ6_getChars_ba4f3_65 (lv_at hl 2 rfl) ?_
            refine zv_tb C V4 B.2 (w % 100) (by omega) (by omega) (by decide) dJ6_getChars_ba4f3_67 (fun x67 => ?_)
            refine zr_bast C B.1 B.2 rfl (x5.toNat - 2) (by have h1 := ssz_100 (w := w) (by omega) (by omega); omega) (by have h1 := ssz_100 (w := w) (by omega) (by omega); omega) (by omega) dJ6_getChars_ba4f3_68 (fun H locs R1 S1 hq => ?_)
            have B : AtR D cB v k s H ∧ va_S (fun q => q = v) s.heap H locs := ⟨R1, S1⟩
            refine lv_goto (tgt := 22) C.1 C.2.1 dJ6_getChars_ba4f3_69 (by decide) ?_
            exact ih22 (w / 100) _ _ _ _ _ (by omega) (by omega) (by omega) (by have h1 := ssz_100 (w := w) (by omega) (by omega); omega) (by omega) B (lv_sub hl [1, 4, 5, 0, 6] rfl)
      exact L22 _ (z.toNat) _ _ _ _ _ (by exact Nat.lt_succ_self _) (by omega) (by omega) (by rw [show ((z.toNat : Nat) : Int) = z by omega]; omega) (by omega) B (lv_sub hl [0, 3, 4, 2, 1] rfl)
  · exfalso; omega

end JB
/-! ===== java.util.Arrays over bytes: copyOf, copyOfRange ===== -/
section AA
set_option maxHeartbeats 4000000 in
theorem c_J7_copyOf_9075b (l : Launch) (D : va_G) (cB : ClassId) (k q : Nat) (h1 : k < q) (h2 : q ≤ 520) (_ : True) : zRM l yJ7_copyOf_9075b 1 62 1 520 D cB (fun v => [.ref v, .int (iZ (q : Int))]) 2 k q := by
  refine zRM.intro (lo := 40) (nA := 2) (own := RJ7) zs_J7_copyOf_9075b (by decide) rfl rfl (by decide +kernel) (fun _ => rfl) (fun _ => Nat.le_of_ble_eq_true rfl) ?_
  intro v p e s m below meth c ls C hr hk hR V hl
  have hl : lv_has ls 3 [(0, .ref v), (1, .int (iZ (q : Int)))] := hl
  have hv := hR.lt
  refine lv_iload_n C.1 C.2.1 dJ7_copyOf_9075b_0 rfl (lv_at hl 1 rfl) ?_
  refine lv_aload_n C.1 C.2.1 dJ7_copyOf_9075b_1 rfl (lv_at hl 0 rfl) ?_
  refine zr_alen C hR dJ7_copyOf_9075b_2 ?_
  refine z_icmp_ne (tgt := 14) C (by omega) (by omega) dJ7_copyOf_9075b_3 (by decide) (fun h3 => ?_) (fun h3 => absurd h3 (by omega))
  refine lv_iload_n C.1 C.2.1 dJ7_copyOf_9075b_14 rfl (lv_at hl 1 rfl) ?_
  refine zr_newb (A := fun z => s.heap.size ≤ z) C hR.K va_S.rf q rfl (by omega) (Nat.le_of_ble_eq_true rfl) (by show 0 + q ≤ 520; omega) dJ7_copyOf_9075b_15 (fun w H1 hw hW S1 ho hz => ?_)
  refine lv_astore_n (lv' := [(2, .ref w), (0, .ref v), (1, .int (iZ (q : Int)))]) C.1 C.2.1 dJ7_copyOf_9075b_17 rfl hl (by decide) rfl (fun ls hl => ?_)
  refine lv_aload_n C.1 C.2.1 dJ7_copyOf_9075b_18 rfl (lv_at hl 1 rfl) ?_
  refine z_iconst C dJ7_copyOf_9075b_19 ?_
  refine lv_aload_n C.1 C.2.1 dJ7_copyOf_9075b_20 rfl (lv_at hl 0 rfl) ?_
  refine z_iconst C dJ7_copyOf_9075b_21 ?_
  refine lv_aload_n C.1 C.2.1 dJ7_copyOf_9075b_22 rfl (lv_at hl 1 rfl) ?_
  refine zr_alen C (hR.kept (ho v hv)) dJ7_copyOf_9075b_23 ?_
  refine lv_iload_n C.1 C.2.1 dJ7_copyOf_9075b_24 rfl (lv_at hl 2 rfl) ?_
  refine z_mnI C (by omega) (by omega) my_J7_304 hl ⟨Nat.le_of_ble_eq_true rfl, Nat.le_of_ble_eq_true rfl⟩ ⟨Nat.le_of_ble_eq_true rfl, by show 0 + q ≤ 520; omega⟩ (Nat.le_of_ble_eq_true rfl) dJ7_copyOf_9075b_25 ?_
  have hm := mni_rng (k : Int) (q : Int)
  refine zr_copy (A := fun z => s.heap.size ≤ z) C hR (by omega) hW S1 hw k rfl rfl (by omega) (Nat.le_refl _) (by omega) (by omega) (by omega) hl my_J7_150 ⟨Nat.le_of_ble_eq_true rfl, Nat.le_of_ble_eq_true rfl⟩ (Nat.le_of_ble_eq_true rfl) dJ7_copyOf_9075b_28 (fun H2 locs2 hW2 S2 hq => ?_)
  refine lv_aload_n C.1 C.2.1 dJ7_copyOf_9075b_31 rfl (lv_at hl 0 rfl) ?_
  refine W.widen (k := 1) (n := 520) (Nat.le_of_ble_eq_true rfl) (by omega) ?_
  exact W.aret C.1 C.2.1 hr (Or.inr ⟨_, rfl⟩) (Or.inr ⟨w, rfl⟩) (fun t ht hW9 => ⟨w, rfl, hw, by rw [ht]; exact hW2.moved hW9.alike, S2.F ht⟩) S2.2.2 dJ7_copyOf_9075b_32 hk
set_option maxHeartbeats 4000000 in
theorem c_J7_copyOfRangeByte_39247 (l : Launch) (D : va_G) (cB : ClassId) (k q : Nat) (h1 : q ≤ k) (h2 : k ≤ 520) : zRM l yJ7_copyOfRangeByte_39247 1 64 1 520 D cB (fun v => [.ref v, .int (iZ 0), .int (iZ (q : Int))]) 3 k q := by
  refine zRM.intro (lo := 40) (nA := 3) (own := RJ7) zs_J7_copyOfRangeByte_39247 (by decide) rfl rfl (by decide +kernel) (fun _ => rfl) (fun _ => Nat.le_of_ble_eq_true rfl) ?_
  intro v p e s m below meth c ls C hr hk hR V hl
  have hl : lv_has ls 5 [(0, .ref v), (1, .int (iZ 0)), (2, .int (iZ (q : Int)))] := hl
  have hv := hR.lt
  refine lv_iload_n C.1 C.2.1 dJ7_copyOfRangeByte_39247_0 rfl (lv_at hl 1 rfl) ?_
  refine lv_iload_n C.1 C.2.1 dJ7_copyOfRangeByte_39247_1 rfl (lv_at hl 2 rfl) ?_
  refine z_callv C (c_J7_checkLength_df160 l 0 (q : Int) (by omega)) ml_J7_343 ⟨by decide, by decide⟩ ⟨Nat.le_of_ble_eq_true rfl, Nat.le_of_ble_eq_true rfl⟩ hl (Nat.le_of_ble_eq_true rfl) rfl dJ7_copyOfRangeByte_39247_2 ?_
  refine lv_iload_n C.1 C.2.1 dJ7_copyOfRangeByte_39247_5 rfl (lv_at hl 2 rfl) ?_
  refine lv_iload_n C.1 C.2.1 dJ7_copyOfRangeByte_39247_6 rfl (lv_at hl 1 rfl) ?_
  refine z_isub C dJ7_copyOfRangeByte_39247_7 ?_
  refine lv_istore_n (lv' := [(3, .int (iZ ((q : Int) - 0))), (0, .ref v), (1, .int (iZ 0)), (2, .int (iZ (q : Int)))]) C.1 C.2.1 dJ7_copyOfRangeByte_39247_8 rfl hl (by decide) rfl (fun ls hl => ?_)
  refine lv_iload_n C.1 C.2.1 dJ7_copyOfRangeByte_39247_9 rfl (lv_at hl 0 rfl) ?_
  refine zr_newb (A := fun z => s.heap.size ≤ z) C hR.K va_S.rf q (by omega) (by omega) (Nat.le_of_ble_eq_true rfl) (by show 0 + q ≤ 520; omega) dJ7_copyOfRangeByte_39247_10 (fun w H1 hw hW S1 ho hz => ?_)
  refine lv_astore (lv' := [(4, .ref w), (3, .int (iZ ((q : Int) - 0))), (0, .ref v), (1, .int (iZ 0)), (2, .int (iZ (q : Int)))]) C.1 C.2.1 dJ7_copyOfRangeByte_39247_12 hl (by decide) rfl (fun ls hl => ?_)
  refine lv_aload_n C.1 C.2.1 dJ7_copyOfRangeByte_39247_14 rfl (lv_at hl 2 rfl) ?_
  refine lv_iload_n C.1 C.2.1 dJ7_copyOfRangeByte_39247_15 rfl (lv_at hl 3 rfl) ?_
  refine lv_aload C.1 C.2.1 dJ7_copyOfRangeByte_39247_16 (lv_at hl 0 rfl) ?_
  refine z_iconst C dJ7_copyOfRangeByte_39247_18 ?_
  refine lv_aload_n C.1 C.2.1 dJ7_copyOfRangeByte_39247_19 rfl (lv_at hl 2 rfl) ?_
  refine zr_alen C (hR.kept (ho v hv)) dJ7_copyOfRangeByte_39247_20 ?_
  refine lv_iload_n C.1 C.2.1 dJ7_copyOfRangeByte_39247_21 rfl (lv_at hl 3 rfl) ?_
  refine z_isub C dJ7_copyOfRangeByte_39247_22 ?_
  refine lv_iload_n C.1 C.2.1 dJ7_copyOfRangeByte_39247_23 rfl (lv_at hl 1 rfl) ?_
  refine z_mnI C (by omega) (by omega) my_J7_304 hl ⟨Nat.le_of_ble_eq_true rfl, Nat.le_of_ble_eq_true rfl⟩ ⟨Nat.le_of_ble_eq_true rfl, by show 0 + q ≤ 520; omega⟩ (Nat.le_of_ble_eq_true rfl) dJ7_copyOfRangeByte_39247_24 ?_
  have hm := mni_rng ((k : Int) - 0) ((q : Int) - 0)
  refine zr_copy (A := fun z => s.heap.size ≤ z) C hR (by omega) hW S1 hw q rfl rfl (by omega) h1 (Nat.le_refl _) (by omega) (by omega) hl my_J7_150 ⟨Nat.le_of_ble_eq_true rfl, Nat.le_of_ble_eq_true rfl⟩ (Nat.le_of_ble_eq_true rfl) dJ7_copyOfRangeByte_39247_27 (fun H2 locs2 hW2 S2 hq => ?_)
  refine lv_aload C.1 C.2.1 dJ7_copyOfRangeByte_39247_30 (lv_at hl 0 rfl) ?_
  refine W.widen (k := 1) (n := 520) (Nat.le_of_ble_eq_true rfl) (by omega) ?_
  exact W.aret C.1 C.2.1 hr (Or.inr ⟨_, rfl⟩) (Or.inr ⟨w, rfl⟩) (fun t ht hW9 => ⟨w, rfl, hw, by rw [ht]; exact hW2.moved hW9.alike, S2.F ht⟩) S2.2.2 dJ7_copyOfRangeByte_39247_32 hk
set_option maxHeartbeats 4000000 in
theorem c_J7_copyOfRange_39247 (l : Launch) (D : va_G) (cB : ClassId) (k q : Nat) (h1 : q ≤ k) (h2 : k ≤ 520) : zRM l yJ7_copyOfRange_39247 2 86 1 520 D cB (fun v => [.ref v, .int (iZ 0), .int (iZ (q : Int))]) 3 k q := by
  refine zRM.intro (lo := 64) (nA := 3) (own := RJ7) zs_J7_copyOfRange_39247 (by decide) rfl rfl (by decide +kernel) (fun _ => rfl) (fun _ => Nat.le_of_ble_eq_true rfl) ?_
  intro v p e s m below meth c ls C hr hk hR V hl
  have hl : lv_has ls 3 [(0, .ref v), (1, .int (iZ 0)), (2, .int (iZ (q : Int)))] := hl
  have hv := hR.lt
  refine lv_iload_n C.1 C.2.1 dJ7_copyOfRange_39247_0 rfl (lv_at hl 1 rfl) ?_
  refine z_if_ne (tgt := 10) C (by omega) dJ7_copyOfRange_39247_1 (by decide) (fun h => absurd rfl h) (fun _ => ?_)
  refine lv_iload_n C.1 C.2.1 dJ7_copyOfRange_39247_4 rfl (lv_at hl 2 rfl) ?_
  refine lv_aload_n C.1 C.2.1 dJ7_copyOfRange_39247_5 rfl (lv_at hl 0 rfl) ?_
  refine zr_alen C hR dJ7_copyOfRange_39247_6 ?_
  refine z_icmp_eq (tgt := 17) C (by omega) (by omega) dJ7_copyOfRange_39247_7 (by decide) (fun h => ?_) (fun h => ?_)
  · refine lv_aload_n C.1 C.2.1 dJ7_copyOfRange_39247_17 rfl (lv_at hl 0 rfl) ?_
    obtain ⟨f, f1, f2, f3⟩ := hR
    have hB : s.vm.findClass "[B" = some cB := va_nm_byte (f3.2 0 _ rfl).2
    refine va_clone (D := D) (cl := vwCl) (H0 := s.heap) (ws := [(v, .inl (cB, k, .inl f))]) (tys := [(cB, .byte)]) (A := fun z => z = v ∨ s.heap.size ≤ z) (ad := "[B") (ty := .byte) C.1 C.2.1 (C.2.2.1.trans hl.1.symm) C.2.2.2.1 (C.2.2.2.2 _ (T0_of my_J7_310 rfl)) (C.2.2.2.2 _ (T0_of sm__B_clone rfl)) (C.2.2.2.2 _ (T0_of nv_java_lang_Object_clone rfl)) (C.2.2.2.2 _ (T0_of im_java_lang_Object_clone rfl)) (C.2.2.2.2 _ (T0_of sl_B_clone rfl)) V.2.2.2.2.2.2.1 f3 f2 (wD1 (Or.inl rfl)) va_S.rf (fun q hq => Or.inr hq) 0 0 rfl rfl hB (va_fit (fun i _ => f1 i)) (Nat.le_of_ble_eq_true rfl) (Nat.le_of_ble_eq_true rfl) (Nat.le_of_ble_eq_true rfl) (by show 0 + k ≤ 520; omega) dJ7_copyOfRange_39247_18 (fun w H1 hK1 hP1 hD1 hS1 => ?_)
    have hw2 : s.heap.size ≤ w := by
      have h3 : w ≠ v := fun h4 => absurd (hD1.1 1 0 _ _ rfl rfl h4) (by decide)
      exact (hD1.2 1 _ rfl).elim (fun h4 => absurd h4 h3) id
    have hS2 : va_S (fun z => s.heap.size ≤ z) s.heap H1 [] := by
      refine ⟨hS1.1, fun x g1 g2 => ?_, fun x hx => by cases hx⟩
      by_cases hx : x = v
      · subst hx
        exact (show H1[x]? = some _ from hP1 0 _ rfl).trans (show s.heap[x]? = some _ from f2 0 _ rfl).symm
      · exact hS1.2.1 x g1 (fun z => z.elim hx g2)
    refine va_castA (D := D) (cl := vwCl) (ws := [(v, .inl (cB, k, .inl f)), (w, .inl (cB, k, .inl f))]) C.1 C.2.1 C.2.2.2.1 (C.2.2.2.2 _ (T0_of cl_J7_311 rfl)) hP1 1 rfl hB dJ7_copyOfRange_39247_21 ?_
    refine W.widen (k := 1) (n := 520) (Nat.le_of_ble_eq_true rfl) (by show 0 + k ≤ 520; omega) ?_
    obtain rfl : q = k := by omega
    exact W.aret C.1 C.2.1 hr (Or.inr ⟨_, rfl⟩) (Or.inr ⟨w, rfl⟩) (fun t ht hW9 => ⟨w, rfl, hw2, by rw [ht]; exact (show AtR D cB w q s H1 from ⟨f, f1, hP1.sub [1] rfl, f3⟩).moved hW9.alike, hS2.F ht⟩) hS2.2.2 dJ7_copyOfRange_39247_24 hk
  · refine lv_aload_n C.1 C.2.1 dJ7_copyOfRange_39247_10 rfl (lv_at hl 0 rfl) ?_
    refine lv_iload_n C.1 C.2.1 dJ7_copyOfRange_39247_11 rfl (lv_at hl 1 rfl) ?_
    refine lv_iload_n C.1 C.2.1 dJ7_copyOfRange_39247_12 rfl (lv_at hl 2 rfl) ?_
    refine zr_callN (A := fun z => s.heap.size ≤ z) C hR V va_S.rf (fun q hq => hq) (c_J7_copyOfRangeByte_39247 l D cB k q h1 h2) ml_J7_339 ⟨Nat.le_of_ble_eq_true rfl, Nat.le_of_ble_eq_true rfl⟩ ⟨Nat.le_of_ble_eq_true rfl, Nat.le_of_ble_eq_true rfl⟩ hl (Nat.le_of_ble_eq_true rfl) rfl dJ7_copyOfRange_39247_13 (fun w H1 locs1 hw hW S1 hq hz => ?_)
    refine W.widen (k := 1) (n := 520) (Nat.le_of_ble_eq_true rfl) (Nat.le_of_ble_eq_true rfl) ?_
    exact W.aret C.1 C.2.1 hr (Or.inr ⟨_, rfl⟩) (Or.inr ⟨w, rfl⟩) (fun t ht hW9 => ⟨w, rfl, hw, by rw [ht]; exact hW.moved hW9.alike, S1.F ht⟩) S1.2.2 dJ7_copyOfRange_39247_16 hk
end AA
section JC
set_option maxHeartbeats 4000000 in
set_option maxRecDepth 100000 in
theorem c_J5_isLatin1_aae02 (l : Launch) (D : va_G) (cB : ClassId)  (n k : Nat) : zBM l yJ5_isLatin1_aae02 0 20 0 0 D cB [] n k (fun _ _ => some (.int (iZ (1)))) (n) (fun v v2 k2 => v = v2 ∧ k = k2) := by
  refine zBM.intro (lo := 0) (nA := 0) (own := RJ5) ⟨im_J5_isLatin1_aae02, ini_J5, cd_J5_isLatin1_aae02⟩ (by decide) rfl rfl (by decide +kernel) rfl (fun _ => Nat.le_of_ble_eq_true rfl) ?_
  intro b v0 p e s m below meth c0 ls C hr hk B V hl
  have hl : lv_has ls 1 [(0, .ref b)] := hl
  refine zv_cs C V B.2.1 fl_J5_18 dJ5_isLatin1_aae02_0 ?_
  refine z_if_eq (tgt := 17) C (by omega) dJ5_isLatin1_aae02_3 (by decide) (fun h3 => ?_) (fun h3 => ?_)
  · exfalso; omega
  · refine lv_aload_n C.1 C.2.1 dJ5_isLatin1_aae02_6 rfl (lv_at hl 0 rfl) ?_
    refine zj_getC C B.1 fl_J5_22 dJ5_isLatin1_aae02_7 ?_
    refine z_if_ne (tgt := 17) C (by omega) dJ5_isLatin1_aae02_10 (by decide) (fun h10 => ?_) (fun h10 => ?_)
    · exfalso; omega
    · refine z_iconst C dJ5_isLatin1_aae02_13 ?_
      refine lv_goto (tgt := 18) C.1 C.2.1 dJ5_isLatin1_aae02_14 (by decide) ?_
      exact zj_zret C B hr hk (Nat.le_of_ble_eq_true rfl) (Nat.le_of_ble_eq_true rfl) dJ5_isLatin1_aae02_18 (by decide) (by rfl) (by rfl) (by exact ⟨rfl, rfl⟩)

set_option maxHeartbeats 4000000 in
set_option maxRecDepth 100000 in
theorem c_J5_length_8abf5 (l : Launch) (D : va_G) (cB : ClassId)  (n k : Nat) : zBM l yJ5_length_8abf5 0 20 0 0 D cB [] n k (fun _ _ => some (.int (iZ (((n : Nat) : Int))))) (n) (fun v v2 k2 => v = v2 ∧ k = k2) := by
  refine zBM.intro (lo := 0) (nA := 0) (own := RJ5) ⟨im_J5_length_8abf5, ini_J5, cd_J5_length_8abf5⟩ (by decide) rfl rfl (by decide +kernel) rfl (fun _ => Nat.le_of_ble_eq_true rfl) ?_
  intro b v0 p e s m below meth c0 ls C hr hk B V hl
  have hl : lv_has ls 1 [(0, .ref b)] := hl
  refine lv_aload_n C.1 C.2.1 dJ5_length_8abf5_0 rfl (lv_at hl 0 rfl) ?_
  refine zj_getN C B.1 fl_J5_79 dJ5_length_8abf5_1 ?_
  exact zj_iret C B hr hk (Nat.le_of_ble_eq_true rfl) (Nat.le_of_ble_eq_true rfl) dJ5_length_8abf5_4 (by rfl) (by rfl) (by exact ⟨rfl, rfl⟩)

set_option maxHeartbeats 4000000 in
set_option maxRecDepth 100000 in
theorem c_J5_getValue_6d5f1 (l : Launch) (D : va_G) (cB : ClassId)  (n k : Nat) : zBM l yJ5_getValue_6d5f1 0 20 0 0 D cB [] n k (fun _ v => some (.ref v)) (n) (fun v v2 k2 => v = v2 ∧ k = k2) := by
  refine zBM.intro (lo := 0) (nA := 0) (own := RJ5) ⟨im_J5_getValue_6d5f1, ini_J5, cd_J5_getValue_6d5f1⟩ (by decide) rfl rfl (by decide +kernel) rfl (fun _ => Nat.le_of_ble_eq_true rfl) ?_
  intro b v0 p e s m below meth c0 ls C hr hk B V hl
  have hl : lv_has ls 1 [(0, .ref b)] := hl
  refine lv_aload_n C.1 C.2.1 dJ5_getValue_6d5f1_0 rfl (lv_at hl 0 rfl) ?_
  refine zj_getV C B.1 fl_J5_15 dJ5_getValue_6d5f1_1 ?_
  exact zj_aret C B hr (by first | exact Or.inl ⟨_, rfl⟩ | exact Or.inr ⟨_, rfl⟩) hk (Nat.le_of_ble_eq_true rfl) (Nat.le_of_ble_eq_true rfl) dJ5_getValue_6d5f1_4 (by rfl) (by rfl) (by exact ⟨rfl, rfl⟩)

set_option maxHeartbeats 4000000 in
set_option maxRecDepth 100000 in
theorem c_J5_newCapacity_0f7a4 (l : Launch) (D : va_G) (cB : ClassId) (q : Int) (n k : Nat) (hq : (k : Int) < q ∧ q ≤ 255) (hk9 : k ≤ 520) : zBM l yJ5_newCapacity_0f7a4 2 79 0 0 D cB [.int (iZ (q))] n k (fun _ _ => some (.int (iZ (((ncp q k : Nat) : Int))))) (n) (fun v v2 k2 => v = v2 ∧ k = k2) := by
  refine zBM.intro (lo := 54) (nA := 1) (own := RJ5) ⟨im_J5_newCapacity_0f7a4, ini_J5, cd_J5_newCapacity_0f7a4⟩ (by decide) rfl rfl (by decide +kernel) rfl (fun _ => Nat.le_of_ble_eq_true rfl) ?_
  intro b v0 p e s m below meth c0 ls C hr hk B V hl
  have hl : lv_has ls 6 [(0, .ref b), (1, .int (iZ (q)))] := hl
  refine lv_aload_n C.1 C.2.1 dJ5_newCapacity_0f7a4_0 rfl (lv_at hl 0 rfl) ?_
  refine zj_getV C B.1 fl_J5_15 dJ5_newCapacity_0f7a4_1 ?_
  refine zr_alen C B.1.1 dJ5_newCapacity_0f7a4_4 ?_
  refine lv_istore_n (lv' := [(2, .int (iZ (((k : Nat) : Int)))), (0, .ref b), (1, .int (iZ (q)))]) C.1 C.2.1 dJ5_newCapacity_0f7a4_5 rfl hl (by decide) rfl (fun ls hl => ?_)
  refine lv_iload_n C.1 C.2.1 dJ5_newCapacity_0f7a4_6 rfl (lv_at hl 2 rfl) ?_
  refine lv_aload_n C.1 C.2.1 dJ5_newCapacity_0f7a4_7 rfl (lv_at hl 1 rfl) ?_
  refine zj_getC C B.1 fl_J5_22 dJ5_newCapacity_0f7a4_8 ?_
  refine z_ishl0 C dJ5_newCapacity_0f7a4_11 ?_
  refine lv_istore_n (lv' := [(3, .int (iZ (q))), (2, .int (iZ (((k : Nat) : Int)))), (0, .ref b), (1, .int (iZ (q)))]) C.1 C.2.1 dJ5_newCapacity_0f7a4_12 rfl hl (by decide) rfl (fun ls hl => ?_)
  refine lv_iload_n C.1 C.2.1 dJ5_newCapacity_0f7a4_13 rfl (lv_at hl 0 rfl) ?_
  refine lv_iload_n C.1 C.2.1 dJ5_newCapacity_0f7a4_14 rfl (lv_at hl 1 rfl) ?_
  refine z_isub C dJ5_newCapacity_0f7a4_15 ?_
  refine lv_istore (lv' := [(4, .int (iZ ((q) - (((k : Nat) : Int))))), (3, .int (iZ (q))), (2, .int (iZ (((k : Nat) : Int)))), (0, .ref b), (1, .int (iZ (q)))]) C.1 C.2.1 dJ5_newCapacity_0f7a4_16 hl (by decide) rfl (fun ls hl => ?_)
  refine lv_iload_n C.1 C.2.1 dJ5_newCapacity_0f7a4_18 rfl (lv_at hl 2 rfl) ?_
  refine lv_iload C.1 C.2.1 dJ5_newCapacity_0f7a4_19 (lv_at hl 0 rfl) ?_
  refine lv_iload_n C.1 C.2.1 dJ5_newCapacity_0f7a4_21 rfl (lv_at hl 2 rfl) ?_
  refine z_iconst C dJ5_newCapacity_0f7a4_22 ?_
  refine lv_aload_n C.1 C.2.1 dJ5_newCapacity_0f7a4_23 rfl (lv_at hl 3 rfl) ?_
  refine zj_getC C B.1 fl_J5_22 dJ5_newCapacity_0f7a4_24 ?_
  refine z_ishl0 C dJ5_newCapacity_0f7a4_27 ?_
  refine z_iadd C dJ5_newCapacity_0f7a4_28 ?_
  refine z_call C (c_J8_newLength_cabcc l (((k : Nat) : Int)) ((q) - (((k : Nat) : Int))) ((((k : Nat) : Int)) + (2)) (by first | assumption | omega | rfl | exact decide_eq_false (by omega) | exact decide_eq_true (by assumption) | exact decide_eq_true (by omega) | exact one_shl33 (by omega) | exact pm_lt _ _ | exact rm_lt (by first | assumption | exact pm_lt _ _) | exact Nat.lt_of_le_of_lt (Nat.shiftRight_le _ _) (by assumption) | exact Nat.lt_of_le_of_lt Nat.and_le_right (by omega)) (by first | assumption | omega | rfl | exact decide_eq_false (by omega) | exact decide_eq_true (by assumption) | exact decide_eq_true (by omega) | exact one_shl33 (by omega) | exact pm_lt _ _ | exact rm_lt (by first | assumption | exact pm_lt _ _) | exact Nat.lt_of_le_of_lt (Nat.shiftRight_le _ _) (by assumption) | exact Nat.lt_of_le_of_lt Nat.and_le_right (by omega)) (by first | assumption | omega | rfl | exact decide_eq_false (by omega) | exact decide_eq_true (by assumption) | exact decide_eq_true (by omega) | exact one_shl33 (by omega) | exact pm_lt _ _ | exact rm_lt (by first | assumption | exact pm_lt _ _) | exact Nat.lt_of_le_of_lt (Nat.shiftRight_le _ _) (by assumption) | exact Nat.lt_of_le_of_lt Nat.and_le_right (by omega))) ml_J5_114 ⟨by decide, by decide⟩ ⟨Nat.le_of_ble_eq_true rfl, Nat.le_of_ble_eq_true rfl⟩ hl (Nat.le_of_ble_eq_true rfl) rfl dJ5_newCapacity_0f7a4_29 ?_
  have q29_0 := mxi_rng ((q) - (((k : Nat) : Int))) ((((k : Nat) : Int)) + (2))
  refine lv_istore (lv' := [(5, .int (iZ ((((k : Nat) : Int)) + mxi ((q) - (((k : Nat) : Int))) ((((k : Nat) : Int)) + (2))))), (4, .int (iZ ((q) - (((k : Nat) : Int))))), (3, .int (iZ (q))), (2, .int (iZ (((k : Nat) : Int)))), (0, .ref b), (1, .int (iZ (q)))]) C.1 C.2.1 dJ5_newCapacity_0f7a4_32 hl (by decide) rfl (fun ls hl => ?_)
  refine lv_iload C.1 C.2.1 dJ5_newCapacity_0f7a4_34 (lv_at hl 0 rfl) ?_
  refine z_ldc C (2147483647) ki_J5_39 rfl dJ5_newCapacity_0f7a4_36 ?_
  refine z_icmp_ne (tgt := 51) C (by omega) (by omega) dJ5_newCapacity_0f7a4_38 (by decide) (fun h38 => ?_) (fun h38 => ?_)
  · refine lv_iload C.1 C.2.1 dJ5_newCapacity_0f7a4_51 (lv_at hl 0 rfl) ?_
    refine lv_aload_n C.1 C.2.1 dJ5_newCapacity_0f7a4_53 rfl (lv_at hl 4 rfl) ?_
    refine zj_getC C B.1 fl_J5_22 dJ5_newCapacity_0f7a4_54 ?_
    refine z_ishr0 C dJ5_newCapacity_0f7a4_57 ?_
    exact zj_iret C B hr hk (Nat.le_of_ble_eq_true rfl) (Nat.le_of_ble_eq_true rfl) dJ5_newCapacity_0f7a4_58 (by exact congrArg (fun z : Int => some (Value.int (iZ z))) (by rw [ncp]; omega)) (by rfl) (by exact ⟨rfl, rfl⟩)
  · exfalso; omega

set_option maxHeartbeats 4000000 in
set_option maxRecDepth 100000 in
theorem c_J5_ensureCapacityInternal_d00df (l : Launch) (D : va_G) (cB : ClassId) (q : Int) (n k : Nat) (hq : 0 ≤ q ∧ q ≤ 255) (hk9 : k ≤ 520) : zBM l yJ5_ensureCapacityInternal_d00df 3 101 1 520 D cB [.int (iZ (q))] n k (fun _ _ => none) (n) (fun v v2 k2 => q ≤ (k2 : Int) ∧ (k2 = k ∨ (k2 : Int) ≤ 2 * q)) := by
  refine zBM.intro (lo := 79) (nA := 1) (own := RJ5) ⟨im_J5_ensureCapacityInternal_d00df, ini_J5, cd_J5_ensureCapacityInternal_d00df⟩ (by decide) rfl rfl (by decide +kernel) rfl (fun _ => Nat.le_of_ble_eq_true rfl) ?_
  intro b v0 p e s m below meth c0 ls C hr hk B V hl
  have hl : lv_has ls 3 [(0, .ref b), (1, .int (iZ (q)))] := hl
  refine lv_aload_n C.1 C.2.1 dJ5_ensureCapacityInternal_d00df_0 rfl (lv_at hl 0 rfl) ?_
  refine zj_getV C B.1 fl_J5_15 dJ5_ensureCapacityInternal_d00df_1 ?_
  refine zr_alen C B.1.1 dJ5_ensureCapacityInternal_d00df_4 ?_
  refine lv_aload_n C.1 C.2.1 dJ5_ensureCapacityInternal_d00df_5 rfl (lv_at hl 0 rfl) ?_
  refine zj_getC C B.1 fl_J5_22 dJ5_ensureCapacityInternal_d00df_6 ?_
  refine z_ishr0 C dJ5_ensureCapacityInternal_d00df_9 ?_
  refine lv_istore_n (lv' := [(2, .int (iZ (((k : Nat) : Int)))), (0, .ref b), (1, .int (iZ (q)))]) C.1 C.2.1 dJ5_ensureCapacityInternal_d00df_10 rfl hl (by decide) rfl (fun ls hl => ?_)
  refine lv_iload_n C.1 C.2.1 dJ5_ensureCapacityInternal_d00df_11 rfl (lv_at hl 2 rfl) ?_
  refine lv_iload_n C.1 C.2.1 dJ5_ensureCapacityInternal_d00df_12 rfl (lv_at hl 0 rfl) ?_
  refine z_isub C dJ5_ensureCapacityInternal_d00df_13 ?_
  refine z_if_le (tgt := 38) C (by omega) dJ5_ensureCapacityInternal_d00df_14 (by decide) (fun h14 => ?_) (fun h14 => ?_)
  · exact zj_vret C B hr hk (Nat.le_of_ble_eq_true rfl) (Nat.le_of_ble_eq_true rfl) dJ5_ensureCapacityInternal_d00df_38 (by rfl) (by rfl) (by show _ ≤ _ ∧ (_ ∨ _); omega)
  · refine lv_aload_n C.1 C.2.1 dJ5_ensureCapacityInternal_d00df_17 rfl (lv_at hl 1 rfl) ?_
    refine lv_aload_n C.1 C.2.1 dJ5_ensureCapacityInternal_d00df_18 rfl (lv_at hl 1 rfl) ?_
    refine zj_getV C B.1 fl_J5_15 dJ5_ensureCapacityInternal_d00df_19 ?_
    refine lv_aload_n C.1 C.2.1 dJ5_ensureCapacityInternal_d00df_22 rfl (lv_at hl 1 rfl) ?_
    refine lv_iload_n C.1 C.2.1 dJ5_ensureCapacityInternal_d00df_23 rfl (lv_at hl 2 rfl) ?_
    refine zj_callV C B V (c_J5_newCapacity_0f7a4 l D cB (q) (n) (k) (by first | assumption | omega | rfl | exact decide_eq_false (by omega) | exact decide_eq_true (by assumption) | exact decide_eq_true (by omega) | exact one_shl33 (by omega) | exact pm_lt _ _ | exact rm_lt (by first | assumption | exact pm_lt _ _) | exact Nat.lt_of_le_of_lt (Nat.shiftRight_le _ _) (by assumption) | exact Nat.lt_of_le_of_lt Nat.and_le_right (by omega)) (by first | assumption | omega | rfl | exact decide_eq_false (by omega) | exact decide_eq_true (by assumption) | exact decide_eq_true (by omega) | exact one_shl33 (by omega) | exact pm_lt _ _ | exact rm_lt (by first | assumption | exact pm_lt _ _) | exact Nat.lt_of_le_of_lt (Nat.shiftRight_le _ _) (by assumption) | exact Nat.lt_of_le_of_lt Nat.and_le_right (by omega))) ml_J5_104 (V.t.s2) ⟨Nat.le_of_ble_eq_true rfl, Nat.le_of_ble_eq_true rfl⟩ ⟨Nat.le_of_ble_eq_true rfl, Nat.le_of_ble_eq_true rfl⟩ hl (Nat.le_of_ble_eq_true rfl) rfl dJ5_ensureCapacityInternal_d00df_24 (fun v24 k24 H locs hp24 B => ?_)
    obtain ⟨rfl, rfl⟩ := hp24
    have q24_0 := ncpE (q) (k) (by omega)
    refine lv_aload_n C.1 C.2.1 dJ5_ensureCapacityInternal_d00df_27 rfl (lv_at hl 1 rfl) ?_
    refine zj_getC C B.1 fl_J5_22 dJ5_ensureCapacityInternal_d00df_28 ?_
    refine z_ishl0 C dJ5_ensureCapacityInternal_d00df_31 ?_
    refine zr_callN C B.1.1 V.2.2.2.2.2.2 B.2.1 (fun q h => Or.inr (Or.inr (Nat.le_trans B.2.1.1 h))) (c_J7_copyOf_9075b l D cB (k) (ncp (q) (k)) (by omega) (by omega) (by trivial)) ml_J5_108 ⟨Nat.le_of_ble_eq_true rfl, Nat.le_of_ble_eq_true rfl⟩ ⟨Nat.le_of_ble_eq_true rfl, Nat.le_of_ble_eq_true rfl⟩ hl (Nat.le_of_ble_eq_true rfl) rfl dJ5_ensureCapacityInternal_d00df_32 (fun w H1 locs1 hwn hw S1 hq hz => ?_)
    have hwn2 : s.heap.size ≤ w := Nat.le_trans B.2.1.1 hwn
    have hbw : b ≠ w := by have := B.1.lt.1; omega
    have B : zJn D cB b v0 v0 ((n)) k s H1 locs1 := ⟨B.1.kept (hq _ B.1.lt.1) (hq _ B.1.lt.2), S1, B.2.2⟩
    refine zj_putV C B.1 B.2.1 (Or.inl rfl) hw hbw fl_J5_15 dJ5_ensureCapacityInternal_d00df_35 (fun H locs B1 S1 => ?_)
    have B : zJn D cB b v0 w ((n)) (ncp (q) (k)) s H locs := ⟨B1, S1, (Or.inr hwn2)⟩
    exact zj_vret C B hr hk (Nat.le_of_ble_eq_true rfl) (Nat.le_of_ble_eq_true rfl) dJ5_ensureCapacityInternal_d00df_38 (by rfl) (by rfl) (by show _ ≤ _ ∧ (_ ∨ _); omega)

set_option maxHeartbeats 4000000 in
set_option maxRecDepth 100000 in
theorem c_J5_append_3fe6f (l : Launch) (D : va_G) (cB : ClassId) (z : Int) (n k : Nat) (hz : 0 ≤ z ∧ z ≤ 255) (hn : n ≤ 250) (hk9 : n ≤ k ∧ k ≤ 2 * n + 16) : zBM l yJ5_append_3fe6f 4 122 1 520 D cB [.int (iZ (z))] n k (fun b _ => some (.ref b)) (n + 1) (fun v v2 k2 => n + 1 ≤ k2 ∧ k2 ≤ 2 * (n + 1) + 16) := by
  refine zBM.intro (lo := 101) (nA := 1) (own := RJ5) ⟨im_J5_append_3fe6f, ini_J5, cd_J5_append_3fe6f⟩ (by decide) rfl rfl (by decide +kernel) rfl (fun _ => Nat.le_of_ble_eq_true rfl) ?_
  intro b v0 p e s m below meth c0 ls C hr hk B V hl
  have hl : lv_has ls 2 [(0, .ref b), (1, .int (iZ (z)))] := hl
  refine lv_aload_n C.1 C.2.1 dJ5_append_3fe6f_0 rfl (lv_at hl 0 rfl) ?_
  refine lv_aload_n C.1 C.2.1 dJ5_append_3fe6f_1 rfl (lv_at hl 0 rfl) ?_
  refine zj_getN C B.1 fl_J5_79 dJ5_append_3fe6f_2 ?_
  refine z_iconst C dJ5_append_3fe6f_5 ?_
  refine z_iadd C dJ5_append_3fe6f_6 ?_
  refine zj_callV C B V (c_J5_ensureCapacityInternal_d00df l D cB ((((n : Nat) : Int)) + (1)) (n) (k) (by first | assumption | omega | rfl | exact decide_eq_false (by omega) | exact decide_eq_true (by assumption) | exact decide_eq_true (by omega) | exact one_shl33 (by omega) | exact pm_lt _ _ | exact rm_lt (by first | assumption | exact pm_lt _ _) | exact Nat.lt_of_le_of_lt (Nat.shiftRight_le _ _) (by assumption) | exact Nat.lt_of_le_of_lt Nat.and_le_right (by omega)) (by first | assumption | omega | rfl | exact decide_eq_false (by omega) | exact decide_eq_true (by assumption) | exact decide_eq_true (by omega) | exact one_shl33 (by omega) | exact pm_lt _ _ | exact rm_lt (by first | assumption | exact pm_lt _ _) | exact Nat.lt_of_le_of_lt (Nat.shiftRight_le _ _) (by assumption) | exact Nat.lt_of_le_of_lt Nat.and_le_right (by omega))) ml_J5_100 (V.t.s1) ⟨Nat.le_of_ble_eq_true rfl, Nat.le_of_ble_eq_true rfl⟩ ⟨Nat.le_of_ble_eq_true rfl, Nat.le_of_ble_eq_true rfl⟩ hl (Nat.le_of_ble_eq_true rfl) rfl dJ5_append_3fe6f_7 (fun v7 k7 H locs hp7 B => ?_)
  have hp7 : ((((n : Nat) : Int)) + (1)) ≤ ((k7) : Int) ∧ ((k7) = (k) ∨ ((k7) : Int) ≤ 2 * ((((n : Nat) : Int)) + (1))) := hp7
  refine lv_aload_n C.1 C.2.1 dJ5_append_3fe6f_10 rfl (lv_at hl 0 rfl) ?_
  refine zj_callV C B V (c_J5_isLatin1_aae02 l D cB  ((n)) (k7) ) ml_J5_83 (C.2.2.2.2 _ (T0_of sl_J4_J5_isLatin1_aae02 rfl)) ⟨Nat.le_of_ble_eq_true rfl, Nat.le_of_ble_eq_true rfl⟩ ⟨Nat.le_of_ble_eq_true rfl, Nat.le_of_ble_eq_true rfl⟩ hl (Nat.le_of_ble_eq_true rfl) rfl dJ5_append_3fe6f_11 (fun v11 k11 H locs hp11 B => ?_)
  obtain ⟨rfl, rfl⟩ := hp11
  refine z_if_eq (tgt := 45) C (by omega) dJ5_append_3fe6f_14 (by decide) (fun h14 => ?_) (fun h14 => ?_)
  · exfalso; omega
  · refine lv_iload_n C.1 C.2.1 dJ5_append_3fe6f_17 rfl (lv_at hl 1 rfl) ?_
    refine z_call C (c_J1_canEncode_fc78d l (z) (by first | assumption | omega | rfl | exact decide_eq_false (by omega) | exact decide_eq_true (by assumption) | exact decide_eq_true (by omega) | exact one_shl33 (by omega) | exact pm_lt _ _ | exact rm_lt (by first | assumption | exact pm_lt _ _) | exact Nat.lt_of_le_of_lt (Nat.shiftRight_le _ _) (by assumption) | exact Nat.lt_of_le_of_lt Nat.and_le_right (by omega))) ml_J5_191 ⟨by decide, by decide⟩ ⟨Nat.le_of_ble_eq_true rfl, Nat.le_of_ble_eq_true rfl⟩ hl (Nat.le_of_ble_eq_true rfl) rfl dJ5_append_3fe6f_18 ?_
    refine z_ifB_eq (tgt := 45) C dJ5_append_3fe6f_21 (by decide) (fun h21 => ?_) (fun h21 => ?_)
    · exact absurd h21 (by decide)
    · refine lv_aload_n C.1 C.2.1 dJ5_append_3fe6f_24 rfl (lv_at hl 0 rfl) ?_
      refine zj_getV C B.1 fl_J5_15 dJ5_append_3fe6f_25 ?_
      refine lv_aload_n C.1 C.2.1 dJ5_append_3fe6f_28 rfl (lv_at hl 0 rfl) ?_
      refine lv_dup C.1 C.2.1 dJ5_append_3fe6f_29 rfl ?_
      refine zj_getN C B.1 fl_J5_79 dJ5_append_3fe6f_30 ?_
      refine lv_dup_x1 C.1 C.2.1 dJ5_append_3fe6f_33 rfl rfl ?_
      refine z_iconst C dJ5_append_3fe6f_34 ?_
      refine z_iadd C dJ5_append_3fe6f_35 ?_
      refine zj_putN C B.1 B.2.1 (Or.inl rfl) fl_J5_79 (n + 1) (by omega) dJ5_append_3fe6f_36 (fun H locs B1 S1 => ?_)
      have B : zJn D cB b v0 v7 (n + 1) k7 s H locs := ⟨B1, S1, B.2.2⟩
      refine lv_iload_n C.1 C.2.1 dJ5_append_3fe6f_39 rfl (lv_at hl 1 rfl) ?_
      refine lv_i2b C.1 C.2.1 dJ5_append_3fe6f_40 rfl ?_
      refine zr_bast C B.1.1 B.2.1 B.Av (((n))) (by omega) (by omega) (by omega) dJ5_append_3fe6f_41 (fun H locs R1 S1 hq => ?_)
      have B : zJn D cB b v0 v7 (n + 1) k7 s H locs := ⟨⟨R1, B.1.2.1, B.1.2.2.imp fun _ g => wK1 g (hq b B.1.2.1)⟩, S1, B.2.2⟩
      refine lv_goto (tgt := 75) C.1 C.2.1 dJ5_append_3fe6f_42 (by decide) ?_
      refine lv_aload_n C.1 C.2.1 dJ5_append_3fe6f_75 rfl (lv_at hl 0 rfl) ?_
      exact zj_aret C B hr (by first | exact Or.inl ⟨_, rfl⟩ | exact Or.inr ⟨_, rfl⟩) hk (Nat.le_of_ble_eq_true rfl) (Nat.le_of_ble_eq_true rfl) dJ5_append_3fe6f_76 (by rfl) (by rfl) (by show _ ∧ _; omega)

set_option maxHeartbeats 4000000 in
set_option maxRecDepth 100000 in
theorem c_J5_append_c97b9 (l : Launch) (D : va_G) (cB : ClassId) (z : Int) (n k : Nat) (hz : 0 ≤ z ∧ z ≤ 999) (hn : n ≤ 250) (hk9 : n ≤ k ∧ k ≤ 2 * n + 16) : zBM l yJ5_append_c97b9 4 124 1 520 D cB [.int (iZ (z))] n k (fun b _ => some (.ref b)) (n + (ssz z).toNat) (fun v v2 k2 => n + (ssz z).toNat ≤ k2 ∧ k2 ≤ 2 * (n + (ssz z).toNat) + 16) := by
  refine zBM.intro (lo := 101) (nA := 1) (own := RJ5) ⟨im_J5_append_c97b9, ini_J5, cd_J5_append_c97b9⟩ (by decide) rfl rfl (by decide +kernel) rfl (fun _ => Nat.le_of_ble_eq_true rfl) ?_
  intro b v0 p e s m below meth c0 ls C hr hk B V hl
  have hl : lv_has ls 4 [(0, .ref b), (1, .int (iZ (z)))] := hl
  refine lv_aload_n C.1 C.2.1 dJ5_append_c97b9_0 rfl (lv_at hl 0 rfl) ?_
  refine zj_getN C B.1 fl_J5_79 dJ5_append_c97b9_1 ?_
  refine lv_istore_n (lv' := [(2, .int (iZ (((n : Nat) : Int)))), (0, .ref b), (1, .int (iZ (z)))]) C.1 C.2.1 dJ5_append_c97b9_4 rfl hl (by decide) rfl (fun ls hl => ?_)
  refine lv_iload_n C.1 C.2.1 dJ5_append_c97b9_5 rfl (lv_at hl 0 rfl) ?_
  refine lv_iload_n C.1 C.2.1 dJ5_append_c97b9_6 rfl (lv_at hl 2 rfl) ?_
  refine z_call C (c_J6_stringSize_0f7a4 l (z) (by first | assumption | omega | rfl | exact decide_eq_false (by omega) | exact decide_eq_true (by assumption) | exact decide_eq_true (by omega) | exact one_shl33 (by omega) | exact pm_lt _ _ | exact rm_lt (by first | assumption | exact pm_lt _ _) | exact Nat.lt_of_le_of_lt (Nat.shiftRight_le _ _) (by assumption) | exact Nat.lt_of_le_of_lt Nat.and_le_right (by omega))) ml_J5_245 ⟨by decide, by decide⟩ ⟨Nat.le_of_ble_eq_true rfl, Nat.le_of_ble_eq_true rfl⟩ hl (Nat.le_of_ble_eq_true rfl) rfl dJ5_append_c97b9_7 ?_
  have q7_0 := ssz_rng (z)
  refine z_iadd C dJ5_append_c97b9_10 ?_
  refine lv_istore_n (lv' := [(3, .int (iZ ((((n : Nat) : Int)) + (ssz (z))))), (2, .int (iZ (((n : Nat) : Int)))), (0, .ref b), (1, .int (iZ (z)))]) C.1 C.2.1 dJ5_append_c97b9_11 rfl hl (by decide) rfl (fun ls hl => ?_)
  refine lv_aload_n C.1 C.2.1 dJ5_append_c97b9_12 rfl (lv_at hl 2 rfl) ?_
  refine lv_iload_n C.1 C.2.1 dJ5_append_c97b9_13 rfl (lv_at hl 0 rfl) ?_
  refine zj_callV C B V (c_J5_ensureCapacityInternal_d00df l D cB ((((n : Nat) : Int)) + (ssz (z))) (n) (k) (by first | assumption | omega | rfl | exact decide_eq_false (by omega) | exact decide_eq_true (by assumption) | exact decide_eq_true (by omega) | exact one_shl33 (by omega) | exact pm_lt _ _ | exact rm_lt (by first | assumption | exact pm_lt _ _) | exact Nat.lt_of_le_of_lt (Nat.shiftRight_le _ _) (by assumption) | exact Nat.lt_of_le_of_lt Nat.and_le_right (by omega)) (by first | assumption | omega | rfl | exact decide_eq_false (by omega) | exact decide_eq_true (by assumption) | exact decide_eq_true (by omega) | exact one_shl33 (by omega) | exact pm_lt _ _ | exact rm_lt (by first | assumption | exact pm_lt _ _) | exact Nat.lt_of_le_of_lt (Nat.shiftRight_le _ _) (by assumption) | exact Nat.lt_of_le_of_lt Nat.and_le_right (by omega))) ml_J5_100 (V.t.s1) ⟨Nat.le_of_ble_eq_true rfl, Nat.le_of_ble_eq_true rfl⟩ ⟨Nat.le_of_ble_eq_true rfl, Nat.le_of_ble_eq_true rfl⟩ hl (Nat.le_of_ble_eq_true rfl) rfl dJ5_append_c97b9_14 (fun v14 k14 H locs hp14 B => ?_)
  have hp14 : ((((n : Nat) : Int)) + (ssz (z))) ≤ ((k14) : Int) ∧ ((k14) = (k) ∨ ((k14) : Int) ≤ 2 * ((((n : Nat) : Int)) + (ssz (z)))) := hp14
  refine lv_aload_n C.1 C.2.1 dJ5_append_c97b9_17 rfl (lv_at hl 2 rfl) ?_
  refine zj_callV C B V (c_J5_isLatin1_aae02 l D cB  ((n)) (k14) ) ml_J5_83 (C.2.2.2.2 _ (T0_of sl_J4_J5_isLatin1_aae02 rfl)) ⟨Nat.le_of_ble_eq_true rfl, Nat.le_of_ble_eq_true rfl⟩ ⟨Nat.le_of_ble_eq_true rfl, Nat.le_of_ble_eq_true rfl⟩ hl (Nat.le_of_ble_eq_true rfl) rfl dJ5_append_c97b9_18 (fun v18 k18 H locs hp18 B => ?_)
  obtain ⟨rfl, rfl⟩ := hp18
  refine z_if_eq (tgt := 37) C (by omega) dJ5_append_c97b9_21 (by decide) (fun h21 => ?_) (fun h21 => ?_)
  · exfalso; omega
  · refine lv_iload_n C.1 C.2.1 dJ5_append_c97b9_24 rfl (lv_at hl 3 rfl) ?_
    refine lv_iload_n C.1 C.2.1 dJ5_append_c97b9_25 rfl (lv_at hl 0 rfl) ?_
    refine lv_aload_n C.1 C.2.1 dJ5_append_c97b9_26 rfl (lv_at hl 2 rfl) ?_
    refine zj_getV C B.1 fl_J5_15 dJ5_append_c97b9_27 ?_
    refine zr_callG C B.1.1 V B.2.1 B.Av (c_J6_getChars_ba4f3 l D cB (z) ((((n : Nat) : Int)) + (ssz (z))) k14 (by omega) (by omega) (by omega)) ml_J5_248 ⟨Nat.le_of_ble_eq_true rfl, Nat.le_of_ble_eq_true rfl⟩ ⟨Nat.le_of_ble_eq_true rfl, Nat.le_of_ble_eq_true rfl⟩ hl (Nat.le_of_ble_eq_true rfl) rfl dJ5_append_c97b9_30 (fun x H locs R1 S1 hq => ?_)
    have B : zJn D cB b v0 v14 (((n))) k14 s H locs := ⟨⟨R1, B.1.2.1, B.1.2.2.imp fun _ g => wK1 g (hq b B.1.2.1 B.1.lt.1)⟩, S1, B.2.2⟩
    refine lv_pop C.1 C.2.1 dJ5_append_c97b9_33 rfl ?_
    refine lv_goto (tgt := 48) C.1 C.2.1 dJ5_append_c97b9_34 (by decide) ?_
    refine lv_aload_n C.1 C.2.1 dJ5_append_c97b9_48 rfl (lv_at hl 2 rfl) ?_
    refine lv_iload_n C.1 C.2.1 dJ5_append_c97b9_49 rfl (lv_at hl 0 rfl) ?_
    refine zj_putN C B.1 B.2.1 (Or.inl rfl) fl_J5_79 (n + (ssz z).toNat) (by omega) dJ5_append_c97b9_50 (fun H locs B1 S1 => ?_)
    have B : zJn D cB b v0 v14 (n + (ssz z).toNat) k14 s H locs := ⟨B1, S1, B.2.2⟩
    refine lv_aload_n C.1 C.2.1 dJ5_append_c97b9_53 rfl (lv_at hl 2 rfl) ?_
    exact zj_aret C B hr (by first | exact Or.inl ⟨_, rfl⟩ | exact Or.inr ⟨_, rfl⟩) hk (Nat.le_of_ble_eq_true rfl) (Nat.le_of_ble_eq_true rfl) dJ5_append_c97b9_54 (by rfl) (by rfl) (by show _ ∧ _; omega)

set_option maxHeartbeats 4000000 in
set_option maxRecDepth 100000 in
theorem c_J5_reverse_278bc (l : Launch) (D : va_G) (cB : ClassId)  (n k : Nat) (hk9 : n ≤ k ∧ k ≤ 520) : zBM l yJ5_reverse_278bc 1 46 0 0 D cB [] n k (fun b _ => some (.ref b)) (n) (fun v v2 k2 => v = v2 ∧ k = k2) := by
  refine zBM.intro (lo := 20) (nA := 0) (own := RJ5) ⟨im_J5_reverse_278bc, ini_J5, cd_J5_reverse_278bc⟩ (by decide) rfl rfl (by decide +kernel) rfl (fun _ => Nat.le_of_ble_eq_true rfl) ?_
  intro b v0 p e s m below meth c0 ls C hr hk B V hl
  have hl : lv_has ls 7 [(0, .ref b)] := hl
  refine lv_aload_n C.1 C.2.1 dJ5_reverse_278bc_0 rfl (lv_at hl 0 rfl) ?_
  refine zj_getV C B.1 fl_J5_15 dJ5_reverse_278bc_1 ?_
  refine lv_astore_n (lv' := [(1, .ref v0), (0, .ref b)]) C.1 C.2.1 dJ5_reverse_278bc_4 rfl hl (by decide) rfl (fun ls hl => ?_)
  refine lv_aload_n C.1 C.2.1 dJ5_reverse_278bc_5 rfl (lv_at hl 1 rfl) ?_
  refine zj_getN C B.1 fl_J5_79 dJ5_reverse_278bc_6 ?_
  refine lv_istore_n (lv' := [(2, .int (iZ (((n : Nat) : Int)))), (1, .ref v0), (0, .ref b)]) C.1 C.2.1 dJ5_reverse_278bc_9 rfl hl (by decide) rfl (fun ls hl => ?_)
  refine lv_iload_n C.1 C.2.1 dJ5_reverse_278bc_10 rfl (lv_at hl 0 rfl) ?_
  refine z_iconst C dJ5_reverse_278bc_11 ?_
  refine z_isub C dJ5_reverse_278bc_12 ?_
  refine lv_istore_n (lv' := [(3, .int (iZ ((((n : Nat) : Int)) - (1)))), (2, .int (iZ (((n : Nat) : Int)))), (1, .ref v0), (0, .ref b)]) C.1 C.2.1 dJ5_reverse_278bc_13 rfl hl (by decide) rfl (fun ls hl => ?_)
  refine lv_aload_n C.1 C.2.1 dJ5_reverse_278bc_14 rfl (lv_at hl 3 rfl) ?_
  refine zj_callV C B V (c_J5_isLatin1_aae02 l D cB  (n) (k) ) ml_J5_83 (C.2.2.2.2 _ (T0_of sl_J4_J5_isLatin1_aae02 rfl)) ⟨Nat.le_of_ble_eq_true rfl, Nat.le_of_ble_eq_true rfl⟩ ⟨Nat.le_of_ble_eq_true rfl, Nat.le_of_ble_eq_true rfl⟩ hl (Nat.le_of_ble_eq_true rfl) rfl dJ5_reverse_278bc_15 (fun v15 k15 H locs hp15 B => ?_)
  obtain ⟨rfl, rfl⟩ := hp15
  refine z_if_eq (tgt := 68) C (by omega) dJ5_reverse_278bc_18 (by decide) (fun h18 => ?_) (fun h18 => ?_)
  · exfalso; omega
  · refine lv_iload_n C.1 C.2.1 dJ5_reverse_278bc_21 rfl (lv_at hl 0 rfl) ?_
    refine z_iconst C dJ5_reverse_278bc_22 ?_
    refine z_isub C dJ5_reverse_278bc_23 ?_
    refine z_iconst C dJ5_reverse_278bc_24 ?_
    refine z_ishr1 C (by omega) dJ5_reverse_278bc_25 ?_
    refine lv_istore (lv' := [(4, .int (iZ ((((((n : Nat) : Int)) - (1)) - (1)) / 2))), (3, .int (iZ ((((n : Nat) : Int)) - (1)))), (2, .int (iZ (((n : Nat) : Int)))), (1, .ref v0), (0, .ref b)]) C.1 C.2.1 dJ5_reverse_278bc_26 hl (by decide) rfl (fun ls hl => ?_)
    have L28 : ∀ (j : Nat) (j0 : Nat) (x4 : Int) (H : Heap) (locs : List Loc) (ls : Array Slot), j0 < j → (x4 + 1 = (j0 : Int)) → (x4 ≤ ((n : Int) - 2) / 2) → (zJn D cB b v0 v0 n k s H locs) → lv_has ls 7 [(0, .ref b), (1, .ref v0), (2, .int (iZ (((n : Nat) : Int)))), (3, .int (iZ ((((n : Nat) : Int)) - (1)))), (4, .int (iZ (x4)))] → W p l e { frames := 1, cells := 0, slots := 0, locals := 20 } s m (Value.ref b :: ([] : List Value)).toArray below meth c0 H locs (0 + 0) (0 + 0) (zB1 below D cB b v0 (Value.ref b :: ([] : List Value)).toArray s 0 0 (fun b _ => some (.ref b)) (n) (fun v v2 k2 => v = v2 ∧ k = k2)) (F0 m 28 ls []) := by
      intro j
      induction j with
      | zero => intro j0 x4 H locs ls hmu; exact absurd hmu (Nat.not_lt_zero _)
      | succ j ih28 =>
        intro j0 x4 H locs ls hmu i28_0 i28_1 B hl
        refine lv_iload C.1 C.2.1 dJ5_reverse_278bc_28 (lv_at hl 4 rfl) ?_
        refine z_if_lt (tgt := 65) C (by omega) dJ5_reverse_278bc_30 (by decide) (fun h30 => ?_) (fun h30 => ?_)
        · refine lv_goto (tgt := 73) C.1 C.2.1 dJ5_reverse_278bc_65 (by decide) ?_
          refine lv_aload_n C.1 C.2.1 dJ5_reverse_278bc_73 rfl (lv_at hl 0 rfl) ?_
          exact zj_aret C B hr (by first | exact Or.inl ⟨_, rfl⟩ | exact Or.inr ⟨_, rfl⟩) hk (Nat.le_of_ble_eq_true rfl) (Nat.le_of_ble_eq_true rfl) dJ5_reverse_278bc_74 (by rfl) (by rfl) (by exact ⟨rfl, rfl⟩)
        · refine lv_iload_n C.1 C.2.1 dJ5_reverse_278bc_33 rfl (lv_at hl 3 rfl) ?_
          refine lv_iload C.1 C.2.1 dJ5_reverse_278bc_34 (lv_at hl 4 rfl) ?_
          refine z_isub C dJ5_reverse_278bc_36 ?_
          refine lv_istore (lv' := [(5, .int (iZ (((((n : Nat) : Int)) - (1)) - (x4)))), (0, .ref b), (1, .ref v0), (2, .int (iZ (((n : Nat) : Int)))), (3, .int (iZ ((((n : Nat) : Int)) - (1)))), (4, .int (iZ (x4)))]) C.1 C.2.1 dJ5_reverse_278bc_37 hl (by decide) rfl (fun ls hl => ?_)
          refine lv_aload_n C.1 C.2.1 dJ5_reverse_278bc_39 rfl (lv_at hl 2 rfl) ?_
          refine lv_iload C.1 C.2.1 dJ5_reverse_278bc_40 (lv_at hl 5 rfl) ?_
          refine zr_bald C B.1.1 ((x4).toNat) (by omega) (by omega) (by omega) dJ5_reverse_278bc_42 (fun x42 => ?_)
          refine lv_istore (lv' := [(6, .int (x42)), (5, .int (iZ (((((n : Nat) : Int)) - (1)) - (x4)))), (0, .ref b), (1, .ref v0), (2, .int (iZ (((n : Nat) : Int)))), (3, .int (iZ ((((n : Nat) : Int)) - (1)))), (4, .int (iZ (x4)))]) C.1 C.2.1 dJ5_reverse_278bc_43 hl (by decide) rfl (fun ls hl => ?_)
          refine lv_aload_n C.1 C.2.1 dJ5_reverse_278bc_45 rfl (lv_at hl 3 rfl) ?_
          refine lv_iload C.1 C.2.1 dJ5_reverse_278bc_46 (lv_at hl 6 rfl) ?_
          refine lv_aload_n C.1 C.2.1 dJ5_reverse_278bc_48 rfl (lv_at hl 3 rfl) ?_
          refine lv_iload C.1 C.2.1 dJ5_reverse_278bc_49 (lv_at hl 1 rfl) ?_
          refine zr_bald C B.1.1 ((((((n : Nat) : Int)) - (1)) - (x4)).toNat) (by omega) (by omega) (by omega) dJ5_reverse_278bc_51 (fun x51 => ?_)
          refine zr_bast C B.1.1 B.2.1 B.Av ((x4).toNat) (by omega) (by omega) (by omega) dJ5_reverse_278bc_52 (fun H locs R1 S1 hq => ?_)
          have B : zJn D cB b v0 v0 ((n)) k s H locs := ⟨⟨R1, B.1.2.1, B.1.2.2.imp fun _ g => wK1 g (hq b B.1.2.1)⟩, S1, B.2.2⟩
          refine lv_aload_n C.1 C.2.1 dJ5_reverse_278bc_53 rfl (lv_at hl 3 rfl) ?_
          refine lv_iload C.1 C.2.1 dJ5_reverse_278bc_54 (lv_at hl 1 rfl) ?_
          refine lv_iload C.1 C.2.1 dJ5_reverse_278bc_56 (lv_at hl 0 rfl) ?_
          refine zr_bast C B.1.1 B.2.1 B.Av ((((((n : Nat) : Int)) - (1)) - (x4)).toNat) (by omega) (by omega) (by omega) dJ5_reverse_278bc_58 (fun H locs R1 S1 hq => ?_)
          have B : zJn D cB b v0 v0 ((n)) k s H locs := ⟨⟨R1, B.1.2.1, B.1.2.2.imp fun _ g => wK1 g (hq b B.1.2.1)⟩, S1, B.2.2⟩
          refine z_iinc (j := 6) (lv' := [(4, .int (iZ (x4 + (-1)))), (6, .int (x42)), (5, .int (iZ (((((n : Nat) : Int)) - (1)) - (x4)))), (0, .ref b), (1, .ref v0), (2, .int (iZ (((n : Nat) : Int)))), (3, .int (iZ ((((n : Nat) : Int)) - (1))))]) C dJ5_reverse_278bc_59 hl rfl (by decide) rfl (fun ls hl => ?_)
          refine lv_goto (tgt := 28) C.1 C.2.1 dJ5_reverse_278bc_62 (by decide) ?_
          obtain ⟨j1, rfl⟩ : ∃ g, j0 = g + 1 := ⟨j0 - 1, by omega⟩
          exact ih28 (j1) _ _ _ _ (by omega) (by omega) (by omega) B (lv_sub hl [3, 4, 5, 6, 0] rfl)
    exact L28 _ ((((n : Int) - 1 - 1) / 2 + 1).toNat) _ _ _ _ (by exact Nat.lt_succ_self _) (by omega) (by omega) B (lv_sub hl [4, 3, 2, 1, 0] rfl)

set_option maxHeartbeats 4000000 in
set_option maxRecDepth 100000 in
theorem c_J4_length_8abf5 (l : Launch) (D : va_G) (cB : ClassId)  (n k : Nat) : zBM l yJ4_length_8abf5 1 40 0 0 D cB [] n k (fun _ _ => some (.int (iZ (((n : Nat) : Int))))) (n) (fun v v2 k2 => v = v2 ∧ k = k2) := by
  refine zBM.intro (lo := 20) (nA := 0) (own := RJ4) ⟨zi_J4_length_8abf5.1, zi_J4_length_8abf5.2.2.1, zi_J4_length_8abf5.2.2.2⟩ (by decide) rfl rfl (by decide +kernel) rfl (fun _ => Nat.le_of_ble_eq_true rfl) ?_
  intro b v0 p e s m below meth c0 ls C hr hk B V hl
  have hl : lv_has ls 1 [(0, .ref b)] := hl
  refine lv_aload_n C.1 C.2.1 dJ4_length_8abf5_0 rfl (lv_at hl 0 rfl) ?_
  refine zj_callS C B V (c_J5_length_8abf5 l D cB  (n) (k) ) ml_J4_343 sm_J5_length_8abf5 sp_J4 (by decide) ⟨Nat.le_of_ble_eq_true rfl, Nat.le_of_ble_eq_true rfl⟩ ⟨Nat.le_of_ble_eq_true rfl, Nat.le_of_ble_eq_true rfl⟩ hl (Nat.le_of_ble_eq_true rfl) rfl dJ4_length_8abf5_1 (fun v1 k1 H locs hp1 B => ?_)
  obtain ⟨rfl, rfl⟩ := hp1
  exact zj_iret C B hr hk (Nat.le_of_ble_eq_true rfl) (Nat.le_of_ble_eq_true rfl) dJ4_length_8abf5_4 (by rfl) (by rfl) (by exact ⟨rfl, rfl⟩)

set_option maxHeartbeats 4000000 in
set_option maxRecDepth 100000 in
theorem c_J4_append_cf468 (l : Launch) (D : va_G) (cB : ClassId) (z : Int) (n k : Nat) (hz : 0 ≤ z ∧ z ≤ 255) (hn : n ≤ 250) (hk9 : n ≤ k ∧ k ≤ 2 * n + 16) : zBM l yJ4_append_cf468 5 143 1 520 D cB [.int (iZ (z))] n k (fun b _ => some (.ref b)) (n + 1) (fun v v2 k2 => n + 1 ≤ k2 ∧ k2 ≤ 2 * (n + 1) + 16) := by
  refine zBM.intro (lo := 122) (nA := 1) (own := RJ4) ⟨zi_J4_append_cf468.1, zi_J4_append_cf468.2.2.1, zi_J4_append_cf468.2.2.2⟩ (by decide) rfl rfl (by decide +kernel) rfl (fun _ => Nat.le_of_ble_eq_true rfl) ?_
  intro b v0 p e s m below meth c0 ls C hr hk B V hl
  have hl : lv_has ls 2 [(0, .ref b), (1, .int (iZ (z)))] := hl
  refine lv_aload_n C.1 C.2.1 dJ4_append_cf468_0 rfl (lv_at hl 0 rfl) ?_
  refine lv_iload_n C.1 C.2.1 dJ4_append_cf468_1 rfl (lv_at hl 1 rfl) ?_
  refine zj_callS C B V (c_J5_append_3fe6f l D cB (z) (n) (k) (by first | assumption | omega | rfl | exact decide_eq_false (by omega) | exact decide_eq_true (by assumption) | exact decide_eq_true (by omega) | exact one_shl33 (by omega) | exact pm_lt _ _ | exact rm_lt (by first | assumption | exact pm_lt _ _) | exact Nat.lt_of_le_of_lt (Nat.shiftRight_le _ _) (by assumption) | exact Nat.lt_of_le_of_lt Nat.and_le_right (by omega)) (by first | assumption | omega | rfl | exact decide_eq_false (by omega) | exact decide_eq_true (by assumption) | exact decide_eq_true (by omega) | exact one_shl33 (by omega) | exact pm_lt _ _ | exact rm_lt (by first | assumption | exact pm_lt _ _) | exact Nat.lt_of_le_of_lt (Nat.shiftRight_le _ _) (by assumption) | exact Nat.lt_of_le_of_lt Nat.and_le_right (by omega)) (by first | assumption | omega | rfl | exact decide_eq_false (by omega) | exact decide_eq_true (by assumption) | exact decide_eq_true (by omega) | exact one_shl33 (by omega) | exact pm_lt _ _ | exact rm_lt (by first | assumption | exact pm_lt _ _) | exact Nat.lt_of_le_of_lt (Nat.shiftRight_le _ _) (by assumption) | exact Nat.lt_of_le_of_lt Nat.and_le_right (by omega))) ml_J4_50 sm_J5_append_3fe6f sp_J4 (by decide) ⟨Nat.le_of_ble_eq_true rfl, Nat.le_of_ble_eq_true rfl⟩ ⟨Nat.le_of_ble_eq_true rfl, Nat.le_of_ble_eq_true rfl⟩ hl (Nat.le_of_ble_eq_true rfl) rfl dJ4_append_cf468_2 (fun v2 k2 H locs hp2 B => ?_)
  have hp2 : (n) + 1 ≤ (k2) ∧ (k2) ≤ 2 * ((n) + 1) + 16 := hp2
  refine lv_pop C.1 C.2.1 dJ4_append_cf468_5 rfl ?_
  refine lv_aload_n C.1 C.2.1 dJ4_append_cf468_6 rfl (lv_at hl 0 rfl) ?_
  exact zj_aret C B hr (by first | exact Or.inl ⟨_, rfl⟩ | exact Or.inr ⟨_, rfl⟩) hk (Nat.le_of_ble_eq_true rfl) (Nat.le_of_ble_eq_true rfl) dJ4_append_cf468_7 (by rfl) (by rfl) (by show _ ∧ _; omega)

set_option maxHeartbeats 4000000 in
set_option maxRecDepth 100000 in
theorem c_J4_append_bf812 (l : Launch) (D : va_G) (cB : ClassId) (z : Int) (n k : Nat) (hz : 0 ≤ z ∧ z ≤ 999) (hn : n ≤ 250) (hk9 : n ≤ k ∧ k ≤ 2 * n + 16) : zBM l yJ4_append_bf812 5 145 1 520 D cB [.int (iZ (z))] n k (fun b _ => some (.ref b)) (n + (ssz z).toNat) (fun v v2 k2 => n + (ssz z).toNat ≤ k2 ∧ k2 ≤ 2 * (n + (ssz z).toNat) + 16) := by
  refine zBM.intro (lo := 124) (nA := 1) (own := RJ4) ⟨zi_J4_append_bf812.1, zi_J4_append_bf812.2.2.1, zi_J4_append_bf812.2.2.2⟩ (by decide) rfl rfl (by decide +kernel) rfl (fun _ => Nat.le_of_ble_eq_true rfl) ?_
  intro b v0 p e s m below meth c0 ls C hr hk B V hl
  have hl : lv_has ls 2 [(0, .ref b), (1, .int (iZ (z)))] := hl
  refine lv_aload_n C.1 C.2.1 dJ4_append_bf812_0 rfl (lv_at hl 0 rfl) ?_
  refine lv_iload_n C.1 C.2.1 dJ4_append_bf812_1 rfl (lv_at hl 1 rfl) ?_
  refine zj_callS C B V (c_J5_append_c97b9 l D cB (z) (n) (k) (by first | assumption | omega | rfl | exact decide_eq_false (by omega) | exact decide_eq_true (by assumption) | exact decide_eq_true (by omega) | exact one_shl33 (by omega) | exact pm_lt _ _ | exact rm_lt (by first | assumption | exact pm_lt _ _) | exact Nat.lt_of_le_of_lt (Nat.shiftRight_le _ _) (by assumption) | exact Nat.lt_of_le_of_lt Nat.and_le_right (by omega)) (by first | assumption | omega | rfl | exact decide_eq_false (by omega) | exact decide_eq_true (by assumption) | exact decide_eq_true (by omega) | exact one_shl33 (by omega) | exact pm_lt _ _ | exact rm_lt (by first | assumption | exact pm_lt _ _) | exact Nat.lt_of_le_of_lt (Nat.shiftRight_le _ _) (by assumption) | exact Nat.lt_of_le_of_lt Nat.and_le_right (by omega)) (by first | assumption | omega | rfl | exact decide_eq_false (by omega) | exact decide_eq_true (by assumption) | exact decide_eq_true (by omega) | exact one_shl33 (by omega) | exact pm_lt _ _ | exact rm_lt (by first | assumption | exact pm_lt _ _) | exact Nat.lt_of_le_of_lt (Nat.shiftRight_le _ _) (by assumption) | exact Nat.lt_of_le_of_lt Nat.and_le_right (by omega))) ml_J4_53 sm_J5_append_c97b9 sp_J4 (by decide) ⟨Nat.le_of_ble_eq_true rfl, Nat.le_of_ble_eq_true rfl⟩ ⟨Nat.le_of_ble_eq_true rfl, Nat.le_of_ble_eq_true rfl⟩ hl (Nat.le_of_ble_eq_true rfl) rfl dJ4_append_bf812_2 (fun v2 k2 H locs hp2 B => ?_)
  have hp2 : (n) + (ssz (z)).toNat ≤ (k2) ∧ (k2) ≤ 2 * ((n) + (ssz (z)).toNat) + 16 := hp2
  refine lv_pop C.1 C.2.1 dJ4_append_bf812_5 rfl ?_
  refine lv_aload_n C.1 C.2.1 dJ4_append_bf812_6 rfl (lv_at hl 0 rfl) ?_
  exact zj_aret C B hr (by first | exact Or.inl ⟨_, rfl⟩ | exact Or.inr ⟨_, rfl⟩) hk (Nat.le_of_ble_eq_true rfl) (Nat.le_of_ble_eq_true rfl) dJ4_append_bf812_7 (by rfl) (by rfl) (by show _ ∧ _; omega)

set_option maxHeartbeats 4000000 in
set_option maxRecDepth 100000 in
theorem c_J4_reverse_43fcb (l : Launch) (D : va_G) (cB : ClassId)  (n k : Nat) (hk9 : n ≤ k ∧ k ≤ 520) : zBM l yJ4_reverse_43fcb 2 66 0 0 D cB [] n k (fun b _ => some (.ref b)) (n) (fun v v2 k2 => v = v2 ∧ k = k2) := by
  refine zBM.intro (lo := 46) (nA := 0) (own := RJ4) ⟨zi_J4_reverse_43fcb.1, zi_J4_reverse_43fcb.2.2.1, zi_J4_reverse_43fcb.2.2.2⟩ (by decide) rfl rfl (by decide +kernel) rfl (fun _ => Nat.le_of_ble_eq_true rfl) ?_
  intro b v0 p e s m below meth c0 ls C hr hk B V hl
  have hl : lv_has ls 1 [(0, .ref b)] := hl
  refine lv_aload_n C.1 C.2.1 dJ4_reverse_43fcb_0 rfl (lv_at hl 0 rfl) ?_
  refine zj_callS C B V (c_J5_reverse_278bc l D cB  (n) (k) (by first | assumption | omega | rfl | exact decide_eq_false (by omega) | exact decide_eq_true (by assumption) | exact decide_eq_true (by omega) | exact one_shl33 (by omega) | exact pm_lt _ _ | exact rm_lt (by first | assumption | exact pm_lt _ _) | exact Nat.lt_of_le_of_lt (Nat.shiftRight_le _ _) (by assumption) | exact Nat.lt_of_le_of_lt Nat.and_le_right (by omega))) ml_J4_127 sm_J5_reverse_278bc sp_J4 (by decide) ⟨Nat.le_of_ble_eq_true rfl, Nat.le_of_ble_eq_true rfl⟩ ⟨Nat.le_of_ble_eq_true rfl, Nat.le_of_ble_eq_true rfl⟩ hl (Nat.le_of_ble_eq_true rfl) rfl dJ4_reverse_43fcb_1 (fun v1 k1 H locs hp1 B => ?_)
  obtain ⟨rfl, rfl⟩ := hp1
  refine lv_pop C.1 C.2.1 dJ4_reverse_43fcb_4 rfl ?_
  refine lv_aload_n C.1 C.2.1 dJ4_reverse_43fcb_5 rfl (lv_at hl 0 rfl) ?_
  exact zj_aret C B hr (by first | exact Or.inl ⟨_, rfl⟩ | exact Or.inr ⟨_, rfl⟩) hk (Nat.le_of_ble_eq_true rfl) (Nat.le_of_ble_eq_true rfl) dJ4_reverse_43fcb_6 (by rfl) (by rfl) (by exact ⟨rfl, rfl⟩)

end JC
/-! ===== constructors; toString ===== -/
section CA
/-- a constructor: of an object b of which P holds it makes one of which Q holds -/
def zNM (l : Launch) (y : MethodName) (fr need mc ms : Nat) (as : List Value) (P : Nat → State → Heap → Prop) (Q : Nat → Nat → State → Heap → Prop) (F : Nat → Nat → Nat → Prop) : Prop :=
  ∃ (bytes : ByteArray) (maxL lo : Nat), zN y bytes maxL ∧ need = 8 + (maxL + 11) + lo ∧
    (y.cls ≠ "java/lang/invoke/MethodHandle" ∧ y.cls ≠ "java/lang/invoke/VarHandle" ∧ (parseMethodDescriptor y.desc).map (fun d => d.parameters.length) = some as.length) ∧ y.name = "<init>" ∧
    (∀ b (s U : State) H, s.WarmedH U.vm → P b s H → P b U H) ∧ (∀ b sz (s U : State) H, s.vm.Alike U.vm → Q b sz s H → Q b sz U H) ∧
    ∀ b sz : Nat, Met l y (Cond.code y bytes maxL none :: T0) { frames := fr, cells := mc, slots := ms, locals := lo } (fun a U => a = (Value.ref b :: as).toArray ∧ U.heap.size = sz ∧ P b U U.heap)
      (fun _ st oc t => oc = .returned none ∧ Q b sz t t.heap ∧ va_F (F b sz) st t) mc ms (F b sz)
theorem zNM.intro {l : Launch} {y : MethodName} {fr need lo nA mc ms : Nat} {as : List Value} {P : Nat → State → Heap → Prop} {Q : Nat → Nat → State → Heap → Prop} {F : Nat → Nat → Nat → Prop} {cc : ByteArray} {maxL : Nat} {own : String}
    (hz : zN y cc maxL) (hy : plainName y.cls = true) (ho : own = y.cls) (hn : need = 8 + (maxL + 11) + lo)
    (hd : y.cls ≠ "java/lang/invoke/MethodHandle" ∧ y.cls ≠ "java/lang/invoke/VarHandle" ∧ (parseMethodDescriptor y.desc).map (fun d => d.parameters.length) = some nA) (hA : as.length = nA) (hle : ∀ b, (lg_sl (.ref b :: as)).length ≤ maxL) (hni : y.name = "<init>")
    (hP : ∀ b (s U : State) H, s.WarmedH U.vm → P b s H → P b U H) (hQ : ∀ b sz (s U : State) H, s.vm.Alike U.vm → Q b sz s H → Q b sz U H)
    (body : ∀ (b : Nat) (p : Program) (e : Env) (s : State) (m : MethodId) (below : List Frame) (meth : Method) (c : Code) (ls : Array Slot), CallFix p m c cc maxL s (Value.ref b :: as).toArray T0 own → meth.sig.returnType = none → meth.locks = false → meth.name = "<init>" → P b s s.heap → lv_has ls maxL (lv_args 0 (.ref b :: as)) →
      W p l e { frames := fr, cells := mc, slots := ms, locals := lo } s m (Value.ref b :: as).toArray below meth c s.heap [] 0 0 (MQ below (fun _ st oc t => oc = .returned none ∧ Q b s.heap.size t t.heap ∧ va_F (F b s.heap.size) st t) (Value.ref b :: as).toArray s mc ms (F b s.heap.size)) (F0 m 0 ls [])) : zNM l y fr need mc ms as P Q F := by
  subst hA
  refine ⟨cc, maxL, lo, hz, hn, hd, hni, hP, hQ, fun b sz => ?_⟩
  refine Met.ofW (ws' := T0) hy rfl ?_
  intro p e s m args below meth c s₁ B hml hv
  obtain ⟨hv, hsz, hAt⟩ := hv
  subst hv
  subst hsz
  have hts := atoms_spec (ws := Cond.code y cc maxL none :: T0) B.pre
  have hown : s.vm.findClass own = some m.cls := by rw [ho]; exact findClass_of_methodNamed B.named
  have hin : meth.name = "<init>" := (name_of_methodNamed B.named B.method).1.trans hni
  rw [lg_entry_eq]
  exact body b p e s m below meth c _ ⟨B.exec, B.bytes, hml, hown, fun w h => hts w (List.mem_cons_of_mem _ h)⟩ B.returns B.notSynchronized hin hAt (lv_entry (.ref b :: as) (hle b))
end CA
section CB
variable {p : Program} {l : Launch} {e : Env} {R : Room} {s : State} {m : MethodId} {args : Array Value} {below : List Frame} {meth : Method} {c : Code} {H : Heap} {locs : List Loc} {cells slots : Nat} {Qw : State → Prop}
variable {cc : ByteArray} {pc nL : Nat} {ls : Array Slot} {rest st : List Value} {own : String} {lv : List (Nat × Value)} {D : va_G} {cB : ClassId} {A : Nat → Prop} {b v v0 n k sz : Nat}
theorem zn_call (C : CallFix p m c cc nL s args T0 own) {P : Nat → State → Heap → Prop} {Q : Nat → Nat → State → Heap → Prop} {F : Nat → Nat → Nat → Prop} (hP : P b s H) (hS : va_S A s.heap H locs) (hA : ∀ q, F b H.size q → A q) {y : MethodName} {fr need mc ms idx : Nat} {as : List Value} (hM : zNM l y fr need mc ms as P Q F) (hG : Cond.methodLink own idx y ∈ lw_tbl)
    (hR : fr + 1 ≤ R.frames ∧ need ≤ R.locals) (hf : cells + mc ≤ R.cells ∧ slots + ms ≤ R.slots) (hl : lv_has ls nL lv) (hcat : (rest.map fun v => v.category).sum ≤ 8) (hst : st = as.reverse ++ .ref b :: rest) (d : decode cc pc = .ok (.invokespecial idx, 3))
    (kk : ∀ H1 locs1, Q b H.size s H1 → va_S A s.heap H1 locs1 → (∀ q : Nat, q < H.size → ¬ F b H.size q → H1[q]? = H[q]?) → H.size ≤ H1.size → W p l e R s m args below meth c H1 locs1 (cells + mc) (slots + ms) Qw (F0 m (pc + 3) ls rest)) : W p l e R s m args below meth c H locs cells slots Qw (F0 m pc ls st) := by
  obtain ⟨bytes, maxL, lo, hz, hn, hd, hni, hPm, hQm, hM⟩ := hM
  have hM := hM b H.size
  have cw := cwI (R := R) (s := s) (args := args) (own := own) (index := idx) (y := y) (bytes := bytes) (maxL := maxL) (ws := Cond.code y bytes maxL none :: T0) (ws' := T0) (rm := { frames := fr, cells := mc, slots := ms, locals := lo }) (mc := mc) (ms := ms) as.length C.2.2.2.2 (zgB hz.2.2) rfl rfl rfl (C.2.2.2.2 _ (T0_of hz.2.1 rfl)) (C.2.2.2.2 _ (T0_of hG rfl)) (C.2.2.2.2 _ (T0_of hz.1 rfl)) hni hd ⟨hR.1, by rw [hn] at hR; exact hR.2⟩
  have hr := va_runI (p := p) (l := l) (e := e) (below := below) (meth := meth) (c := c) (H := H) (locs := locs) (cells := cells) (slots := slots) (g := F0 m pc ls st) (rest := rest) (b := b) (As := as) C hM cw ⟨fun A U g mk q => ⟨q.1, q.2.1, hPm b U (U.calling g mk A) U.heap (State.WarmedH.refl U) q.2.2⟩, fun U hU hW => ⟨rfl, by rw [hU], by rw [hU]; exact hPm b s U H hW hP⟩⟩ rfl rfl hl.1 hst (lv_room hcat) d hf
  intro T9 hT X
  obtain ⟨v9, st₀, t, T', L, h0, X', hL, e1, e2, ⟨hv, hQ, hF⟩, st2⟩ := hr T9 hT X
  cases hv
  obtain ⟨hz2, hk2⟩ := hF
  rw [h0] at hz2 hk2
  have hss : s.heap.size ≤ H.size := hS.1
  have hS2 : va_S A s.heap T'.heap (locs ++ L) := by
    refine ⟨Nat.le_trans hss (by rw [e1]; exact hz2), fun q h1 h2 => ?_, fun q hq => ?_⟩
    · rw [e1, hk2 q (Nat.lt_of_lt_of_le h1 hss) (fun z => h2 (hA q z))]
      exact hS.2.1 q h1 h2
    · rcases List.mem_append.mp hq with h | h
      · exact hS.2.2 q h
      · exact hA _ (hL q h)
  obtain ⟨t2, a1, b1⟩ := kk T'.heap (locs ++ L) (by rw [e1]; exact hQm b H.size t s t.heap (by rw [← e2]; exact X'.warmed.alike.symm) hQ) hS2 (fun q h1 h2 => by rw [e1]; exact hk2 q h1 h2) (by rw [e1]; exact hz2) T' rfl X'
  exact ⟨t2, st2 t2 a1, b1⟩
/-- an object is made -/
theorem za_new (C : CallFix p m c cc nL s args T0 own) {Cn : String} {T : u_T} {N ci idx : Nat} (hin : ∀ w ∈ u_ws Cn T N, w ∈ T0) (ty0 : Nat → FieldType) (hty : ∀ k, k < N → parseFieldDescriptor (T k).2.2.1 = some (ty0 k)) (hcl : Cond.classLink own idx Cn ∈ lw_tbl) (hinst : Cond.instantiable Cn N ∈ lw_tbl) (hini : Cond.initialized Cn ∈ lw_tbl)
    {tys : List (ClassId × FieldType)} (hK : va_K D vwCl tys s) (hS : va_S A s.heap H locs) (hc : vwCl[ci]? = some (Cn, T, N)) {fs : List Value} (hfs : ∀ j, j < N → defaultValue (ty0 j) = vp_V fs j) (hcells : cells + 1 ≤ R.cells) (hslots : slots + N ≤ R.slots) (d : decode cc pc = .ok (.new idx, 3))
    (kk : ∀ H1, va_P D vwCl [(H.size, .inr (ci, fs))] H1 → va_S A s.heap H1 locs → (∀ x : Nat, x < H.size → H1[x]? = H[x]?) → H1.size = H.size + 1 → W p l e R s m args below meth c H1 locs (cells + 1) (slots + N) Qw (F0 m (pc + 3) ls (.ref H.size :: rest))) : W p l e R s m args below meth c H locs cells slots Qw (F0 m pc ls rest) := by
  have hKn := hK.1 ci _ hc
  refine W.newcK C.1 C.2.1 C.2.2.2.1 (C.2.2.2.2 _ (T0_of hcl rfl)) (C.2.2.2.2 _ (T0_of hinst rfl)) (C.2.2.2.2 _ (T0_of hini rfl)) (g := F0 m pc ls rest) rfl d hcells hslots hKn.2.1 rfl fun H1 kC hkC e1 z1 o1 => ?_
  exact kk H1 (wP1 ⟨_, hc, (u_born ty0 C.2.2.2.2 hin hKn hkC e1 hty).to hfs⟩) ⟨Nat.le_trans hS.1 (by omega), fun x h1 h2 => (o1 x (Nat.lt_of_lt_of_le h1 hS.1)).trans (hS.2.1 x h1 h2), hS.2.2⟩ o1 z1
end CB
section CC
def zI5 (D : va_G) (cB : ClassId) (b : Nat) (U : State) (H : Heap) : Prop := va_P D vwCl [(b, .inr (1, [.null, .int 0, .int 0, .int 0]))] H ∧ va_K D vwCl [(cB, .byte)] U ∧ zV (fun q => q = b) U H
theorem zI5.warm {D : va_G} {cB : ClassId} (b : Nat) (s U : State) (H : Heap) (hW : s.WarmedH U.vm) (h : zI5 D cB b s H) : zI5 D cB b U H := ⟨h.1, va_K.moved hW.alike h.2.1, h.2.2.warm hW⟩
def zQ5 (D : va_G) (cB : ClassId) (b sz : Nat) (U : State) (H : Heap) : Prop := ∃ v, AtB D cB b v 0 16 U H ∧ sz ≤ v
theorem zQ5.moved {D : va_G} {cB : ClassId} (b sz : Nat) (s U : State) (H : Heap) (hW : s.vm.Alike U.vm) (h : zQ5 D cB b sz s H) : zQ5 D cB b sz U H := h.imp fun _ g => ⟨g.1.moved hW, g.2⟩
def zF1 (b sz : Nat) : Nat → Prop := fun q => q = b ∨ sz ≤ q
set_option maxHeartbeats 4000000 in
theorem c_J5_init_d00df (l : Launch) (D : va_G) (cB : ClassId) : zNM l yJ5_init_d00df 1 61 1 16 [.int (iZ 16)] (zI5 D cB) (zQ5 D cB) zF1 := by
  refine zNM.intro (lo := 40) (nA := 1) (own := RJ5) zi_J5_init_d00df (by decide) rfl rfl (by decide +kernel) rfl (fun _ => Nat.le_of_ble_eq_true rfl) rfl zI5.warm zQ5.moved ?_
  intro b p e s m below meth c ls C hr hk hin hP hl
  obtain ⟨hP, hK, V⟩ := hP
  have V : zV (zF1 b s.heap.size) s s.heap := V.nar (fun q h1 h2 => h2.elim id (fun h => absurd h1 (by omega)))
  have hl : lv_has ls 2 [(0, .ref b), (1, .int (iZ 16))] := hl
  have hbl : b < s.heap.size := (hP 0 _ rfl).lt
  refine lv_aload_n C.1 C.2.1 dJ5_init_d00df_0 rfl (lv_at hl 0 rfl) ?_
  refine W.objInit C.1 C.2.1 C.2.2.2.1 (C.2.2.2.2 _ (T0_of my_J5_3 rfl)) (C.2.2.2.2 _ (T0_of im_java_lang_Object_init rfl)) (C.2.2.2.2 _ (T0_of cd_oi rfl)) rfl (hl.1.trans C.2.2.1.symm) rfl dJ5_init_d00df_1 (Nat.le_of_ble_eq_true rfl) (Nat.le_of_ble_eq_true rfl) ?_
  refine W.eq (g2 := F0 m 4 ls []) rfl ?_
  refine zv_cs C V va_S.rf fl_J5_18 dJ5_init_d00df_4 ?_
  refine z_if_eq (tgt := 25) C (by omega) dJ5_init_d00df_7 (by decide) (fun h => absurd h (by decide)) (fun _ => ?_)
  refine lv_aload_n C.1 C.2.1 dJ5_init_d00df_10 rfl (lv_at hl 0 rfl) ?_
  refine lv_iload_n C.1 C.2.1 dJ5_init_d00df_11 rfl (lv_at hl 1 rfl) ?_
  refine zr_newb (A := zF1 b s.heap.size) C hK va_S.rf 16 rfl (by omega) (Nat.le_of_ble_eq_true rfl) (Nat.le_of_ble_eq_true rfl) dJ5_init_d00df_12 (fun w H1 hw hW S1 ho hz => ?_)
  refine za_put C inJ4 tyJ4 tyJ4_ok nmJ4 hK (wK1 hP (ho b hbl)) S1 (Or.inl rfl) rfl 0 (by decide) fl_J5_15 rfl rfl (ty := .array .byte) rfl rfl rfl (Nat.le_of_ble_eq_true rfl) dJ5_init_d00df_14 (fun H2 locs2 hP2 S2 hq2 hz2 => ?_)
  refine lv_aload_n C.1 C.2.1 dJ5_init_d00df_17 rfl (lv_at hl 0 rfl) ?_
  refine z_iconst C dJ5_init_d00df_18 ?_
  refine za_put C inJ4 tyJ4 tyJ4_ok nmJ4 hK hP2 S2 (Or.inl rfl) rfl 1 (by decide) fl_J5_22 rfl rfl (ty := .byte) rfl rfl rfl (Nat.le_of_ble_eq_true rfl) dJ5_init_d00df_19 (fun H3 locs3 hP3 S3 hq3 hz3 => ?_)
  refine lv_goto (tgt := 38) C.1 C.2.1 dJ5_init_d00df_22 (by decide) ?_
  have hbw : b ≠ w := by omega
  have hB : AtB D cB b w 0 16 s H3 := ⟨(hW.kept (hq2 w (Ne.symm hbw))).kept (hq3 w (Ne.symm hbw)), hbw, 0, hP3⟩
  exact W.vret C.1 C.2.1 hr (fun t ht hW9 => ⟨rfl, ⟨w, by rw [ht]; exact hB.moved hW9.alike, hw⟩, S3.F ht⟩) S3.2.2 dJ5_init_d00df_38 hk
set_option maxHeartbeats 4000000 in
theorem c_J4_init_da8c8 (l : Launch) (D : va_G) (cB : ClassId) : zNM l yJ4_init_da8c8 2 81 1 16 [] (zI5 D cB) (zQ5 D cB) zF1 := by
  refine zNM.intro (lo := 61) (nA := 0) (own := RJ4) zi_J4_init_da8c8 (by decide) rfl rfl (by decide +kernel) rfl (fun _ => Nat.le_of_ble_eq_true rfl) rfl zI5.warm zQ5.moved ?_
  intro b p e s m below meth c ls C hr hk hin hP hl
  have hl : lv_has ls 1 [(0, .ref b)] := hl
  refine lv_aload_n C.1 C.2.1 dJ4_init_da8c8_0 rfl (lv_at hl 0 rfl) ?_
  refine z_bipush C dJ4_init_da8c8_1 (by decide) ?_
  refine zn_call (A := zF1 b s.heap.size) C hP va_S.rf (fun q h => h) (c_J5_init_d00df l D cB) ml_J4_1 ⟨Nat.le_of_ble_eq_true rfl, Nat.le_of_ble_eq_true rfl⟩ ⟨Nat.le_of_ble_eq_true rfl, Nat.le_of_ble_eq_true rfl⟩ hl (Nat.le_of_ble_eq_true rfl) rfl dJ4_init_da8c8_3 (fun H1 locs1 hQ S1 _ _ => ?_)
  exact W.vret C.1 C.2.1 hr (fun t ht hW9 => ⟨rfl, by rw [ht]; exact zQ5.moved b _ s t H1 hW9.alike hQ, S1.F ht⟩) S1.2.2 dJ4_init_da8c8_6 hk
/-- a String made out of a builder -/
def zI0 (D : va_G) (cB : ClassId) (b v n k : Nat) (q : Nat) (U : State) (H : Heap) : Prop := va_P D vwCl [(q, .inr (0, [.null, .int 0, .int 0, .int 0]))] H ∧ AtB D cB b v n k U H ∧ (q ≠ b ∧ q ≠ v) ∧ zV (fun x => x = q ∨ x = b ∨ x = v) U H
theorem zI0.warm {D : va_G} {cB : ClassId} {b v n k : Nat} (q : Nat) (s U : State) (H : Heap) (hW : s.WarmedH U.vm) (h : zI0 D cB b v n k q s H) : zI0 D cB b v n k q U H := ⟨h.1, h.2.1.moved hW.alike, h.2.2.1, h.2.2.2.warm hW⟩
def zF3 (b v : Nat) (q sz : Nat) : Nat → Prop := fun x => x = q ∨ x = b ∨ x = v ∨ sz ≤ x
set_option maxHeartbeats 4000000 in
theorem c_J0_init_db425 (l : Launch) (D : va_G) (cB : ClassId) (b v n k : Nat) (hnk : n ≤ k ∧ k ≤ 520) : zNM l yJ0_init_db425 3 124 1 520 [.ref b, .null] (zI0 D cB b v n k) (fun _ _ _ _ => True) (zF3 b v) := by
  refine zNM.intro (lo := 100) (nA := 2) (own := RJ0) zi_J0_init_db425 (by decide) rfl rfl (by decide +kernel) rfl (fun _ => Nat.le_of_ble_eq_true rfl) rfl zI0.warm (fun _ _ _ _ _ _ h => h) ?_
  intro q p e s m below meth c ls C hr hk hin hP hl
  obtain ⟨hP, B, ⟨hqb, hqv⟩, V⟩ := hP
  have V : zV (zF3 b v q s.heap.size) s s.heap := V.nar (fun x h1 h2 => by rcases h2 with h2 | h2 | h2 | h2; exact Or.inl h2; exact Or.inr (Or.inl h2); exact Or.inr (Or.inr h2); omega)
  have hl : lv_has ls 5 [(0, .ref q), (1, .ref b), (2, .null)] := hl
  have hAq : zF3 b v q s.heap.size q := Or.inl rfl
  have hAz : ∀ x, zF b v s.heap.size x → zF3 b v q s.heap.size x := fun x h => by rcases h with h | h | h; exact Or.inr (Or.inl h); exact Or.inr (Or.inr (Or.inl h)); exact Or.inr (Or.inr (Or.inr h))
  refine lv_aload_n C.1 C.2.1 dJ0_init_db425_0 rfl (lv_at hl 0 rfl) ?_
  refine W.objInit C.1 C.2.1 C.2.2.2.1 (C.2.2.2.2 _ (T0_of my_J0_1 rfl)) (C.2.2.2.2 _ (T0_of im_java_lang_Object_init rfl)) (C.2.2.2.2 _ (T0_of cd_oi rfl)) rfl (hl.1.trans C.2.2.1.symm) rfl dJ0_init_db425_1 (Nat.le_of_ble_eq_true rfl) (Nat.le_of_ble_eq_true rfl) ?_
  refine W.eq (g2 := F0 m 4 ls []) rfl ?_
  refine lv_aload_n C.1 C.2.1 dJ0_init_db425_4 rfl (lv_at hl 1 rfl) ?_
  refine zb_callV C B V va_S.rf hAz (c_J5_getValue_6d5f1 l D cB n k) ml_J0_552 (C.2.2.2.2 _ (T0_of sl_J4_J5_getValue_6d5f1 rfl)) ⟨Nat.le_of_ble_eq_true rfl, Nat.le_of_ble_eq_true rfl⟩ ⟨Nat.le_of_ble_eq_true rfl, Nat.le_of_ble_eq_true rfl⟩ hl (Nat.le_of_ble_eq_true rfl) rfl dJ0_init_db425_5 (fun v2 k2 H1 locs1 hp hv B1 S1 hq1 hz1 => ?_)
  obtain ⟨rfl, rfl⟩ := hp
  have hP1 := wK1 hP (hq1 q (hP 0 _ rfl).lt (fun z => z.elim hqb hqv))
  refine lv_astore_n (lv' := [(3, .ref v), (0, .ref q), (1, .ref b), (2, .null)]) C.1 C.2.1 dJ0_init_db425_8 rfl hl (by decide) rfl (fun ls hl => ?_)
  refine lv_aload_n C.1 C.2.1 dJ0_init_db425_9 rfl (lv_at hl 2 rfl) ?_
  refine zb_callO (x := yJ5_length_8abf5) C B1 V S1 (fun x h => hAz x (by rcases h with h | h | h; exact Or.inl h; exact Or.inr (Or.inl h); exact Or.inr (Or.inr (Nat.le_trans hz1 h)))) (c_J4_length_8abf5 l D cB n k) ml_J0_549 sm_J5_length_8abf5 im_J5_length_8abf5 cd_J5_length_8abf5 sl_J4_J5_length_8abf5 (by decide +kernel) ⟨Nat.le_of_ble_eq_true rfl, Nat.le_of_ble_eq_true rfl⟩ ⟨Nat.le_of_ble_eq_true rfl, Nat.le_of_ble_eq_true rfl⟩ hl (Nat.le_of_ble_eq_true rfl) rfl dJ0_init_db425_10 (fun v3 k3 H2 locs2 hp hv B2 S2 hq2 hz2 => ?_)
  obtain ⟨rfl, rfl⟩ := hp
  have hP2 := wK1 hP1 (hq2 q (hP1 0 _ rfl).lt (fun z => z.elim hqb hqv))
  refine lv_istore (lv' := [(4, .int (iZ (n : Int))), (3, .ref v), (0, .ref q), (1, .ref b), (2, .null)]) C.1 C.2.1 dJ0_init_db425_13 hl (by decide) rfl (fun ls hl => ?_)
  refine lv_aload_n C.1 C.2.1 dJ0_init_db425_15 rfl (lv_at hl 3 rfl) ?_
  refine zb_callV C B2 V S2 (fun x h => hAz x (by rcases h with h | h | h; exact Or.inl h; exact Or.inr (Or.inl h); exact Or.inr (Or.inr (Nat.le_trans hz1 (Nat.le_trans hz2 h))))) (c_J5_isLatin1_aae02 l D cB n k) ml_J0_1047 (C.2.2.2.2 _ (T0_of sl_J4_J5_isLatin1_aae02 rfl)) ⟨Nat.le_of_ble_eq_true rfl, Nat.le_of_ble_eq_true rfl⟩ ⟨Nat.le_of_ble_eq_true rfl, Nat.le_of_ble_eq_true rfl⟩ hl (Nat.le_of_ble_eq_true rfl) rfl dJ0_init_db425_16 (fun v4 k4 H3 locs3 hp hv B3 S3 hq3 hz3 => ?_)
  obtain ⟨rfl, rfl⟩ := hp
  have hP3 := wK1 hP2 (hq3 q (hP2 0 _ rfl).lt (fun z => z.elim hqb hqv))
  refine z_if_eq (tgt := 41) C (by omega) dJ0_init_db425_19 (by decide) (fun h => absurd h (by decide)) (fun _ => ?_)
  refine lv_aload_n C.1 C.2.1 dJ0_init_db425_22 rfl (lv_at hl 2 rfl) ?_
  refine z_iconst C dJ0_init_db425_23 ?_
  refine za_putF C hin inJ0 tyJ0 tyJ0_ok nmJ0 B3.1.K hP3 S3 hAq rfl 1 (by decide) fl_J0_15 rfl rfl rfl (ty := .byte) rfl rfl rfl (Nat.le_of_ble_eq_true rfl) dJ0_init_db425_24 (fun H4 locs4 hP4 S4 hq4 hz4 => ?_)
  have B4 := B3.kept (hq4 b (Ne.symm hqb)) (hq4 v (Ne.symm hqv))
  refine lv_aload_n C.1 C.2.1 dJ0_init_db425_27 rfl (lv_at hl 2 rfl) ?_
  refine lv_aload_n C.1 C.2.1 dJ0_init_db425_28 rfl (lv_at hl 1 rfl) ?_
  refine z_iconst C dJ0_init_db425_29 ?_
  refine lv_iload C.1 C.2.1 dJ0_init_db425_30 (lv_at hl 0 rfl) ?_
  refine zr_callN C B4.1 V.t S4 (fun x h => Or.inr (Or.inr (Or.inr (Nat.le_trans S4.1 h)))) (c_J7_copyOfRange_39247 l D cB k n hnk.1 hnk.2) ml_J0_54 ⟨Nat.le_of_ble_eq_true rfl, Nat.le_of_ble_eq_true rfl⟩ ⟨Nat.le_of_ble_eq_true rfl, Nat.le_of_ble_eq_true rfl⟩ hl (Nat.le_of_ble_eq_true rfl) rfl dJ0_init_db425_32 (fun w H5 locs5 hw hW S5 ho5 hz5 => ?_)
  have hP5 := wK1 hP4 (ho5 q (hP4 0 _ rfl).lt)
  refine za_putF C hin inJ0 tyJ0 tyJ0_ok nmJ0 B3.1.K hP5 S5 hAq rfl 0 (by decide) fl_J0_9 rfl rfl rfl (ty := .array .byte) rfl rfl rfl (Nat.le_of_ble_eq_true rfl) dJ0_init_db425_35 (fun H6 locs6 hP6 S6 hq6 hz6 => ?_)
  refine lv_goto (tgt := 97) C.1 C.2.1 dJ0_init_db425_38 (by decide) ?_
  exact W.vret C.1 C.2.1 hr (fun t ht hW9 => ⟨rfl, trivial, S6.F ht⟩) S6.2.2 dJ0_init_db425_97 hk
set_option maxHeartbeats 4000000 in
theorem c_J0_init_81219 (l : Launch) (D : va_G) (cB : ClassId) (b v n k : Nat) (hnk : n ≤ k ∧ k ≤ 520) : zNM l yJ0_init_81219 4 145 1 520 [.ref b] (zI0 D cB b v n k) (fun _ _ _ _ => True) (zF3 b v) := by
  refine zNM.intro (lo := 124) (nA := 1) (own := RJ0) zi_J0_init_81219 (by decide) rfl rfl (by decide +kernel) rfl (fun _ => Nat.le_of_ble_eq_true rfl) rfl zI0.warm (fun _ _ _ _ _ _ h => h) ?_
  intro q p e s m below meth c ls C hr hk hin hP hl
  have hl : lv_has ls 2 [(0, .ref q), (1, .ref b)] := hl
  refine lv_aload_n C.1 C.2.1 dJ0_init_81219_0 rfl (lv_at hl 0 rfl) ?_
  refine lv_aload_n C.1 C.2.1 dJ0_init_81219_1 rfl (lv_at hl 1 rfl) ?_
  refine lv_null C.1 C.2.1 dJ0_init_81219_2 ?_
  refine zn_call (A := zF3 b v q s.heap.size) C hP va_S.rf (fun q h => h) (c_J0_init_db425 l D cB b v n k hnk) ml_J0_489 ⟨Nat.le_of_ble_eq_true rfl, Nat.le_of_ble_eq_true rfl⟩ ⟨Nat.le_of_ble_eq_true rfl, Nat.le_of_ble_eq_true rfl⟩ hl (Nat.le_of_ble_eq_true rfl) rfl dJ0_init_81219_3 (fun H1 locs1 _ S1 _ _ => ?_)
  exact W.vret C.1 C.2.1 hr (fun t ht hW9 => ⟨rfl, trivial, S1.F ht⟩) S1.2.2 dJ0_init_81219_6 hk
end CC
/-! ===== rows for methods that write texts ===== -/
section TA9
/-- toString of a builder -/
def zTO (l : Launch) (fr need mc ms : Nat) (D : va_G) (cB : ClassId) (n k : Nat) : Prop :=
  ∃ lo : Nat, need = 8 + (1 + 11) + lo ∧ ∀ b v sz : Nat, Met l yJ4_toString_0e30d (Cond.code yJ4_toString_0e30d cJ4_toString_0e30d 1 (some (.object "java/lang/String")) :: T0) { frames := fr, cells := mc, slots := ms, locals := lo } (fun a U => a = ([.ref b] : List Value).toArray ∧ U.heap.size = sz ∧ AtB D cB b v n k U U.heap ∧ zV (fun x => x = b ∨ x = v) U U.heap)
    (fun _ st oc t => (∃ q, oc = .returned (some (.ref q))) ∧ va_F (zF b v sz) st t) mc ms (zF b v sz)
theorem zdef0 : ∀ j, j < 4 → defaultValue (tyJ0 j) = vp_V [.null, .int 0, .int 0, .int 0] j := by
  intro j hj
  match j, hj with
  | 0, _ => rfl
  | 1, _ => rfl
  | 2, _ => rfl
  | 3, _ => rfl
theorem zdef4 : ∀ j, j < 4 → defaultValue (tyJ4 j) = vp_V [.null, .int 0, .int 0, .int 0] j := by
  intro j hj
  match j, hj with
  | 0, _ => rfl
  | 1, _ => rfl
  | 2, _ => rfl
  | 3, _ => rfl
set_option maxHeartbeats 4000000 in
theorem c_J4_toString_0e30d (l : Launch) (D : va_G) (cB : ClassId) (n k : Nat) (hnk : n ≤ k ∧ k ≤ 520) : zTO l 5 165 2 524 D cB n k := by
  refine ⟨145, rfl, fun b v sz => ?_⟩
  refine Met.ofW (ws' := T0) (by decide) rfl ?_
  intro p e s m args below meth c s₁ B9 hml hv
  obtain ⟨hv, hsz, B, V⟩ := hv
  subst hv
  subst hsz
  have hts := atoms_spec (ws := Cond.code yJ4_toString_0e30d cJ4_toString_0e30d 1 (some (.object "java/lang/String")) :: T0) B9.pre
  have hown : s.vm.findClass RJ4 = some m.cls := findClass_of_methodNamed B9.named
  rw [lg_entry_eq]
  have C : CallFix p m c cJ4_toString_0e30d 1 s ([.ref b] : List Value).toArray T0 RJ4 := ⟨B9.exec, B9.bytes, hml, hown, fun w h => hts w (List.mem_cons_of_mem _ h)⟩
  have hr := B9.returns
  have hk := B9.notSynchronized
  have hl : lv_has _ 1 [(0, .ref b)] := lv_entry ([.ref b] : List Value) (n := 1) (Nat.le_of_ble_eq_true rfl)
  generalize (lg_sl ([.ref b] : List Value) ++ List.replicate (1 - (lg_sl ([.ref b] : List Value)).length) Slot.unset).toArray = ls at hl ⊢
  have V2 : zV (zF b v s.heap.size) s s.heap := V.nar (fun q h1 h2 => by rcases h2 with h2 | h2 | h2; exact Or.inl h2; exact Or.inr h2; omega)
  have hb := B.lt
  refine za_new (A := zF b v s.heap.size) (ci := 0) C inJ0 tyJ0 tyJ0_ok cl_J4_18 it_J0 ini_J0 B.1.K va_S.rf rfl zdef0 (Nat.le_of_ble_eq_true rfl) (Nat.le_of_ble_eq_true rfl) dJ4_toString_0e30d_0 (fun H1 hP S1 ho hz => ?_)
  refine lv_dup C.1 C.2.1 dJ4_toString_0e30d_3 rfl ?_
  refine lv_aload_n C.1 C.2.1 dJ4_toString_0e30d_4 rfl (lv_at hl 0 rfl) ?_
  refine zn_call (A := zF b v s.heap.size) C (⟨hP, B.kept (ho b hb.1) (ho v hb.2), ⟨by omega, by omega⟩, by
    have h9 := V2.kept S1.2.1
    exact h9.nar (fun x h1 h2 => by rcases h2 with h2 | h2 | h2; exact Or.inr (Or.inr (by omega)); exact Or.inl h2; exact Or.inr (Or.inl h2))⟩ : zI0 D cB b v n k s.heap.size s H1) S1 (fun x h => by rcases h with h | h | h | h; exact Or.inr (Or.inr (by omega)); exact Or.inl h; exact Or.inr (Or.inl h); exact Or.inr (Or.inr (by omega))) (c_J0_init_81219 l D cB b v n k hnk) ml_J4_137 ⟨Nat.le_of_ble_eq_true rfl, Nat.le_of_ble_eq_true rfl⟩ ⟨Nat.le_of_ble_eq_true rfl, Nat.le_of_ble_eq_true rfl⟩ hl (Nat.le_of_ble_eq_true rfl) rfl dJ4_toString_0e30d_5 (fun H2 locs2 _ S2 _ _ => ?_)
  exact W.aret C.1 C.2.1 hr (Or.inl ⟨_, rfl⟩) (Or.inr ⟨_, rfl⟩) (fun t ht hW9 => ⟨⟨_, rfl⟩, S2.F ht⟩) S2.2.2 dJ4_toString_0e30d_8 hk
/-- inside a method that writes a text into a builder of its own -/
def zTn (A : Nat → Prop) (D : va_G) (cB : ClassId) (b v n k : Nat) (s : State) (H : Heap) (locs : List Loc) : Prop := AtB D cB b v n k s H ∧ va_S A s.heap H locs ∧ s.heap.size ≤ b ∧ s.heap.size ≤ v
theorem zTn.sub {A : Nat → Prop} {D : va_G} {cB : ClassId} {b v n k : Nat} {s : State} {H : Heap} {locs : List Loc} (B : zTn A D cB b v n k s H locs) (hA : ∀ q, s.heap.size ≤ q → A q) : ∀ q, zF b v H.size q → A q := by
  intro q h
  rcases h with h | h | h
  · rw [h]; exact hA _ B.2.2.1
  · rw [h]; exact hA _ B.2.2.2
  · exact hA _ (Nat.le_trans B.2.1.1 h)
theorem zTn.nxt {A : Nat → Prop} {D : va_G} {cB : ClassId} {b v n k v2 n2 k2 : Nat} {s : State} {H H1 : Heap} {locs locs1 : List Loc} (B : zTn A D cB b v n k s H locs) (h1 : v2 = v ∨ H.size ≤ v2) (h2 : AtB D cB b v2 n2 k2 s H1) (h3 : va_S A s.heap H1 locs1) : zTn A D cB b v2 n2 k2 s H1 locs1 :=
  ⟨h2, h3, B.2.2.1, h1.elim (fun h => by rw [h]; exact B.2.2.2) (fun h => Nat.le_trans B.2.1.1 h)⟩
/-- a static method that answers a text, and changes nothing -/
def zTS (l : Launch) (y : MethodName) (fr need mc ms : Nat) (D : va_G) (cB : ClassId) (as : List Value) : Prop :=
  ∃ (bytes : ByteArray) (maxL lo : Nat) (ret : Option FieldType), zS y bytes maxL ret ∧ need = 8 + (maxL + 11) + lo ∧
    (y.cls ≠ "java/lang/invoke/MethodHandle" ∧ y.cls ≠ "java/lang/invoke/VarHandle" ∧ (parseMethodDescriptor y.desc).map (fun d => d.parameters.length) = some as.length) ∧
    ∀ sz : Nat, Met l y (Cond.code y bytes maxL ret :: T0) { frames := fr, cells := mc, slots := ms, locals := lo } (fun a U => a = as.toArray ∧ U.heap.size = sz ∧ va_K D vwCl [(cB, .byte)] U ∧ zV (fun _ => False) U U.heap)
      (fun _ st oc t => (∃ q, oc = .returned (some (.ref q))) ∧ va_F (fun z => sz ≤ z) st t) mc ms (fun z => sz ≤ z)
abbrev zT1 (below : List Frame) (av : Array Value) (s : State) (mc ms : Nat) : State → Prop := MQ below (fun _ st oc t => (∃ q, oc = .returned (some (.ref q))) ∧ va_F (fun z => s.heap.size ≤ z) st t) av s mc ms (fun z => s.heap.size ≤ z)
theorem zTS.intro {l : Launch} {y : MethodName} {fr need lo nA mc ms : Nat} {D : va_G} {cB : ClassId} {as : List Value} {cc : ByteArray} {maxL : Nat} {ret : Option FieldType} {own : String} (hz : zS y cc maxL ret) (hy : plainName y.cls = true) (ho : own = y.cls) (hn : need = 8 + (maxL + 11) + lo)
    (hd : y.cls ≠ "java/lang/invoke/MethodHandle" ∧ y.cls ≠ "java/lang/invoke/VarHandle" ∧ (parseMethodDescriptor y.desc).map (fun d => d.parameters.length) = some nA) (hA : as.length = nA) (hle : (lg_sl as).length ≤ maxL)
    (body : ∀ (p : Program) (e : Env) (s : State) (m : MethodId) (below : List Frame) (meth : Method) (c : Code) (ls : Array Slot), CallFix p m c cc maxL s as.toArray T0 own → meth.sig.returnType = ret → meth.locks = false → va_K D vwCl [(cB, .byte)] s → zV (fun z => s.heap.size ≤ z) s s.heap → va_S (fun z => s.heap.size ≤ z) s.heap s.heap [] → lv_has ls maxL (lv_args 0 as) →
      W p l e { frames := fr, cells := mc, slots := ms, locals := lo } s m as.toArray below meth c s.heap [] 0 0 (zT1 below as.toArray s mc ms) (F0 m 0 ls [])) : zTS l y fr need mc ms D cB as := by
  subst hA
  refine ⟨cc, maxL, lo, ret, hz, hn, hd, fun sz => ?_⟩
  refine Met.ofW (ws' := T0) hy rfl ?_
  intro p e s m args below meth c s₁ B hml hv
  obtain ⟨hv, hsz, hK, hV⟩ := hv
  subst hv
  subst hsz
  have hts := atoms_spec (ws := Cond.code y cc maxL ret :: T0) B.pre
  have hown : s.vm.findClass own = some m.cls := by rw [ho]; exact findClass_of_methodNamed B.named
  rw [lg_entry_eq]
  exact body p e s m below meth c _ ⟨B.exec, B.bytes, hml, hown, fun w h => hts w (List.mem_cons_of_mem _ h)⟩ B.returns B.notSynchronized hK (hV.nar (fun q h1 h2 => by omega)) va_S.rf (lv_entry as hle)
/-- a quotient by what isn't ONE or ZERO is less -/
theorem fq_rng {a b : Nat} (ha : a < 512) (h2 : 2 ≤ a) (hb : 2 ≤ b ∧ b ≤ 512) : tp (qo a b) + 1 ≤ tp a ∧ qo a b < 512 := by
  have h3 := tp_2 h2
  have h4 := tp_2 hb.1
  have h5 : tp a ≤ (8 : Nat) := (tp_le (n := a) (k := 8)).mpr (by omega)
  by_cases hq : qo a b = 0
  · rw [hq, tp_0]
    exact ⟨by omega, by omega⟩
  · have h6 := qo_tp (a := a) (b := b) (by omega) (by omega) (by omega) hq
    exact ⟨by omega, (tp_le (n := qo a b) (k := 8)).mp (by omega)⟩
end TA9
section TB9
variable {p : Program} {l : Launch} {e : Env} {R : Room} {s : State} {m : MethodId} {args : Array Value} {below : List Frame} {meth : Method} {c : Code} {H : Heap} {locs : List Loc} {cells slots : Nat} {Qw : State → Prop}
variable {cc : ByteArray} {pc nL : Nat} {ls : Array Slot} {rest st : List Value} {own : String} {lv : List (Nat × Value)} {D : va_G} {cB : ClassId} {A : Nat → Prop} {b v v0 n k sz : Nat}
/-- new StringBuilder() -/
theorem zt_new (C : CallFix p m c cc nL s args T0 own) (K : va_K D vwCl [(cB, .byte)] s) (V : zV A s s.heap) (hS : va_S A s.heap H locs) (hA : ∀ q, s.heap.size ≤ q → A q) {i1 i2 : Nat} (hcl : Cond.classLink own i1 RJ4 ∈ lw_tbl) (hml : Cond.methodLink own i2 yJ4_init_da8c8 ∈ lw_tbl) (hR : 3 ≤ R.frames ∧ 81 ≤ R.locals) (hf : cells + 2 ≤ R.cells ∧ slots + 20 ≤ R.slots) (hl : lv_has ls nL lv) (hcat : (rest.map fun v => v.category).sum ≤ 7)
    (d0 : decode cc pc = .ok (.new i1, 3)) (d3 : decode cc (pc + 3) = .ok (.dup, 1)) (d4 : decode cc (pc + 4) = .ok (.invokespecial i2, 3))
    (kk : ∀ b v H1 locs1, zTn A D cB b v 0 16 s H1 locs1 → (∀ q : Nat, q < H.size → H1[q]? = H[q]?) → W p l e R s m args below meth c H1 locs1 (cells + 2) (slots + 20) Qw (F0 m (pc + 7) ls (.ref b :: rest))) : W p l e R s m args below meth c H locs cells slots Qw (F0 m pc ls rest) := by
  have hss := hS.1
  refine za_new (A := A) (ci := 1) C inJ4 tyJ4 tyJ4_ok hcl it_J4 ini_J4 K hS rfl zdef4 (by omega) (by omega) d0 (fun H1 hP S1 ho hz => ?_)
  refine lv_dup C.1 C.2.1 d3 rfl ?_
  refine zn_call (A := A) (P := zI5 D cB) (Q := zQ5 D cB) (F := zF1) C (⟨hP, K, (V.kept S1.2.1).nar (fun x h1 h2 => by rw [h2]; exact hA _ hss)⟩ : zI5 D cB H.size s H1) S1 (fun x h => h.elim (fun h => by rw [h]; exact hA _ hss) (fun h => hA _ (by omega))) (c_J4_init_da8c8 l D cB) hml ⟨by omega, by omega⟩ ⟨by omega, by omega⟩ hl (by rw [List.map_cons, List.sum_cons]; show 1 + _ ≤ 8; omega) rfl d4 (fun H2 locs2 hQ S2 hq2 hz2 => ?_)
  obtain ⟨v, hB, hv⟩ := hQ
  exact kk H.size v H2 locs2 ⟨hB, S2, hss, by omega⟩ (fun q hq => (hq2 q (by omega) (fun h => h.elim (fun h => by omega) (fun h => by omega))).trans (ho q hq))
theorem zt_call (C : CallFix p m c cc nL s args T0 own) (B : zTn A D cB b v n k s H locs) (V : zV A s s.heap) (hA : ∀ q, s.heap.size ≤ q → A q) {y : MethodName} {fr need mc ms idx : Nat} {as : List Value} {rv : Nat → Nat → Option Value} {n2 : Nat} {post : Nat → Nat → Nat → Prop} (hM : zBM l y fr need mc ms D cB as n k rv n2 post) (hG : Cond.methodLink own idx y ∈ lw_tbl) (hsel : (Cond.selects RJ4 y y).before args s = true)
    (hR : fr + 1 ≤ R.frames ∧ need ≤ R.locals) (hf : cells + mc ≤ R.cells ∧ slots + ms ≤ R.slots) (hl : lv_has ls nL lv) (hcat : (rest.map fun v => v.category).sum ≤ 8) (hst : st = as.reverse ++ .ref b :: rest) (d : decode cc pc = .ok (.invokevirtual idx, 3))
    (kk : ∀ v2 k2 H1 locs1, post v v2 k2 → zTn A D cB b v2 n2 k2 s H1 locs1 → (∀ q : Nat, q < H.size → ¬ (q = b ∨ q = v) → H1[q]? = H[q]?) → W p l e R s m args below meth c H1 locs1 (cells + mc) (slots + ms) Qw (F0 m (pc + 3) ls ((rv b v2).toList ++ rest))) : W p l e R s m args below meth c H locs cells slots Qw (F0 m pc ls st) :=
  zb_callV C B.1 V B.2.1 (B.sub hA) hM hG hsel hR hf hl hcat hst d (fun v2 m2 H1 locs1 hp hv hB hS hq _ => kk v2 m2 H1 locs1 hp (B.nxt hv hB hS) hq)
theorem zt_str (C : CallFix p m c cc nL s args T0 own) (B : zTn A D cB b v n k s H locs) (V : zV A s s.heap) (hA : ∀ q, s.heap.size ≤ q → A q) {fr need mc ms idx : Nat} (hM : zTO l fr need mc ms D cB n k) (hG : Cond.methodLink own idx yJ4_toString_0e30d ∈ lw_tbl)
    (hR : fr + 1 ≤ R.frames ∧ need ≤ R.locals) (hf : cells + mc ≤ R.cells ∧ slots + ms ≤ R.slots) (hl : lv_has ls nL lv) (hcat : (rest.map fun v => v.category).sum ≤ 8) (d : decode cc pc = .ok (.invokevirtual idx, 3))
    (kk : ∀ q H1 locs1, va_S A s.heap H1 locs1 → (∀ q : Nat, q < H.size → ¬ (q = b ∨ q = v) → H1[q]? = H[q]?) → W p l e R s m args below meth c H1 locs1 (cells + mc) (slots + ms) Qw (F0 m (pc + 3) ls (.ref q :: rest))) : W p l e R s m args below meth c H locs cells slots Qw (F0 m pc ls (.ref b :: rest)) := by
  obtain ⟨lo, hn, hM⟩ := hM
  have hM := hM b v H.size
  have hAz := B.sub hA
  have hS := B.2.1
  have cw : CallW R s args own RJ4 idx yJ4_toString_0e30d cJ4_toString_0e30d 1 (some (.object "java/lang/String")) (Cond.code yJ4_toString_0e30d cJ4_toString_0e30d 1 (some (.object "java/lang/String")) :: T0) { frames := fr, cells := mc, slots := ms, locals := lo } mc ms 0 :=
    ⟨callB_of 0 C.2.2.2.2 (zgB zi_J4_toString_0e30d.2.2.2) rfl rfl rfl (C.2.2.2.2 _ (T0_of ini_J4 rfl)) (C.2.2.2.2 _ (T0_of hG rfl)) (by decide +kernel) ⟨hR.1, by rw [hn] at hR; exact hR.2⟩, C.2.2.2.2 _ (T0_of im_J4_toString_0e30d rfl), C.2.2.2.2 _ (T0_of zi_J4_toString_0e30d.2.1 rfl)⟩
  obtain ⟨⟨b1, b2, ml, b3⟩, -⟩ := B
  have hr := va_runV (p := p) (l := l) (e := e) (below := below) (meth := meth) (c := c) (H := H) (locs := locs) (cells := cells) (slots := slots) (g := F0 m pc ls (.ref b :: rest)) (rest := rest) (As := []) C hM cw ⟨fun A U g mk q => ⟨q.1, q.2.1, q.2.2.1.moved (U := U.calling g mk A) (Vm.Alike.refl U.vm), q.2.2.2.warm (State.WarmedH.refl U)⟩, va_recv b1.K b3 (ci := 1) (q0 := 0) rfl rfl, fun U hU hW => ⟨rfl, by rw [hU], by rw [hU]; exact (show AtB D cB b v n k s H from ⟨b1, b2, ml, b3⟩).moved hW.alike, V.at hS hW hU (fun q hq => Or.inl (hAz q (hq.elim Or.inl (fun z => Or.inr (Or.inl z)))))⟩⟩ rfl rfl hl.1 rfl (lv_room hcat) d hf
  intro T9 hT X
  obtain ⟨v9, st₀, t, T', L, h0, X', hL, e1, e2, ⟨⟨q9, hv⟩, hF⟩, st2⟩ := hr T9 hT X
  cases hv
  obtain ⟨hz2, hk2⟩ := hF
  rw [h0] at hz2 hk2
  have hss : s.heap.size ≤ H.size := hS.1
  have hS2 : va_S A s.heap T'.heap (locs ++ L) := by
    refine ⟨Nat.le_trans hss (by rw [e1]; exact hz2), fun q h1 h2 => ?_, fun q hq => ?_⟩
    · rw [e1, hk2 q (Nat.lt_of_lt_of_le h1 hss) (fun z => h2 (hAz q z))]
      exact hS.2.1 q h1 h2
    · rcases List.mem_append.mp hq with h | h
      · exact hS.2.2 q h
      · exact hAz _ (hL q h)
  obtain ⟨t2, a1, b1⟩ := kk q9 T'.heap (locs ++ L) hS2 (fun q h1 h2 => by rw [e1]; exact hk2 q h1 (fun z => by rcases z with z | z | z; exact h2 (Or.inl z); exact h2 (Or.inr z); omega)) T' rfl X'
  exact ⟨t2, st2 t2 a1, b1⟩
theorem zt_ldc (C : CallFix p m c cc nL s args T0 own) {idx : Nat} {tx : String} (hR : ∃ a, vk_R own idx tx a s) (d : decode cc pc = .ok (.ldc idx, 2))
    (kk : ∀ q, W p l e R s m args below meth c H locs cells slots Qw (F0 m (pc + 2) ls (.ref q :: rest))) : W p l e R s m args below meth c H locs cells slots Qw (F0 m pc ls rest) := by
  obtain ⟨q, hq⟩ := hR
  exact va_ldcS C.1 C.2.1 C.2.2.2.1 hq d (kk q)
theorem zt_aret {as : List Value} {mc ms q : Nat} (C : CallFix p m c cc nL s as.toArray T0 own) (hS : va_S (fun z => s.heap.size ≤ z) s.heap H locs) (hr : meth.sig.returnType = some (.object "java/lang/String")) (hk : meth.locks = false) (h1 : cells ≤ mc) (h2 : slots ≤ ms) (d : decode cc pc = .ok (.areturn, 1)) : W p l e R s m as.toArray below meth c H locs cells slots (zT1 below as.toArray s mc ms) (F0 m pc ls [.ref q]) := by
  refine W.widen (k := mc) (n := ms) h1 h2 ?_
  exact W.aret C.1 C.2.1 hr (Or.inl ⟨_, rfl⟩) (Or.inr ⟨q, rfl⟩) (fun t ht hW => ⟨⟨q, rfl⟩, hS.F ht⟩) hS.2.2 d hk
end TB9
section JD
set_option maxHeartbeats 4000000 in
set_option maxRecDepth 100000 in
theorem c_X2_placesOf (l : Launch) (D : va_G) (cB : ClassId) (x : Nat) (hx : x < 8589934592) : zTS l yX2_placesOf 6 188 72 34864 D cB [.long (lN (x))] := by
  refine zTS.intro (lo := 165) (nA := 1) (own := RX2) zs_X2_placesOf (by decide) rfl rfl (by decide +kernel) rfl (Nat.le_of_ble_eq_true rfl) ?_
  intro p e s m below meth c ls C hr hk K V S hl
  have hA : ∀ q, s.heap.size ≤ q → (fun z => s.heap.size ≤ z) q := fun _ h => h
  have hl : lv_has ls 4 [(0, .long (lN (x)))] := hl
  refine lv_lload_n C.1 C.2.1 dX2_placesOf_0 rfl (lv_at hl 0 rfl) ?_
  refine z_lconst (k0 := 0) C dX2_placesOf_1 rfl ?_
  refine z_lc_ne (tgt := 9) C (by first | assumption | omega | rfl | exact decide_eq_false (by omega) | exact decide_eq_true (by assumption) | exact decide_eq_true (by omega) | exact one_shl33 (by omega) | exact pm_lt _ _ | exact rm_lt (by first | assumption | exact pm_lt _ _) | exact Nat.lt_of_le_of_lt (Nat.shiftRight_le _ _) (by assumption) | exact Nat.lt_of_le_of_lt Nat.and_le_right (by omega)) (by first | assumption | omega | rfl | exact decide_eq_false (by omega) | exact decide_eq_true (by assumption) | exact decide_eq_true (by omega) | exact one_shl33 (by omega) | exact pm_lt _ _ | exact rm_lt (by first | assumption | exact pm_lt _ _) | exact Nat.lt_of_le_of_lt (Nat.shiftRight_le _ _) (by assumption) | exact Nat.lt_of_le_of_lt Nat.and_le_right (by omega)) dX2_placesOf_2 dX2_placesOf_3 (by decide) (fun h2 => ?_) (fun h2 => ?_)
  · refine zt_new C K V S hA cl_X2_9 ml_X2_11 ⟨Nat.le_of_ble_eq_true rfl, Nat.le_of_ble_eq_true rfl⟩ ⟨Nat.le_of_ble_eq_true rfl, Nat.le_of_ble_eq_true rfl⟩ hl (Nat.le_of_ble_eq_true rfl) dX2_placesOf_9 dX2_placesOf_12 dX2_placesOf_13 (fun b v H locs B hq => ?_)
    refine lv_astore_n (lv' := [(2, .ref b), (0, .long (lN (x)))]) C.1 C.2.1 dX2_placesOf_16 rfl hl (by decide) rfl (fun ls hl => ?_)
    refine lv_lload_n C.1 C.2.1 dX2_placesOf_17 rfl (lv_at hl 1 rfl) ?_
    refine z_call C (c_X1_topPlace l (x) (by first | assumption | omega | rfl | exact decide_eq_false (by omega) | exact decide_eq_true (by assumption) | exact decide_eq_true (by omega) | exact one_shl33 (by omega) | exact pm_lt _ _ | exact rm_lt (by first | assumption | exact pm_lt _ _) | exact Nat.lt_of_le_of_lt (Nat.shiftRight_le _ _) (by assumption) | exact Nat.lt_of_le_of_lt Nat.and_le_right (by omega))) ml_X2_12 ⟨by decide, by decide⟩ ⟨Nat.le_of_ble_eq_true rfl, Nat.le_of_ble_eq_true rfl⟩ hl (Nat.le_of_ble_eq_true rfl) rfl dX2_placesOf_18 ?_
    have q18_0 := tp_rngE (x) (by first | assumption | omega)
    refine lv_istore_n (lv' := [(3, .int (iZ (tp (x)))), (2, .ref b), (0, .long (lN (x)))]) C.1 C.2.1 dX2_placesOf_21 rfl hl (by decide) rfl (fun ls hl => ?_)
    have L22 : ∀ (j : Nat) (j0 : Nat) (v : Nat) (n : Nat) (k : Nat) (ce : Nat) (sl : Nat) (x3 : Int) (H : Heap) (locs : List Loc) (ls : Array Slot), j0 < j → (x3 + 1 = (j0 : Int)) → (j0 ≤ 33) → (n + 4 * j0 ≤ 132) → (n ≤ k ∧ k ≤ 2 * n + 16) → (ce + 2 * j0 ≤ 70) → (sl + 1040 * j0 ≤ 34340) → (zTn (fun z => s.heap.size ≤ z) D cB b v n k s H locs) → lv_has ls 4 [(0, .long (lN (x))), (2, .ref b), (3, .int (iZ (x3)))] → W p l e { frames := 6, cells := 72, slots := 34864, locals := 165 } s m ([.long (lN (x))] : List Value).toArray below meth c H locs ce sl (zT1 below ([.long (lN (x))] : List Value).toArray s 72 34864) (F0 m 22 ls []) := by
      intro j
      induction j with
      | zero => intro j0 v n k ce sl x3 H locs ls hmu; exact absurd hmu (Nat.not_lt_zero _)
      | succ j ih22 =>
        intro j0 v n k ce sl x3 H locs ls hmu i22_0 i22_1 i22_2 i22_3 i22_4 i22_5 B hl
        refine lv_iload_n C.1 C.2.1 dX2_placesOf_22 rfl (lv_at hl 2 rfl) ?_
        refine z_if_lt (tgt := 60) C (by omega) dX2_placesOf_23 (by decide) (fun h23 => ?_) (fun h23 => ?_)
        · refine lv_aload_n C.1 C.2.1 dX2_placesOf_60 rfl (lv_at hl 1 rfl) ?_
          refine zt_str C B V hA (c_J4_toString_0e30d l D cB (n) (k) (by omega)) ml_X2_33 ⟨Nat.le_of_ble_eq_true rfl, Nat.le_of_ble_eq_true rfl⟩ ⟨by show ce + 2 ≤ 72; omega, by show sl + 524 ≤ 34864; omega⟩ hl (Nat.le_of_ble_eq_true rfl) dX2_placesOf_61 (fun q H locs S hq => ?_)
          exact zt_aret C S hr hk (by omega) (by omega) dX2_placesOf_64
        · refine lv_lload_n C.1 C.2.1 dX2_placesOf_26 rfl (lv_at hl 0 rfl) ?_
          refine lv_iload_n C.1 C.2.1 dX2_placesOf_27 rfl (lv_at hl 2 rfl) ?_
          refine z_call C (c_X1_hasOne l (x) (x3) (by first | assumption | omega | rfl | exact decide_eq_false (by omega) | exact decide_eq_true (by assumption) | exact decide_eq_true (by omega) | exact one_shl33 (by omega) | exact pm_lt _ _ | exact rm_lt (by first | assumption | exact pm_lt _ _) | exact Nat.lt_of_le_of_lt (Nat.shiftRight_le _ _) (by assumption) | exact Nat.lt_of_le_of_lt Nat.and_le_right (by omega)) (by first | assumption | omega | rfl | exact decide_eq_false (by omega) | exact decide_eq_true (by assumption) | exact decide_eq_true (by omega) | exact one_shl33 (by omega) | exact pm_lt _ _ | exact rm_lt (by first | assumption | exact pm_lt _ _) | exact Nat.lt_of_le_of_lt (Nat.shiftRight_le _ _) (by assumption) | exact Nat.lt_of_le_of_lt Nat.and_le_right (by omega))) ml_X2_18 ⟨by decide, by decide⟩ ⟨by show ce + 0 ≤ 72; omega, by show sl + 0 ≤ 34864; omega⟩ hl (Nat.le_of_ble_eq_true rfl) rfl dX2_placesOf_28 ?_
          refine z_ifB_eq (tgt := 54) C dX2_placesOf_31 (by decide) (fun h31 => ?_) (fun h31 => ?_)
          · refine z_iinc (j := 2) (lv' := [(3, .int (iZ (x3 + (-1)))), (0, .long (lN (x))), (2, .ref b)]) C dX2_placesOf_54 hl rfl (by decide) rfl (fun ls hl => ?_)
            refine lv_goto (tgt := 22) C.1 C.2.1 dX2_placesOf_57 (by decide) ?_
            obtain ⟨j1, rfl⟩ : ∃ g, j0 = g + 1 := ⟨j0 - 1, by omega⟩
            exact ih22 (j1) (v) (n) (k) (ce) (sl) _ _ _ _ (by omega) (by omega) (by omega) (by omega) (by omega) (by omega) (by omega) B (lv_sub hl [1, 2, 0] rfl)
          · refine lv_aload_n C.1 C.2.1 dX2_placesOf_34 rfl (lv_at hl 1 rfl) ?_
            refine zt_call C B V hA (c_J4_length_8abf5 l D cB  (n) (k) ) ml_X2_22 (C.2.2.2.2 _ (T0_of zi_J4_length_8abf5.2.1 rfl)) ⟨Nat.le_of_ble_eq_true rfl, Nat.le_of_ble_eq_true rfl⟩ ⟨by show ce + 0 ≤ 72; omega, by show sl + 0 ≤ 34864; omega⟩ hl (Nat.le_of_ble_eq_true rfl) rfl dX2_placesOf_35 (fun v35 k35 H locs hp35 B hq => ?_)
            obtain ⟨rfl, rfl⟩ := hp35
            refine z_if_le (tgt := 48) C (by omega) dX2_placesOf_38 (by decide) (fun h38 => ?_) (fun h38 => ?_)
            · refine lv_aload_n C.1 C.2.1 dX2_placesOf_48 rfl (lv_at hl 1 rfl) ?_
              refine lv_iload_n C.1 C.2.1 dX2_placesOf_49 rfl (lv_at hl 2 rfl) ?_
              refine zt_call C B V hA (c_J4_append_bf812 l D cB (x3) ((n)) (k) (by first | assumption | omega | rfl | exact decide_eq_false (by omega) | exact decide_eq_true (by assumption) | exact decide_eq_true (by omega) | exact one_shl33 (by omega) | exact pm_lt _ _ | exact rm_lt (by first | assumption | exact pm_lt _ _) | exact Nat.lt_of_le_of_lt (Nat.shiftRight_le _ _) (by assumption) | exact Nat.lt_of_le_of_lt Nat.and_le_right (by omega)) (by first | assumption | omega | rfl | exact decide_eq_false (by omega) | exact decide_eq_true (by assumption) | exact decide_eq_true (by omega) | exact one_shl33 (by omega) | exact pm_lt _ _ | exact rm_lt (by first | assumption | exact pm_lt _ _) | exact Nat.lt_of_le_of_lt (Nat.shiftRight_le _ _) (by assumption) | exact Nat.lt_of_le_of_lt Nat.and_le_right (by omega)) (by first | assumption | omega | rfl | exact decide_eq_false (by omega) | exact decide_eq_true (by assumption) | exact decide_eq_true (by omega) | exact one_shl33 (by omega) | exact pm_lt _ _ | exact rm_lt (by first | assumption | exact pm_lt _ _) | exact Nat.lt_of_le_of_lt (Nat.shiftRight_le _ _) (by assumption) | exact Nat.lt_of_le_of_lt Nat.and_le_right (by omega))) ml_X2_30 (C.2.2.2.2 _ (T0_of zi_J4_append_bf812.2.1 rfl)) ⟨Nat.le_of_ble_eq_true rfl, Nat.le_of_ble_eq_true rfl⟩ ⟨by show (ce + 0) + 1 ≤ 72; omega, by show (sl + 0) + 520 ≤ 34864; omega⟩ hl (Nat.le_of_ble_eq_true rfl) rfl dX2_placesOf_50 (fun v50 k50 H locs hp50 B hq => ?_)
              have hp50 : ((n)) + (ssz (x3)).toNat ≤ (k50) ∧ (k50) ≤ 2 * (((n)) + (ssz (x3)).toNat) + 16 := hp50
              have q50_0 := ssz_rng (x3)
              refine lv_pop C.1 C.2.1 dX2_placesOf_53 rfl ?_
              refine z_iinc (j := 2) (lv' := [(3, .int (iZ (x3 + (-1)))), (0, .long (lN (x))), (2, .ref b)]) C dX2_placesOf_54 hl rfl (by decide) rfl (fun ls hl => ?_)
              refine lv_goto (tgt := 22) C.1 C.2.1 dX2_placesOf_57 (by decide) ?_
              obtain ⟨j1, rfl⟩ : ∃ g, j0 = g + 1 := ⟨j0 - 1, by omega⟩
              exact ih22 (j1) (v50) (((n)) + (ssz (x3)).toNat) (k50) (((ce + 0) + 1)) (((sl + 0) + 520)) _ _ _ _ (by omega) (by omega) (by omega) (by omega) (by omega) (by omega) (by omega) B (lv_sub hl [1, 2, 0] rfl)
            · refine lv_aload_n C.1 C.2.1 dX2_placesOf_41 rfl (lv_at hl 1 rfl) ?_
              refine z_bipush C dX2_placesOf_42 (by decide) ?_
              refine zt_call C B V hA (c_J4_append_cf468 l D cB (32 : Int) ((n)) (k) (by first | assumption | omega | rfl | exact decide_eq_false (by omega) | exact decide_eq_true (by assumption) | exact decide_eq_true (by omega) | exact one_shl33 (by omega) | exact pm_lt _ _ | exact rm_lt (by first | assumption | exact pm_lt _ _) | exact Nat.lt_of_le_of_lt (Nat.shiftRight_le _ _) (by assumption) | exact Nat.lt_of_le_of_lt Nat.and_le_right (by omega)) (by first | assumption | omega | rfl | exact decide_eq_false (by omega) | exact decide_eq_true (by assumption) | exact decide_eq_true (by omega) | exact one_shl33 (by omega) | exact pm_lt _ _ | exact rm_lt (by first | assumption | exact pm_lt _ _) | exact Nat.lt_of_le_of_lt (Nat.shiftRight_le _ _) (by assumption) | exact Nat.lt_of_le_of_lt Nat.and_le_right (by omega)) (by first | assumption | omega | rfl | exact decide_eq_false (by omega) | exact decide_eq_true (by assumption) | exact decide_eq_true (by omega) | exact one_shl33 (by omega) | exact pm_lt _ _ | exact rm_lt (by first | assumption | exact pm_lt _ _) | exact Nat.lt_of_le_of_lt (Nat.shiftRight_le _ _) (by assumption) | exact Nat.lt_of_le_of_lt Nat.and_le_right (by omega))) ml_X2_26 (C.2.2.2.2 _ (T0_of zi_J4_append_cf468.2.1 rfl)) ⟨Nat.le_of_ble_eq_true rfl, Nat.le_of_ble_eq_true rfl⟩ ⟨by show (ce + 0) + 1 ≤ 72; omega, by show (sl + 0) + 520 ≤ 34864; omega⟩ hl (Nat.le_of_ble_eq_true rfl) rfl dX2_placesOf_44 (fun v44 k44 H locs hp44 B hq => ?_)
              have hp44 : ((n)) + 1 ≤ (k44) ∧ (k44) ≤ 2 * (((n)) + 1) + 16 := hp44
              refine lv_pop C.1 C.2.1 dX2_placesOf_47 rfl ?_
              refine lv_aload_n C.1 C.2.1 dX2_placesOf_48 rfl (lv_at hl 1 rfl) ?_
              refine lv_iload_n C.1 C.2.1 dX2_placesOf_49 rfl (lv_at hl 2 rfl) ?_
              refine zt_call C B V hA (c_J4_append_bf812 l D cB (x3) (((n)) + 1) (k44) (by first | assumption | omega | rfl | exact decide_eq_false (by omega) | exact decide_eq_true (by assumption) | exact decide_eq_true (by omega) | exact one_shl33 (by omega) | exact pm_lt _ _ | exact rm_lt (by first | assumption | exact pm_lt _ _) | exact Nat.lt_of_le_of_lt (Nat.shiftRight_le _ _) (by assumption) | exact Nat.lt_of_le_of_lt Nat.and_le_right (by omega)) (by first | assumption | omega | rfl | exact decide_eq_false (by omega) | exact decide_eq_true (by assumption) | exact decide_eq_true (by omega) | exact one_shl33 (by omega) | exact pm_lt _ _ | exact rm_lt (by first | assumption | exact pm_lt _ _) | exact Nat.lt_of_le_of_lt (Nat.shiftRight_le _ _) (by assumption) | exact Nat.lt_of_le_of_lt Nat.and_le_right (by omega)) (by first | assumption | omega | rfl | exact decide_eq_false (by omega) | exact decide_eq_true (by assumption) | exact decide_eq_true (by omega) | exact one_shl33 (by omega) | exact pm_lt _ _ | exact rm_lt (by first | assumption | exact pm_lt _ _) | exact Nat.lt_of_le_of_lt (Nat.shiftRight_le _ _) (by assumption) | exact Nat.lt_of_le_of_lt Nat.and_le_right (by omega))) ml_X2_30 (C.2.2.2.2 _ (T0_of zi_J4_append_bf812.2.1 rfl)) ⟨Nat.le_of_ble_eq_true rfl, Nat.le_of_ble_eq_true rfl⟩ ⟨by show ((ce + 0) + 1) + 1 ≤ 72; omega, by show ((sl + 0) + 520) + 520 ≤ 34864; omega⟩ hl (Nat.le_of_ble_eq_true rfl) rfl dX2_placesOf_50 (fun v50 k50 H locs hp50 B hq => ?_)
              have hp50 : (((n)) + 1) + (ssz (x3)).toNat ≤ (k50) ∧ (k50) ≤ 2 * ((((n)) + 1) + (ssz (x3)).toNat) + 16 := hp50
              have q50_0 := ssz_rng (x3)
              refine lv_pop C.1 C.2.1 dX2_placesOf_53 rfl ?_
              refine z_iinc (j := 2) (lv' := [(3, .int (iZ (x3 + (-1)))), (0, .long (lN (x))), (2, .ref b)]) C dX2_placesOf_54 hl rfl (by decide) rfl (fun ls hl => ?_)
              refine lv_goto (tgt := 22) C.1 C.2.1 dX2_placesOf_57 (by decide) ?_
              obtain ⟨j1, rfl⟩ : ∃ g, j0 = g + 1 := ⟨j0 - 1, by omega⟩
              exact ih22 (j1) (v50) ((((n)) + 1) + (ssz (x3)).toNat) (k50) ((((ce + 0) + 1) + 1)) ((((sl + 0) + 520) + 520)) _ _ _ _ (by omega) (by omega) (by omega) (by omega) (by omega) (by omega) (by omega) B (lv_sub hl [1, 2, 0] rfl)
    have ht := tp33.mp hx
    have ht2 := tp_ge x
    exact L22 _ ((tp x + 1).toNat) (v) (0) (16) ((0 + 2)) ((0 + 20)) _ _ _ _ (by exact Nat.lt_succ_self _) (by omega) (by omega) (by omega) (by omega) (by omega) (by omega) B (lv_sub hl [2, 1, 0] rfl)
  · refine zt_ldc C V.t.1 dX2_placesOf_6 (fun q => ?_)
    exact zt_aret C S hr hk (Nat.le_of_ble_eq_true rfl) (Nat.le_of_ble_eq_true rfl) dX2_placesOf_8

set_option maxHeartbeats 4000000 in
set_option maxRecDepth 100000 in
theorem c_X2_numberIn (l : Launch) (D : va_G) (cB : ClassId) (x : Nat) (r : Int) (hx : x < 8589934592) (hr0 : 2 ≤ r ∧ r ≤ 36) : zTS l yX2_numberIn 6 191 70 33900 D cB [.long (lN (x)), .int (iZ (r))] := by
  refine zTS.intro (lo := 165) (nA := 2) (own := RX2) zs_X2_numberIn (by decide) rfl rfl (by decide +kernel) rfl (Nat.le_of_ble_eq_true rfl) ?_
  intro p e s m below meth c ls C hr hk K V S hl
  have hA : ∀ q, s.heap.size ≤ q → (fun z => s.heap.size ≤ z) q := fun _ h => h
  have hl : lv_has ls 7 [(0, .long (lN (x))), (2, .int (iZ (r)))] := hl
  refine lv_lload_n C.1 C.2.1 dX2_numberIn_0 rfl (lv_at hl 0 rfl) ?_
  refine z_lconst (k0 := 0) C dX2_numberIn_1 rfl ?_
  refine z_lc_le (tgt := 11) C (by first | assumption | omega | rfl | exact decide_eq_false (by omega) | exact decide_eq_true (by assumption) | exact decide_eq_true (by omega) | exact one_shl33 (by omega) | exact pm_lt _ _ | exact rm_lt (by first | assumption | exact pm_lt _ _) | exact Nat.lt_of_le_of_lt (Nat.shiftRight_le _ _) (by assumption) | exact Nat.lt_of_le_of_lt Nat.and_le_right (by omega)) (by first | assumption | omega | rfl | exact decide_eq_false (by omega) | exact decide_eq_true (by assumption) | exact decide_eq_true (by omega) | exact one_shl33 (by omega) | exact pm_lt _ _ | exact rm_lt (by first | assumption | exact pm_lt _ _) | exact Nat.lt_of_le_of_lt (Nat.shiftRight_le _ _) (by assumption) | exact Nat.lt_of_le_of_lt Nat.and_le_right (by omega)) dX2_numberIn_2 dX2_numberIn_3 (by decide) (fun h2 => ?_) (fun h2 => ?_)
  · refine zt_ldc C V.t.2.1 dX2_numberIn_11 (fun q => ?_)
    exact zt_aret C S hr hk (Nat.le_of_ble_eq_true rfl) (Nat.le_of_ble_eq_true rfl) dX2_numberIn_13
  · refine lv_iload_n C.1 C.2.1 dX2_numberIn_6 rfl (lv_at hl 1 rfl) ?_
    refine z_iconst C dX2_numberIn_7 ?_
    refine z_icmp_ge (tgt := 14) C (by omega) (by omega) dX2_numberIn_8 (by decide) (fun h8 => ?_) (fun h8 => ?_)
    · refine zt_new C K V S hA cl_X2_9 ml_X2_11 ⟨Nat.le_of_ble_eq_true rfl, Nat.le_of_ble_eq_true rfl⟩ ⟨Nat.le_of_ble_eq_true rfl, Nat.le_of_ble_eq_true rfl⟩ hl (Nat.le_of_ble_eq_true rfl) dX2_numberIn_14 dX2_numberIn_17 dX2_numberIn_18 (fun b v H locs B hq => ?_)
      refine lv_astore_n (lv' := [(3, .ref b), (0, .long (lN (x))), (2, .int (iZ (r)))]) C.1 C.2.1 dX2_numberIn_21 rfl hl (by decide) rfl (fun ls hl => ?_)
      refine lv_lload_n C.1 C.2.1 dX2_numberIn_22 rfl (lv_at hl 1 rfl) ?_
      refine lv_lstore (lv' := [(4, .long (lN (x))), (3, .ref b), (0, .long (lN (x))), (2, .int (iZ (r)))]) C.1 C.2.1 dX2_numberIn_23 hl (by decide) rfl (fun ls hl => ?_)
      refine z_iconst C dX2_numberIn_25 ?_
      refine lv_istore (lv' := [(6, .int (iZ (0))), (4, .long (lN (x))), (3, .ref b), (0, .long (lN (x))), (2, .int (iZ (r)))]) C.1 C.2.1 dX2_numberIn_26 hl (by decide) rfl (fun ls hl => ?_)
      have L28 : ∀ (j : Nat) (v : Nat) (n : Nat) (k : Nat) (ce : Nat) (sl : Nat) (x4 : Nat) (x6 : Int) (H : Heap) (locs : List Loc) (ls : Array Slot), 64 - n < j → (x6 = (n : Int)) → (n ≤ 64) → (x4 < 8589934592) → (n ≤ k ∧ k ≤ 2 * n + 16) → (ce = 2 + n) → (sl = 20 + 520 * n) → (zTn (fun z => s.heap.size ≤ z) D cB b v n k s H locs) → lv_has ls 7 [(0, .long (lN (x))), (2, .int (iZ (r))), (3, .ref b), (4, .long (lN (x4))), (6, .int (iZ (x6)))] → W p l e { frames := 6, cells := 70, slots := 33900, locals := 165 } s m ([.long (lN (x)), .int (iZ (r))] : List Value).toArray below meth c H locs ce sl (zT1 below ([.long (lN (x)), .int (iZ (r))] : List Value).toArray s 70 33900) (F0 m 28 ls []) := by
        intro j
        induction j with
        | zero => intro v n k ce sl x4 x6 H locs ls hmu; exact absurd hmu (Nat.not_lt_zero _)
        | succ j ih28 =>
          intro v n k ce sl x4 x6 H locs ls hmu i28_0 i28_1 i28_2 i28_3 i28_4 i28_5 B hl
          refine lv_iload C.1 C.2.1 dX2_numberIn_28 (lv_at hl 4 rfl) ?_
          refine z_bipush C dX2_numberIn_30 (by decide) ?_
          refine z_icmp_ge (tgt := 69) C (by omega) (by omega) dX2_numberIn_32 (by decide) (fun h32 => ?_) (fun h32 => ?_)
          · refine lv_aload_n C.1 C.2.1 dX2_numberIn_69 rfl (lv_at hl 2 rfl) ?_
            refine zt_call C B V hA (c_J4_reverse_43fcb l D cB  (n) (k) (by first | assumption | omega | rfl | exact decide_eq_false (by omega) | exact decide_eq_true (by assumption) | exact decide_eq_true (by omega) | exact one_shl33 (by omega) | exact pm_lt _ _ | exact rm_lt (by first | assumption | exact pm_lt _ _) | exact Nat.lt_of_le_of_lt (Nat.shiftRight_le _ _) (by assumption) | exact Nat.lt_of_le_of_lt Nat.and_le_right (by omega))) ml_X2_45 (C.2.2.2.2 _ (T0_of zi_J4_reverse_43fcb.2.1 rfl)) ⟨Nat.le_of_ble_eq_true rfl, Nat.le_of_ble_eq_true rfl⟩ ⟨by show ce + 0 ≤ 70; omega, by show sl + 0 ≤ 33900; omega⟩ hl (Nat.le_of_ble_eq_true rfl) rfl dX2_numberIn_70 (fun v70 k70 H locs hp70 B hq => ?_)
            obtain ⟨rfl, rfl⟩ := hp70
            refine zt_str C B V hA (c_J4_toString_0e30d l D cB ((n)) (k) (by omega)) ml_X2_33 ⟨Nat.le_of_ble_eq_true rfl, Nat.le_of_ble_eq_true rfl⟩ ⟨by show (ce + 0) + 2 ≤ 70; omega, by show (sl + 0) + 524 ≤ 33900; omega⟩ hl (Nat.le_of_ble_eq_true rfl) dX2_numberIn_73 (fun q H locs S hq => ?_)
            exact zt_aret C S hr hk (by omega) (by omega) dX2_numberIn_76
          · refine lv_lload C.1 C.2.1 dX2_numberIn_35 (lv_at hl 3 rfl) ?_
            refine z_lconst (k0 := 0) C dX2_numberIn_37 rfl ?_
            refine z_lc_le (tgt := 69) C (by first | assumption | omega | rfl | exact decide_eq_false (by omega) | exact decide_eq_true (by assumption) | exact decide_eq_true (by omega) | exact one_shl33 (by omega) | exact pm_lt _ _ | exact rm_lt (by first | assumption | exact pm_lt _ _) | exact Nat.lt_of_le_of_lt (Nat.shiftRight_le _ _) (by assumption) | exact Nat.lt_of_le_of_lt Nat.and_le_right (by omega)) (by first | assumption | omega | rfl | exact decide_eq_false (by omega) | exact decide_eq_true (by assumption) | exact decide_eq_true (by omega) | exact one_shl33 (by omega) | exact pm_lt _ _ | exact rm_lt (by first | assumption | exact pm_lt _ _) | exact Nat.lt_of_le_of_lt (Nat.shiftRight_le _ _) (by assumption) | exact Nat.lt_of_le_of_lt Nat.and_le_right (by omega)) dX2_numberIn_38 dX2_numberIn_39 (by decide) (fun h38 => ?_) (fun h38 => ?_)
            · refine lv_aload_n C.1 C.2.1 dX2_numberIn_69 rfl (lv_at hl 2 rfl) ?_
              refine zt_call C B V hA (c_J4_reverse_43fcb l D cB  (n) (k) (by first | assumption | omega | rfl | exact decide_eq_false (by omega) | exact decide_eq_true (by assumption) | exact decide_eq_true (by omega) | exact one_shl33 (by omega) | exact pm_lt _ _ | exact rm_lt (by first | assumption | exact pm_lt _ _) | exact Nat.lt_of_le_of_lt (Nat.shiftRight_le _ _) (by assumption) | exact Nat.lt_of_le_of_lt Nat.and_le_right (by omega))) ml_X2_45 (C.2.2.2.2 _ (T0_of zi_J4_reverse_43fcb.2.1 rfl)) ⟨Nat.le_of_ble_eq_true rfl, Nat.le_of_ble_eq_true rfl⟩ ⟨by show ce + 0 ≤ 70; omega, by show sl + 0 ≤ 33900; omega⟩ hl (Nat.le_of_ble_eq_true rfl) rfl dX2_numberIn_70 (fun v70 k70 H locs hp70 B hq => ?_)
              obtain ⟨rfl, rfl⟩ := hp70
              refine zt_str C B V hA (c_J4_toString_0e30d l D cB ((n)) (k) (by omega)) ml_X2_33 ⟨Nat.le_of_ble_eq_true rfl, Nat.le_of_ble_eq_true rfl⟩ ⟨by show (ce + 0) + 2 ≤ 70; omega, by show (sl + 0) + 524 ≤ 33900; omega⟩ hl (Nat.le_of_ble_eq_true rfl) dX2_numberIn_73 (fun q H locs S hq => ?_)
              exact zt_aret C S hr hk (by omega) (by omega) dX2_numberIn_76
            · refine lv_aload_n C.1 C.2.1 dX2_numberIn_42 rfl (lv_at hl 2 rfl) ?_
              have hm9 := Nat.mod_lt x4 (y := r.toNat) (by omega)
              refine lv_lload C.1 C.2.1 dX2_numberIn_43 (lv_at hl 3 rfl) ?_
              refine lv_iload_n C.1 C.2.1 dX2_numberIn_45 rfl (lv_at hl 1 rfl) ?_
              refine z_i2l C ((r).toNat) (by omega) (by omega) dX2_numberIn_46 ?_
              refine z_lrem C (by omega) (by omega) dX2_numberIn_47 ?_
              refine z_l2i C dX2_numberIn_48 ?_
              refine z_call C (c_X2_signOf l ((((x4) % ((r).toNat) : Nat) : Int)) (by first | assumption | omega | rfl | exact decide_eq_false (by omega) | exact decide_eq_true (by assumption) | exact decide_eq_true (by omega) | exact one_shl33 (by omega) | exact pm_lt _ _ | exact rm_lt (by first | assumption | exact pm_lt _ _) | exact Nat.lt_of_le_of_lt (Nat.shiftRight_le _ _) (by assumption) | exact Nat.lt_of_le_of_lt Nat.and_le_right (by omega))) ml_X2_39 ⟨by decide, by decide⟩ ⟨by show ce + 0 ≤ 70; omega, by show sl + 0 ≤ 33900; omega⟩ hl (Nat.le_of_ble_eq_true rfl) rfl dX2_numberIn_49 ?_
              have q49_0 := sgn_rng ((((x4) % ((r).toNat) : Nat) : Int)) (by first | assumption | omega)
              refine zt_call C B V hA (c_J4_append_cf468 l D cB (sgn ((((x4) % ((r).toNat) : Nat) : Int))) (n) (k) (by first | assumption | omega | rfl | exact decide_eq_false (by omega) | exact decide_eq_true (by assumption) | exact decide_eq_true (by omega) | exact one_shl33 (by omega) | exact pm_lt _ _ | exact rm_lt (by first | assumption | exact pm_lt _ _) | exact Nat.lt_of_le_of_lt (Nat.shiftRight_le _ _) (by assumption) | exact Nat.lt_of_le_of_lt Nat.and_le_right (by omega)) (by first | assumption | omega | rfl | exact decide_eq_false (by omega) | exact decide_eq_true (by assumption) | exact decide_eq_true (by omega) | exact one_shl33 (by omega) | exact pm_lt _ _ | exact rm_lt (by first | assumption | exact pm_lt _ _) | exact Nat.lt_of_le_of_lt (Nat.shiftRight_le _ _) (by assumption) | exact Nat.lt_of_le_of_lt Nat.and_le_right (by omega)) (by first | assumption | omega | rfl | exact decide_eq_false (by omega) | exact decide_eq_true (by assumption) | exact decide_eq_true (by omega) | exact one_shl33 (by omega) | exact pm_lt _ _ | exact rm_lt (by first | assumption | exact pm_lt _ _) | exact Nat.lt_of_le_of_lt (Nat.shiftRight_le _ _) (by assumption) | exact Nat.lt_of_le_of_lt Nat.and_le_right (by omega))) ml_X2_26 (C.2.2.2.2 _ (T0_of zi_J4_append_cf468.2.1 rfl)) ⟨Nat.le_of_ble_eq_true rfl, Nat.le_of_ble_eq_true rfl⟩ ⟨by show ce + 1 ≤ 70; omega, by show sl + 520 ≤ 33900; omega⟩ hl (Nat.le_of_ble_eq_true rfl) rfl dX2_numberIn_52 (fun v52 k52 H locs hp52 B hq => ?_)
              have hp52 : (n) + 1 ≤ (k52) ∧ (k52) ≤ 2 * ((n) + 1) + 16 := hp52
              refine lv_pop C.1 C.2.1 dX2_numberIn_55 rfl ?_
              refine lv_lload C.1 C.2.1 dX2_numberIn_56 (lv_at hl 3 rfl) ?_
              refine lv_iload_n C.1 C.2.1 dX2_numberIn_58 rfl (lv_at hl 1 rfl) ?_
              refine z_i2l C ((r).toNat) (by omega) (by omega) dX2_numberIn_59 ?_
              refine z_ldiv C (by omega) (by omega) dX2_numberIn_60 ?_
              refine lv_lstore (lv' := [(4, .long (lN ((x4) / ((r).toNat)))), (0, .long (lN (x))), (2, .int (iZ (r))), (3, .ref b), (6, .int (iZ (x6)))]) C.1 C.2.1 dX2_numberIn_61 hl (by decide) rfl (fun ls hl => ?_)
              refine z_iinc (j := 4) (lv' := [(6, .int (iZ (x6 + 1))), (4, .long (lN ((x4) / ((r).toNat)))), (0, .long (lN (x))), (2, .int (iZ (r))), (3, .ref b)]) C dX2_numberIn_63 hl rfl (by decide) rfl (fun ls hl => ?_)
              refine lv_goto (tgt := 28) C.1 C.2.1 dX2_numberIn_66 (by decide) ?_
              exact ih28 (v52) ((n) + 1) (k52) ((ce + 1)) ((sl + 520)) _ _ _ _ _ (by omega) (by omega) (by omega) (by exact Nat.lt_of_le_of_lt (Nat.div_le_self _ _) (by omega)) (by omega) (by omega) (by omega) B (lv_sub hl [2, 3, 4, 1, 0] rfl)
      exact L28 _ (v) (0) (16) ((0 + 2)) ((0 + 20)) _ _ _ _ _ (by exact Nat.lt_succ_self _) (by rfl) (by omega) (by exact hx) (by omega) (by rfl) (by rfl) B (lv_sub hl [3, 4, 2, 1, 0] rfl)
    · exfalso; omega

set_option maxHeartbeats 4000000 in
set_option maxRecDepth 100000 in
theorem c_X0_factorsOf (l : Launch) (D : va_G) (cB : ClassId) (x : Nat) (hx : 1 ≤ x ∧ x < 512) : zTS l yX0_factorsOf 6 191 24 10000 D cB [.long (lN (x))] := by
  refine zTS.intro (lo := 165) (nA := 1) (own := RX0) zs_X0_factorsOf (by decide) rfl rfl (by decide +kernel) rfl (Nat.le_of_ble_eq_true rfl) ?_
  intro p e s m below meth c ls C hr hk K V S hl
  have hA : ∀ q, s.heap.size ≤ q → (fun z => s.heap.size ≤ z) q := fun _ h => h
  have hl : lv_has ls 7 [(0, .long (lN (x)))] := hl
  refine zt_new C K V S hA cl_X0_39 ml_X0_41 ⟨Nat.le_of_ble_eq_true rfl, Nat.le_of_ble_eq_true rfl⟩ ⟨Nat.le_of_ble_eq_true rfl, Nat.le_of_ble_eq_true rfl⟩ hl (Nat.le_of_ble_eq_true rfl) dX0_factorsOf_0 dX0_factorsOf_3 dX0_factorsOf_4 (fun b v H locs B hq => ?_)
  refine lv_astore_n (lv' := [(2, .ref b), (0, .long (lN (x)))]) C.1 C.2.1 dX0_factorsOf_7 rfl hl (by decide) rfl (fun ls hl => ?_)
  refine lv_lload_n C.1 C.2.1 dX0_factorsOf_8 rfl (lv_at hl 1 rfl) ?_
  refine lv_lstore_n (lv' := [(3, .long (lN (x))), (2, .ref b), (0, .long (lN (x)))]) C.1 C.2.1 dX0_factorsOf_9 rfl hl (by decide) rfl (fun ls hl => ?_)
  refine z_iconst C dX0_factorsOf_10 ?_
  refine lv_istore (lv' := [(5, .int (iZ (2))), (3, .long (lN (x))), (2, .ref b), (0, .long (lN (x)))]) C.1 C.2.1 dX0_factorsOf_11 hl (by decide) rfl (fun ls hl => ?_)
  have L13 : ∀ (j : Nat) (v : Nat) (n : Nat) (k : Nat) (ce : Nat) (sl : Nat) (x3 : Nat) (x5 : Int) (H : Heap) (locs : List Loc) (ls : Array Slot), (512 - x5).toNat < j → (2 ≤ x5 ∧ x5 ≤ 512) → (x3 < 512) → ((n : Int) + 4 * tp x3 ≤ 32) → (n ≤ k ∧ k ≤ 2 * n + 16) → ((ce : Int) + 2 * tp x3 ≤ 18) → ((sl : Int) + 1040 * tp x3 ≤ 8340) → (zTn (fun z => s.heap.size ≤ z) D cB b v n k s H locs) → lv_has ls 7 [(0, .long (lN (x))), (2, .ref b), (3, .long (lN (x3))), (5, .int (iZ (x5)))] → W p l e { frames := 6, cells := 24, slots := 10000, locals := 165 } s m ([.long (lN (x))] : List Value).toArray below meth c H locs ce sl (zT1 below ([.long (lN (x))] : List Value).toArray s 24 10000) (F0 m 13 ls []) := by
    intro j
    induction j with
    | zero => intro v n k ce sl x3 x5 H locs ls hmu; exact absurd hmu (Nat.not_lt_zero _)
    | succ j ih13 =>
      intro v n k ce sl x3 x5 H locs ls hmu i13_0 i13_1 i13_2 i13_3 i13_4 i13_5 B hl
      have ht2 := tp_ge x3
      refine lv_iload C.1 C.2.1 dX0_factorsOf_13 (lv_at hl 3 rfl) ?_
      refine z_sipush C dX0_factorsOf_15 (by decide) ?_
      refine z_icmp_ge (tgt := 88) C (by omega) (by omega) dX0_factorsOf_18 (by decide) (fun h18 => ?_) (fun h18 => ?_)
      · refine lv_aload_n C.1 C.2.1 dX0_factorsOf_88 rfl (lv_at hl 1 rfl) ?_
        refine zt_str C B V hA (c_J4_toString_0e30d l D cB (n) (k) (by omega)) ml_X0_56 ⟨Nat.le_of_ble_eq_true rfl, Nat.le_of_ble_eq_true rfl⟩ ⟨by show ce + 2 ≤ 24; omega, by show sl + 524 ≤ 10000; omega⟩ hl (Nat.le_of_ble_eq_true rfl) dX0_factorsOf_89 (fun q H locs S hq => ?_)
        exact zt_aret C S hr hk (by omega) (by omega) dX0_factorsOf_92
      · refine z_iconst C dX0_factorsOf_21 ?_
        refine lv_istore (lv' := [(6, .int (iZ (0))), (0, .long (lN (x))), (2, .ref b), (3, .long (lN (x3))), (5, .int (iZ (x5)))]) C.1 C.2.1 dX0_factorsOf_22 hl (by decide) rfl (fun ls hl => ?_)
        have L24 : ∀ (j : Nat) (v : Nat) (n : Nat) (k : Nat) (ce : Nat) (sl : Nat) (x3 : Nat) (x6 : Int) (H : Heap) (locs : List Loc) (ls : Array Slot), (64 - x6).toNat < j → (0 ≤ x6 ∧ x6 ≤ 64) → (x3 < 512) → ((n : Int) + 4 * tp x3 ≤ 32) → (n ≤ k ∧ k ≤ 2 * n + 16) → ((ce : Int) + 2 * tp x3 ≤ 18) → ((sl : Int) + 1040 * tp x3 ≤ 8340) → (zTn (fun z => s.heap.size ≤ z) D cB b v n k s H locs) → lv_has ls 7 [(0, .long (lN (x))), (2, .ref b), (3, .long (lN (x3))), (5, .int (iZ (x5))), (6, .int (iZ (x6)))] → W p l e { frames := 6, cells := 24, slots := 10000, locals := 165 } s m ([.long (lN (x))] : List Value).toArray below meth c H locs ce sl (zT1 below ([.long (lN (x))] : List Value).toArray s 24 10000) (F0 m 24 ls []) := by
          intro j
          induction j with
          | zero => intro v n k ce sl x3 x6 H locs ls hmu; exact absurd hmu (Nat.not_lt_zero _)
          | succ j ih24 =>
            intro v n k ce sl x3 x6 H locs ls hmu i24_0 i24_1 i24_2 i24_3 i24_4 i24_5 B hl
            have ht2 := tp_ge x3
            refine lv_iload C.1 C.2.1 dX0_factorsOf_24 (lv_at hl 4 rfl) ?_
            refine z_bipush C dX0_factorsOf_26 (by decide) ?_
            refine z_icmp_ge (tgt := 82) C (by omega) (by omega) dX0_factorsOf_28 (by decide) (fun h28 => ?_) (fun h28 => ?_)
            · refine z_iinc (j := 3) (lv' := [(5, .int (iZ (x5 + 1))), (0, .long (lN (x))), (2, .ref b), (3, .long (lN (x3))), (6, .int (iZ (x6)))]) C dX0_factorsOf_82 hl rfl (by decide) rfl (fun ls hl => ?_)
              refine lv_goto (tgt := 13) C.1 C.2.1 dX0_factorsOf_85 (by decide) ?_
              exact ih13 (v) (n) (k) (ce) (sl) _ _ _ _ _ (by omega) (by omega) (by omega) (by omega) (by omega) (by omega) (by omega) B (lv_sub hl [1, 2, 3, 0] rfl)
            · refine lv_lload_n C.1 C.2.1 dX0_factorsOf_31 rfl (lv_at hl 2 rfl) ?_
              refine z_lconst (k0 := 1) C dX0_factorsOf_32 rfl ?_
              refine z_lc_le (tgt := 82) C (by first | assumption | omega | rfl | exact decide_eq_false (by omega) | exact decide_eq_true (by assumption) | exact decide_eq_true (by omega) | exact one_shl33 (by omega) | exact pm_lt _ _ | exact rm_lt (by first | assumption | exact pm_lt _ _) | exact Nat.lt_of_le_of_lt (Nat.shiftRight_le _ _) (by assumption) | exact Nat.lt_of_le_of_lt Nat.and_le_right (by omega)) (by first | assumption | omega | rfl | exact decide_eq_false (by omega) | exact decide_eq_true (by assumption) | exact decide_eq_true (by omega) | exact one_shl33 (by omega) | exact pm_lt _ _ | exact rm_lt (by first | assumption | exact pm_lt _ _) | exact Nat.lt_of_le_of_lt (Nat.shiftRight_le _ _) (by assumption) | exact Nat.lt_of_le_of_lt Nat.and_le_right (by omega)) dX0_factorsOf_33 dX0_factorsOf_34 (by decide) (fun h33 => ?_) (fun h33 => ?_)
              · refine z_iinc (j := 3) (lv' := [(5, .int (iZ (x5 + 1))), (0, .long (lN (x))), (2, .ref b), (3, .long (lN (x3))), (6, .int (iZ (x6)))]) C dX0_factorsOf_82 hl rfl (by decide) rfl (fun ls hl => ?_)
                refine lv_goto (tgt := 13) C.1 C.2.1 dX0_factorsOf_85 (by decide) ?_
                exact ih13 (v) (n) (k) (ce) (sl) _ _ _ _ _ (by omega) (by omega) (by omega) (by omega) (by omega) (by omega) (by omega) B (lv_sub hl [1, 2, 3, 0] rfl)
              · refine lv_iload C.1 C.2.1 dX0_factorsOf_37 (lv_at hl 3 rfl) ?_
                refine z_i2l C ((x5).toNat) (by omega) (by omega) dX0_factorsOf_39 ?_
                refine lv_lload_n C.1 C.2.1 dX0_factorsOf_40 rfl (lv_at hl 2 rfl) ?_
                refine z_call C (c_X1_isDivisor l ((x5).toNat) (x3) (by first | assumption | omega | rfl | exact decide_eq_false (by omega) | exact decide_eq_true (by assumption) | exact decide_eq_true (by omega) | exact one_shl33 (by omega) | exact pm_lt _ _ | exact rm_lt (by first | assumption | exact pm_lt _ _) | exact Nat.lt_of_le_of_lt (Nat.shiftRight_le _ _) (by assumption) | exact Nat.lt_of_le_of_lt Nat.and_le_right (by omega)) (by first | assumption | omega | rfl | exact decide_eq_false (by omega) | exact decide_eq_true (by assumption) | exact decide_eq_true (by omega) | exact one_shl33 (by omega) | exact pm_lt _ _ | exact rm_lt (by first | assumption | exact pm_lt _ _) | exact Nat.lt_of_le_of_lt (Nat.shiftRight_le _ _) (by assumption) | exact Nat.lt_of_le_of_lt Nat.and_le_right (by omega))) ml_X0_21 ⟨by decide, by decide⟩ ⟨by show ce + 0 ≤ 24; omega, by show sl + 0 ≤ 10000; omega⟩ hl (Nat.le_of_ble_eq_true rfl) rfl dX0_factorsOf_41 ?_
                refine z_ifB_eq (tgt := 82) C dX0_factorsOf_44 (by decide) (fun h44 => ?_) (fun h44 => ?_)
                · refine z_iinc (j := 3) (lv' := [(5, .int (iZ (x5 + 1))), (0, .long (lN (x))), (2, .ref b), (3, .long (lN (x3))), (6, .int (iZ (x6)))]) C dX0_factorsOf_82 hl rfl (by decide) rfl (fun ls hl => ?_)
                  refine lv_goto (tgt := 13) C.1 C.2.1 dX0_factorsOf_85 (by decide) ?_
                  exact ih13 (v) (n) (k) (ce) (sl) _ _ _ _ _ (by omega) (by omega) (by omega) (by omega) (by omega) (by omega) (by omega) B (lv_sub hl [1, 2, 3, 0] rfl)
                · have hg9 := tp_2 (p := x3) (by omega)
                  refine lv_aload_n C.1 C.2.1 dX0_factorsOf_47 rfl (lv_at hl 1 rfl) ?_
                  refine zt_call C B V hA (c_J4_length_8abf5 l D cB  (n) (k) ) ml_X0_42 (C.2.2.2.2 _ (T0_of zi_J4_length_8abf5.2.1 rfl)) ⟨Nat.le_of_ble_eq_true rfl, Nat.le_of_ble_eq_true rfl⟩ ⟨by show ce + 0 ≤ 24; omega, by show sl + 0 ≤ 10000; omega⟩ hl (Nat.le_of_ble_eq_true rfl) rfl dX0_factorsOf_48 (fun v48 k48 H locs hp48 B hq => ?_)
                  obtain ⟨rfl, rfl⟩ := hp48
                  refine z_if_le (tgt := 61) C (by omega) dX0_factorsOf_51 (by decide) (fun h51 => ?_) (fun h51 => ?_)
                  · refine lv_aload_n C.1 C.2.1 dX0_factorsOf_61 rfl (lv_at hl 1 rfl) ?_
                    refine lv_iload C.1 C.2.1 dX0_factorsOf_62 (lv_at hl 3 rfl) ?_
                    refine zt_call C B V hA (c_J4_append_bf812 l D cB (x5) ((n)) (k) (by first | assumption | omega | rfl | exact decide_eq_false (by omega) | exact decide_eq_true (by assumption) | exact decide_eq_true (by omega) | exact one_shl33 (by omega) | exact pm_lt _ _ | exact rm_lt (by first | assumption | exact pm_lt _ _) | exact Nat.lt_of_le_of_lt (Nat.shiftRight_le _ _) (by assumption) | exact Nat.lt_of_le_of_lt Nat.and_le_right (by omega)) (by first | assumption | omega | rfl | exact decide_eq_false (by omega) | exact decide_eq_true (by assumption) | exact decide_eq_true (by omega) | exact one_shl33 (by omega) | exact pm_lt _ _ | exact rm_lt (by first | assumption | exact pm_lt _ _) | exact Nat.lt_of_le_of_lt (Nat.shiftRight_le _ _) (by assumption) | exact Nat.lt_of_le_of_lt Nat.and_le_right (by omega)) (by first | assumption | omega | rfl | exact decide_eq_false (by omega) | exact decide_eq_true (by assumption) | exact decide_eq_true (by omega) | exact one_shl33 (by omega) | exact pm_lt _ _ | exact rm_lt (by first | assumption | exact pm_lt _ _) | exact Nat.lt_of_le_of_lt (Nat.shiftRight_le _ _) (by assumption) | exact Nat.lt_of_le_of_lt Nat.and_le_right (by omega))) ml_X0_50 (C.2.2.2.2 _ (T0_of zi_J4_append_bf812.2.1 rfl)) ⟨Nat.le_of_ble_eq_true rfl, Nat.le_of_ble_eq_true rfl⟩ ⟨by show (ce + 0) + 1 ≤ 24; omega, by show (sl + 0) + 520 ≤ 10000; omega⟩ hl (Nat.le_of_ble_eq_true rfl) rfl dX0_factorsOf_64 (fun v64 k64 H locs hp64 B hq => ?_)
                    have hp64 : ((n)) + (ssz (x5)).toNat ≤ (k64) ∧ (k64) ≤ 2 * (((n)) + (ssz (x5)).toNat) + 16 := hp64
                    have q64_0 := ssz_rng (x5)
                    refine lv_pop C.1 C.2.1 dX0_factorsOf_67 rfl ?_
                    refine lv_lload_n C.1 C.2.1 dX0_factorsOf_68 rfl (lv_at hl 2 rfl) ?_
                    refine lv_iload C.1 C.2.1 dX0_factorsOf_69 (lv_at hl 3 rfl) ?_
                    refine z_i2l C ((x5).toNat) (by omega) (by omega) dX0_factorsOf_71 ?_
                    refine z_call C (c_X1_quotientOf l (x3) ((x5).toNat) (by first | assumption | omega | rfl | exact decide_eq_false (by omega) | exact decide_eq_true (by assumption) | exact decide_eq_true (by omega) | exact one_shl33 (by omega) | exact pm_lt _ _ | exact rm_lt (by first | assumption | exact pm_lt _ _) | exact Nat.lt_of_le_of_lt (Nat.shiftRight_le _ _) (by assumption) | exact Nat.lt_of_le_of_lt Nat.and_le_right (by omega)) (by first | assumption | omega | rfl | exact decide_eq_false (by omega) | exact decide_eq_true (by assumption) | exact decide_eq_true (by omega) | exact one_shl33 (by omega) | exact pm_lt _ _ | exact rm_lt (by first | assumption | exact pm_lt _ _) | exact Nat.lt_of_le_of_lt (Nat.shiftRight_le _ _) (by assumption) | exact Nat.lt_of_le_of_lt Nat.and_le_right (by omega))) ml_X0_53 ⟨by decide, by decide⟩ ⟨by show ((ce + 0) + 1) + 0 ≤ 24; omega, by show ((sl + 0) + 520) + 0 ≤ 10000; omega⟩ hl (Nat.le_of_ble_eq_true rfl) rfl dX0_factorsOf_72 ?_
                    refine lv_lstore_n (lv' := [(3, .long (lN (qo (x3) ((x5).toNat)))), (0, .long (lN (x))), (2, .ref b), (5, .int (iZ (x5))), (6, .int (iZ (x6)))]) C.1 C.2.1 dX0_factorsOf_75 rfl hl (by decide) rfl (fun ls hl => ?_)
                    refine z_iinc (j := 4) (lv' := [(6, .int (iZ (x6 + 1))), (3, .long (lN (qo (x3) ((x5).toNat)))), (0, .long (lN (x))), (2, .ref b), (5, .int (iZ (x5)))]) C dX0_factorsOf_76 hl rfl (by decide) rfl (fun ls hl => ?_)
                    refine lv_goto (tgt := 24) C.1 C.2.1 dX0_factorsOf_79 (by decide) ?_
                    have hf := fq_rng (a := x3) (b := x5.toNat) (by omega) (by omega) (by omega)
                    exact ih24 (v64) (((n)) + (ssz (x5)).toNat) (k64) (((ce + 0) + 1)) (((sl + 0) + 520)) _ _ _ _ _ (by omega) (by omega) (by omega) (by omega) (by omega) (by omega) (by omega) B (lv_sub hl [2, 3, 1, 4, 0] rfl)
                  · refine lv_aload_n C.1 C.2.1 dX0_factorsOf_54 rfl (lv_at hl 1 rfl) ?_
                    refine z_bipush C dX0_factorsOf_55 (by decide) ?_
                    refine zt_call C B V hA (c_J4_append_cf468 l D cB (32 : Int) ((n)) (k) (by first | assumption | omega | rfl | exact decide_eq_false (by omega) | exact decide_eq_true (by assumption) | exact decide_eq_true (by omega) | exact one_shl33 (by omega) | exact pm_lt _ _ | exact rm_lt (by first | assumption | exact pm_lt _ _) | exact Nat.lt_of_le_of_lt (Nat.shiftRight_le _ _) (by assumption) | exact Nat.lt_of_le_of_lt Nat.and_le_right (by omega)) (by first | assumption | omega | rfl | exact decide_eq_false (by omega) | exact decide_eq_true (by assumption) | exact decide_eq_true (by omega) | exact one_shl33 (by omega) | exact pm_lt _ _ | exact rm_lt (by first | assumption | exact pm_lt _ _) | exact Nat.lt_of_le_of_lt (Nat.shiftRight_le _ _) (by assumption) | exact Nat.lt_of_le_of_lt Nat.and_le_right (by omega)) (by first | assumption | omega | rfl | exact decide_eq_false (by omega) | exact decide_eq_true (by assumption) | exact decide_eq_true (by omega) | exact one_shl33 (by omega) | exact pm_lt _ _ | exact rm_lt (by first | assumption | exact pm_lt _ _) | exact Nat.lt_of_le_of_lt (Nat.shiftRight_le _ _) (by assumption) | exact Nat.lt_of_le_of_lt Nat.and_le_right (by omega))) ml_X0_46 (C.2.2.2.2 _ (T0_of zi_J4_append_cf468.2.1 rfl)) ⟨Nat.le_of_ble_eq_true rfl, Nat.le_of_ble_eq_true rfl⟩ ⟨by show (ce + 0) + 1 ≤ 24; omega, by show (sl + 0) + 520 ≤ 10000; omega⟩ hl (Nat.le_of_ble_eq_true rfl) rfl dX0_factorsOf_57 (fun v57 k57 H locs hp57 B hq => ?_)
                    have hp57 : ((n)) + 1 ≤ (k57) ∧ (k57) ≤ 2 * (((n)) + 1) + 16 := hp57
                    refine lv_pop C.1 C.2.1 dX0_factorsOf_60 rfl ?_
                    refine lv_aload_n C.1 C.2.1 dX0_factorsOf_61 rfl (lv_at hl 1 rfl) ?_
                    refine lv_iload C.1 C.2.1 dX0_factorsOf_62 (lv_at hl 3 rfl) ?_
                    refine zt_call C B V hA (c_J4_append_bf812 l D cB (x5) (((n)) + 1) (k57) (by first | assumption | omega | rfl | exact decide_eq_false (by omega) | exact decide_eq_true (by assumption) | exact decide_eq_true (by omega) | exact one_shl33 (by omega) | exact pm_lt _ _ | exact rm_lt (by first | assumption | exact pm_lt _ _) | exact Nat.lt_of_le_of_lt (Nat.shiftRight_le _ _) (by assumption) | exact Nat.lt_of_le_of_lt Nat.and_le_right (by omega)) (by first | assumption | omega | rfl | exact decide_eq_false (by omega) | exact decide_eq_true (by assumption) | exact decide_eq_true (by omega) | exact one_shl33 (by omega) | exact pm_lt _ _ | exact rm_lt (by first | assumption | exact pm_lt _ _) | exact Nat.lt_of_le_of_lt (Nat.shiftRight_le _ _) (by assumption) | exact Nat.lt_of_le_of_lt Nat.and_le_right (by omega)) (by first | assumption | omega | rfl | exact decide_eq_false (by omega) | exact decide_eq_true (by assumption) | exact decide_eq_true (by omega) | exact one_shl33 (by omega) | exact pm_lt _ _ | exact rm_lt (by first | assumption | exact pm_lt _ _) | exact Nat.lt_of_le_of_lt (Nat.shiftRight_le _ _) (by assumption) | exact Nat.lt_of_le_of_lt Nat.and_le_right (by omega))) ml_X0_50 (C.2.2.2.2 _ (T0_of zi_J4_append_bf812.2.1 rfl)) ⟨Nat.le_of_ble_eq_true rfl, Nat.le_of_ble_eq_true rfl⟩ ⟨by show ((ce + 0) + 1) + 1 ≤ 24; omega, by show ((sl + 0) + 520) + 520 ≤ 10000; omega⟩ hl (Nat.le_of_ble_eq_true rfl) rfl dX0_factorsOf_64 (fun v64 k64 H locs hp64 B hq => ?_)
                    have hp64 : (((n)) + 1) + (ssz (x5)).toNat ≤ (k64) ∧ (k64) ≤ 2 * ((((n)) + 1) + (ssz (x5)).toNat) + 16 := hp64
                    have q64_0 := ssz_rng (x5)
                    refine lv_pop C.1 C.2.1 dX0_factorsOf_67 rfl ?_
                    refine lv_lload_n C.1 C.2.1 dX0_factorsOf_68 rfl (lv_at hl 2 rfl) ?_
                    refine lv_iload C.1 C.2.1 dX0_factorsOf_69 (lv_at hl 3 rfl) ?_
                    refine z_i2l C ((x5).toNat) (by omega) (by omega) dX0_factorsOf_71 ?_
                    refine z_call C (c_X1_quotientOf l (x3) ((x5).toNat) (by first | assumption | omega | rfl | exact decide_eq_false (by omega) | exact decide_eq_true (by assumption) | exact decide_eq_true (by omega) | exact one_shl33 (by omega) | exact pm_lt _ _ | exact rm_lt (by first | assumption | exact pm_lt _ _) | exact Nat.lt_of_le_of_lt (Nat.shiftRight_le _ _) (by assumption) | exact Nat.lt_of_le_of_lt Nat.and_le_right (by omega)) (by first | assumption | omega | rfl | exact decide_eq_false (by omega) | exact decide_eq_true (by assumption) | exact decide_eq_true (by omega) | exact one_shl33 (by omega) | exact pm_lt _ _ | exact rm_lt (by first | assumption | exact pm_lt _ _) | exact Nat.lt_of_le_of_lt (Nat.shiftRight_le _ _) (by assumption) | exact Nat.lt_of_le_of_lt Nat.and_le_right (by omega))) ml_X0_53 ⟨by decide, by decide⟩ ⟨by show (((ce + 0) + 1) + 1) + 0 ≤ 24; omega, by show (((sl + 0) + 520) + 520) + 0 ≤ 10000; omega⟩ hl (Nat.le_of_ble_eq_true rfl) rfl dX0_factorsOf_72 ?_
                    refine lv_lstore_n (lv' := [(3, .long (lN (qo (x3) ((x5).toNat)))), (0, .long (lN (x))), (2, .ref b), (5, .int (iZ (x5))), (6, .int (iZ (x6)))]) C.1 C.2.1 dX0_factorsOf_75 rfl hl (by decide) rfl (fun ls hl => ?_)
                    refine z_iinc (j := 4) (lv' := [(6, .int (iZ (x6 + 1))), (3, .long (lN (qo (x3) ((x5).toNat)))), (0, .long (lN (x))), (2, .ref b), (5, .int (iZ (x5)))]) C dX0_factorsOf_76 hl rfl (by decide) rfl (fun ls hl => ?_)
                    refine lv_goto (tgt := 24) C.1 C.2.1 dX0_factorsOf_79 (by decide) ?_
                    have hf := fq_rng (a := x3) (b := x5.toNat) (by omega) (by omega) (by omega)
                    exact ih24 (v64) ((((n)) + 1) + (ssz (x5)).toNat) (k64) ((((ce + 0) + 1) + 1)) ((((sl + 0) + 520) + 520)) _ _ _ _ _ (by omega) (by omega) (by omega) (by omega) (by omega) (by omega) (by omega) B (lv_sub hl [2, 3, 1, 4, 0] rfl)
        exact L24 _ (v) (n) (k) (ce) (sl) _ _ _ _ _ (by exact Nat.lt_succ_self _) (by omega) (by omega) (by omega) (by omega) (by omega) (by omega) B (lv_sub hl [1, 2, 3, 4, 0] rfl)
  have ht := (tp_le (n := x) (k := 8)).mpr (by omega)
  exact L13 _ (v) (0) (16) ((0 + 2)) ((0 + 20)) _ _ _ _ _ (by exact Nat.lt_succ_self _) (by omega) (by omega) (by omega) (by omega) (by omega) (by omega) B (lv_sub hl [3, 2, 1, 0] rfl)

end JD
/-! ===== an object's methods that write texts ===== -/
section MA
/-- .. with statics and constants beside the object -/
def zAV (l : Launch) (y : MethodName) (fr need mc ms : Nat) (D : va_G) (cB : ClassId) (ci : Nat) (cJ : ClassId) (o a : Nat) (as : List Value) (c : Nat → Nat) (fs : List Value) (rv : Option Value → Prop) (c2 : Nat → Nat) (fs2 : List Value) : Prop :=
  ∃ (bytes : ByteArray) (maxL lo : Nat) (ret : Option FieldType), zI y bytes maxL ret ∧ need = 8 + (maxL + 11) + lo ∧
    (y.cls = y.cls ∧ y.cls ≠ "java/lang/invoke/MethodHandle" ∧ y.cls ≠ "java/lang/invoke/VarHandle" ∧ (parseMethodDescriptor y.desc).map (fun d => d.parameters.length) = some as.length) ∧
    ∀ sz : Nat, Met l y (Cond.code y bytes maxL ret :: T0) { frames := fr, cells := mc, slots := ms, locals := lo } (fun v U => v = (Value.ref o :: as).toArray ∧ U.heap.size = sz ∧ AtO D ci cJ o a c fs U U.heap ∧ va_K D vwCl [(cB, .byte)] U ∧ zV (zoa o a) U U.heap)
      (fun _ st oc t => (∃ v, oc = .returned v ∧ rv v) ∧ AtO D ci cJ o a c2 fs2 t t.heap ∧ va_F (zF o a sz) st t) mc ms (zF o a sz)
theorem zAV.intro {l : Launch} {y : MethodName} {fr need lo nA mc ms : Nat} {D : va_G} {cB : ClassId} {ci : Nat} {cJ : ClassId} {o a : Nat} {as : List Value} {c : Nat → Nat} {fs : List Value} {rv : Option Value → Prop} {c2 : Nat → Nat} {fs2 : List Value} {cc : ByteArray} {maxL : Nat} {ret : Option FieldType} {own : String} (hz : zI y cc maxL ret) (hy : plainName y.cls = true) (ho : own = y.cls) (hn : need = 8 + (maxL + 11) + lo)
    (hd : y.cls ≠ "java/lang/invoke/MethodHandle" ∧ y.cls ≠ "java/lang/invoke/VarHandle" ∧ (parseMethodDescriptor y.desc).map (fun d => d.parameters.length) = some nA) (hA : as.length = nA) (hle : (lg_sl (.ref o :: as)).length ≤ maxL)
    (body : ∀ (p : Program) (e : Env) (s : State) (m : MethodId) (below : List Frame) (meth : Method) (c0 : Code) (ls : Array Slot), CallFix p m c0 cc maxL s (Value.ref o :: as).toArray T0 own → meth.sig.returnType = ret → meth.locks = false → zIn D ci cJ o a c fs s s.heap [] → va_K D vwCl [(cB, .byte)] s → zV (zF o a s.heap.size) s s.heap → lv_has ls maxL (lv_args 0 (.ref o :: as)) →
      W p l e { frames := fr, cells := mc, slots := ms, locals := lo } s m (Value.ref o :: as).toArray below meth c0 s.heap [] 0 0 (zE1 below D ci cJ o a (Value.ref o :: as).toArray s mc ms rv c2 fs2) (F0 m 0 ls [])) : zAV l y fr need mc ms D cB ci cJ o a as c fs rv c2 fs2 := by
  subst hA
  refine ⟨cc, maxL, lo, ret, hz, hn, ⟨rfl, hd⟩, fun sz => ?_⟩
  refine Met.ofW (ws' := T0) hy rfl ?_
  intro p e s m args below meth c0 s₁ B hml hv
  obtain ⟨hv, hsz, hAt, hK, hV⟩ := hv
  subst hv
  subst hsz
  have hts := atoms_spec (ws := Cond.code y cc maxL ret :: T0) B.pre
  have hown : s.vm.findClass own = some m.cls := by rw [ho]; exact findClass_of_methodNamed B.named
  rw [lg_entry_eq]
  exact body p e s m below meth c0 _ ⟨B.exec, B.bytes, hml, hown, fun w h => hts w (List.mem_cons_of_mem _ h)⟩ B.returns B.notSynchronized ⟨hAt, va_S.rf⟩ hK (hV.nar (fun q h1 h2 => by rcases h2 with h2 | h2 | h2; exact Or.inl h2; exact Or.inr h2; omega)) (lv_entry (.ref o :: as) hle)
/-- a method that only reads -/
def zRO (l : Launch) (y : MethodName) (fr need : Nat) (as : List Value) (G : State → Heap → Prop) (rv : Option Value → Prop) : Prop :=
  ∃ (bytes : ByteArray) (maxL lo : Nat) (ret : Option FieldType) (nA : Nat), (Cond.initialized y.cls ∈ lw_tbl ∧ Cond.code y bytes maxL ret ∈ lw_tbl) ∧ need = 8 + (maxL + 11) + lo ∧
    (y.cls ≠ "java/lang/invoke/MethodHandle" ∧ y.cls ≠ "java/lang/invoke/VarHandle" ∧ (parseMethodDescriptor y.desc).map (fun d => d.parameters.length) = some nA ∧ (as.length = nA ∧ Cond.static y ∈ lw_tbl ∨ as.length = nA + 1 ∧ Cond.instanceMethod y ∈ lw_tbl ∧ Cond.selects y.cls y y ∈ lw_tbl)) ∧
    (∀ (s U : State) H, s.WarmedH U.vm → G s H → G U H) ∧
    Met l y (Cond.code y bytes maxL ret :: T0) { frames := fr, cells := 0, slots := 0, locals := lo } (fun a U => a = as.toArray ∧ G U U.heap) (fun _ st oc t => (∃ v, oc = .returned v ∧ rv v) ∧ t.heap = st.heap) 0 0 (fun _ => False)
theorem zRO.intro {l : Launch} {y : MethodName} {fr need lo nA : Nat} {as : List Value} {G : State → Heap → Prop} {rv : Option Value → Prop} {cc : ByteArray} {maxL : Nat} {ret : Option FieldType} {own : String} (hz : Cond.initialized y.cls ∈ lw_tbl ∧ Cond.code y cc maxL ret ∈ lw_tbl) (hy : plainName y.cls = true) (ho : own = y.cls) (hn : need = 8 + (maxL + 11) + lo)
    (hd : y.cls ≠ "java/lang/invoke/MethodHandle" ∧ y.cls ≠ "java/lang/invoke/VarHandle" ∧ (parseMethodDescriptor y.desc).map (fun d => d.parameters.length) = some nA) (hA : as.length = nA ∧ Cond.static y ∈ lw_tbl ∨ as.length = nA + 1 ∧ Cond.instanceMethod y ∈ lw_tbl ∧ Cond.selects y.cls y y ∈ lw_tbl) (hle : (lg_sl as).length ≤ maxL) (hG : ∀ (s U : State) H, s.WarmedH U.vm → G s H → G U H)
    (body : ∀ (p : Program) (e : Env) (s : State) (m : MethodId) (below : List Frame) (meth : Method) (c : Code) (ls : Array Slot), CallFix p m c cc maxL s as.toArray T0 own → meth.sig.returnType = ret → meth.locks = false → G s s.heap → lv_has ls maxL (lv_args 0 as) →
      W p l e { frames := fr, cells := 0, slots := 0, locals := lo } s m as.toArray below meth c s.heap [] 0 0 (MQ below (fun _ st oc t => (∃ v, oc = .returned v ∧ rv v) ∧ t.heap = st.heap) as.toArray s 0 0 (fun _ => False)) (F0 m 0 ls [])) : zRO l y fr need as G rv := by
  refine ⟨cc, maxL, lo, ret, nA, hz, hn, ⟨hd.1, hd.2.1, hd.2.2, hA⟩, hG, ?_⟩
  refine Met.ofW (ws' := T0) hy rfl ?_
  intro p e s m args below meth c s₁ B hml hv
  obtain ⟨hv, hAt⟩ := hv
  subst hv
  have hts := atoms_spec (ws := Cond.code y cc maxL ret :: T0) B.pre
  have hown : s.vm.findClass own = some m.cls := by rw [ho]; exact findClass_of_methodNamed B.named
  rw [lg_entry_eq]
  exact body p e s m below meth c _ ⟨B.exec, B.bytes, hml, hown, fun w h => hts w (List.mem_cons_of_mem _ h)⟩ B.returns B.notSynchronized hAt (lv_entry as hle)
end MA
section MB
variable {p : Program} {l : Launch} {e : Env} {R : Room} {s : State} {m : MethodId} {args : Array Value} {below : List Frame} {meth : Method} {c : Code} {H : Heap} {locs : List Loc} {cells slots : Nat} {Q : State → Prop}
variable {cc : ByteArray} {pc nL : Nat} {ls : Array Slot} {rest st : List Value} {own : String} {lv : List (Nat × Value)} {D : va_G} {cB : ClassId} {ci : Nat} {cJ : ClassId} {o a : Nat} {ce : Nat → Nat} {fs : List Value} {A : Nat → Prop} {b v n k : Nat}
theorem zro_run {mc ms : Nat} {rv : Option Value → Prop} (hr : va_Run p l e R s m args below meth c H locs cells slots 0 0 (F0 m pc ls st) rest (fun st oc t => (∃ v, oc = .returned v ∧ rv v) ∧ t.heap = st.heap) (fun _ => False))
    (kk : ∀ v, rv v → W p l e R s m args below meth c H locs cells slots Q (F0 m (pc + 3) ls (v.toList ++ rest))) : W p l e R s m args below meth c H locs cells slots Q (F0 m pc ls st) := by
  intro T hT X
  obtain ⟨v2, st₀, t, T', L, h0, X', hL, e1, e2, ⟨⟨v, hv, hrv⟩, hh⟩, st2⟩ := hr T hT X
  cases hv
  have hL0 : L = [] := by
    cases L with
    | nil => rfl
    | cons q L => exact (hL q List.mem_cons_self).elim
  subst hL0
  rw [List.append_nil] at X'
  obtain ⟨t2, a1, b1⟩ := kk v2 hrv T' (by rw [e1, hh, h0]) X'
  exact ⟨t2, st2 t2 a1, b1⟩
theorem zro_callS (C : CallFix p m c cc nL s args T0 own) {y : MethodName} {fr need idx : Nat} {as : List Value} {G : State → Heap → Prop} {rv : Option Value → Prop} (hM : zRO l y fr need as G rv) (hst9 : Cond.static y ∈ lw_tbl) (hlen : (parseMethodDescriptor y.desc).map (fun d => d.parameters.length) = some as.length) (hGs : G s H) (hG : Cond.methodLink own idx y ∈ lw_tbl) (hR : fr + 1 ≤ R.frames ∧ need ≤ R.locals) (hf : cells ≤ R.cells ∧ slots ≤ R.slots) (hl : lv_has ls nL lv) (hcat : (rest.map fun v => v.category).sum ≤ 8) (hst : st = as.reverse ++ rest) (d : decode cc pc = .ok (.invokestatic idx, 3))
    (kk : ∀ v, rv v → W p l e R s m args below meth c H locs cells slots Q (F0 m (pc + 3) ls (v.toList ++ rest))) : W p l e R s m args below meth c H locs cells slots Q (F0 m pc ls st) := by
  obtain ⟨bytes, maxL, lo, ret, nA, hz, hn, hd, hGm, hM⟩ := hM
  have cw := va_cwS (R := R) (bytes := bytes) (maxL := maxL) (ret := ret) (ws' := T0) (rm := { frames := fr, cells := 0, slots := 0, locals := lo }) as.length C.2.2.2.2 (zg hG ⟨hst9, hz.1, hz.2⟩) rfl rfl rfl ⟨hd.1, hd.2.1, hlen⟩ ⟨hR.1, by rw [hn] at hR; exact hR.2⟩
  have hr := va_runS (p := p) (l := l) (e := e) (below := below) (meth := meth) (c := c) (H := H) (locs := locs) (cells := cells) (slots := slots) (g := F0 m pc ls st) (rest := rest) C hM cw ⟨fun A U g mk q => ⟨q.1, hGm U (U.calling g mk A) U.heap (State.WarmedH.refl U) q.2⟩, fun U hU hW => ⟨rfl, by rw [hU]; exact hGm s U H hW hGs⟩⟩ rfl rfl hl.1 hst (lv_room hcat) d ⟨by simpa using hf.1, by simpa using hf.2⟩
  exact zro_run (mc := 0) (ms := 0) hr kk
theorem zro_callV (C : CallFix p m c cc nL s args T0 own) {y : MethodName} {fr need idx : Nat} {as : List Value} {G : State → Heap → Prop} {rv : Option Value → Prop} (hM : zRO l y fr need (.ref b :: as) G rv) (him : Cond.instanceMethod y ∈ lw_tbl) (hsl : Cond.selects y.cls y y ∈ lw_tbl) (hlen : (parseMethodDescriptor y.desc).map (fun d => d.parameters.length) = some as.length) (hO : va_O y.cls b A s H) (hGs : G s H) (hG : Cond.methodLink own idx y ∈ lw_tbl) (hR : fr + 1 ≤ R.frames ∧ need ≤ R.locals) (hf : cells ≤ R.cells ∧ slots ≤ R.slots) (hl : lv_has ls nL lv) (hcat : (rest.map fun v => v.category).sum ≤ 8) (hst : st = as.reverse ++ .ref b :: rest) (d : decode cc pc = .ok (.invokevirtual idx, 3))
    (kk : ∀ v, rv v → W p l e R s m args below meth c H locs cells slots Q (F0 m (pc + 3) ls (v.toList ++ rest))) : W p l e R s m args below meth c H locs cells slots Q (F0 m pc ls st) := by
  obtain ⟨bytes, maxL, lo, ret, nA, hz, hn, hd, hGm, hM⟩ := hM
  have cw : CallW R s args own y.cls idx y bytes maxL ret (Cond.code y bytes maxL ret :: T0) { frames := fr, cells := 0, slots := 0, locals := lo } 0 0 as.length :=
    ⟨callB_of as.length C.2.2.2.2 (zgB hz.2) rfl rfl rfl (C.2.2.2.2 _ (T0_of hz.1 rfl)) (C.2.2.2.2 _ (T0_of hG rfl)) ⟨hd.1, hd.2.1, hlen⟩ ⟨hR.1, by rw [hn] at hR; exact hR.2⟩, C.2.2.2.2 _ (T0_of him rfl), C.2.2.2.2 _ (T0_of hsl rfl)⟩
  obtain ⟨cell, c1, c2, c3, -⟩ := hO
  have hr := va_runV (p := p) (l := l) (e := e) (below := below) (meth := meth) (c := c) (H := H) (locs := locs) (cells := cells) (slots := slots) (g := F0 m pc ls st) (rest := rest) C hM cw ⟨fun A U g mk q => ⟨q.1, hGm U (U.calling g mk A) U.heap (State.WarmedH.refl U) q.2⟩, ⟨cell, c1, c2, c3⟩, fun U hU hW => ⟨rfl, by rw [hU]; exact hGm s U H hW hGs⟩⟩ rfl rfl hl.1 hst (lv_room hcat) d ⟨by simpa using hf.1, by simpa using hf.2⟩
  exact zro_run (mc := 0) (ms := 0) hr kk
theorem zro_iret {as : List Value} {rv : Option Value → Prop} {r : Int32} {ty : FieldType} (C : CallFix p m c cc nL s as.toArray T0 own) (hr : meth.sig.returnType = some ty) (hk : meth.locks = false) (d : decode cc pc = .ok (.ireturn, 1)) (hn : narrow ty (.int r) = .int r) (hv : rv (some (.int r))) : W p l e R s m as.toArray below meth c s.heap [] 0 0 (MQ below (fun _ st oc t => (∃ v, oc = .returned v ∧ rv v) ∧ t.heap = st.heap) as.toArray s 0 0 (fun _ => False)) (F0 m pc ls [.int r]) :=
  W.zret C.1 C.2.1 hr hn (fun t ht _ => ⟨⟨_, rfl, hv⟩, ht⟩) (fun q h => by cases h) d hk
theorem zro_vret {as : List Value} {rv : Option Value → Prop} (C : CallFix p m c cc nL s as.toArray T0 own) (hr : meth.sig.returnType = none) (hk : meth.locks = false) (d : decode cc pc = .ok (.return_, 1)) (hv : rv none) : W p l e R s m as.toArray below meth c s.heap [] 0 0 (MQ below (fun _ st oc t => (∃ v, oc = .returned v ∧ rv v) ∧ t.heap = st.heap) as.toArray s 0 0 (fun _ => False)) (F0 m pc ls []) :=
  W.vret C.1 C.2.1 hr (fun t ht _ => ⟨⟨_, rfl, hv⟩, ht⟩) (fun q h => by cases h) d hk
theorem zo_callT (C : CallFix p m c cc nL s args T0 own) (B : zIn D ci cJ o a ce fs s H locs) (K : va_K D vwCl [(cB, .byte)] s) (V : zV (zF o a s.heap.size) s s.heap) (ho9 : o < s.heap.size ∧ a < s.heap.size) {y : MethodName} {fr need mc ms idx : Nat} {as : List Value} (hM : zTS l y fr need mc ms D cB as) (hG : Cond.methodLink own idx y ∈ lw_tbl) (hR : fr + 1 ≤ R.frames ∧ need ≤ R.locals) (hf : cells + mc ≤ R.cells ∧ slots + ms ≤ R.slots) (hl : lv_has ls nL lv) (hcat : (rest.map fun v => v.category).sum ≤ 8) (hst : st = as.reverse ++ rest) (d : decode cc pc = .ok (.invokestatic idx, 3))
    (kk : ∀ q H1 locs1, zIn D ci cJ o a ce fs s H1 locs1 → W p l e R s m args below meth c H1 locs1 (cells + mc) (slots + ms) Q (F0 m (pc + 3) ls (.ref q :: rest))) : W p l e R s m args below meth c H locs cells slots Q (F0 m pc ls st) := by
  obtain ⟨bytes, maxL, lo, ret, hz, hn, hd, hM⟩ := hM
  have hM := hM H.size
  have cw := va_cwS (R := R) (bytes := bytes) (maxL := maxL) (ret := ret) (ws' := T0) (rm := { frames := fr, cells := mc, slots := ms, locals := lo }) as.length C.2.2.2.2 (zg hG hz) rfl rfl rfl hd ⟨hR.1, by rw [hn] at hR; exact hR.2⟩
  have hr := va_runS (p := p) (l := l) (e := e) (below := below) (meth := meth) (c := c) (H := H) (locs := locs) (cells := cells) (slots := slots) (g := F0 m pc ls st) (rest := rest) C hM cw ⟨fun A U g mk q => ⟨q.1, q.2.1, va_K.moved (Vm.Alike.refl U.vm) q.2.2.1, q.2.2.2.warm (State.WarmedH.refl U)⟩, fun U hU hW => ⟨rfl, by rw [hU], va_K.moved hW.alike K, V.at B.2 hW hU (fun q hq => hq.elim)⟩⟩ rfl rfl hl.1 hst (lv_room hcat) d hf
  intro T9 hT X
  obtain ⟨v9, st₀, t, T', L, h0, X', hL, e1, e2, ⟨⟨q9, hv⟩, hF⟩, st2⟩ := hr T9 hT X
  cases hv
  obtain ⟨hz2, hk2⟩ := hF
  rw [h0] at hz2 hk2
  have hss : s.heap.size ≤ H.size := B.2.1
  have hke : ∀ x : Nat, x < H.size → T'.heap[x]? = H[x]? := fun x hx => by rw [e1]; exact hk2 x hx (by omega)
  have hS2 : va_S (zF o a s.heap.size) s.heap T'.heap (locs ++ L) := by
    refine ⟨Nat.le_trans hss (by rw [e1]; exact hz2), fun q h1 h2 => ?_, fun q hq => ?_⟩
    · rw [hke q (Nat.lt_of_lt_of_le h1 hss)]
      exact B.2.2.1 q h1 h2
    · rcases List.mem_append.mp hq with h | h
      · exact B.2.2.2 q h
      · exact Or.inr (Or.inr (Nat.le_trans hss (hL q h)))
  obtain ⟨t2, a1, b1⟩ := kk q9 T'.heap (locs ++ L) ⟨B.1.kept (hke o B.1.lt.1) (hke a B.1.lt.2), hS2⟩ T' rfl X'
  exact ⟨t2, st2 t2 a1, b1⟩
theorem zo_aret {as : List Value} {mc ms : Nat} {rv : Option Value → Prop} {c2 : Nat → Nat} {fs2 : List Value} {r : Nat} (C : CallFix p m c cc nL s as.toArray T0 own) (B : zIn D ci cJ o a ce fs s H locs) (hr : meth.sig.returnType = some (.object "java/lang/String")) (hk : meth.locks = false) (h1 : cells ≤ mc) (h2 : slots ≤ ms) (d : decode cc pc = .ok (.areturn, 1)) (hv : rv (some (.ref r))) (hc : ce = c2) (hfs : fs = fs2) : W p l e R s m as.toArray below meth c H locs cells slots (zE1 below D ci cJ o a as.toArray s mc ms rv c2 fs2) (F0 m pc ls [.ref r]) := by
  subst hc hfs
  refine W.widen (k := mc) (n := ms) h1 h2 ?_
  exact W.aret C.1 C.2.1 hr (Or.inl ⟨_, rfl⟩) (Or.inr ⟨r, rfl⟩) (fun t ht hW => ⟨⟨_, rfl, hv⟩, by rw [ht]; exact B.1.moved hW.alike, B.2.F ht⟩) B.2.2.2 d hk
end MB
section MC
/-- the text of the model's signs, at q -/
def zSg (q : Nat) (A : Nat → Prop) (U : State) (H : Heap) : Prop := ∃ (t : Nat) (g : Nat → Int32), va_O RJ0 q A U H ∧ va_OF RJ0 "coder" "B" (.int (iZ 0)) q A U H ∧ va_OF RJ0 "value" "[B" (.ref t) q A U H ∧ va_T .byte t 36 (fun j => .int (g j)) A U H
theorem zSg.warm {q : Nat} {A : Nat → Prop} {s U : State} {H : Heap} (hW : s.WarmedH U.vm) (h : zSg q A s H) : zSg q A U H := by
  obtain ⟨t, g, h1, h2, h3, h4⟩ := h
  exact ⟨t, g, h1.moved hW.alike, h2.moved hW.alike, h3.moved hW.alike, h4.moved hW.alike⟩
theorem zSg.kept {q : Nat} {A : Nat → Prop} {U : State} {H H1 : Heap} (h : zSg q A U H) (hq : ∀ a : Nat, a < H.size → ¬ A a → H1[a]? = H[a]?) : zSg q A U H1 := by
  obtain ⟨t, g, h1, h2, h3, h4⟩ := h
  exact ⟨t, g, h1.kept hq, h2.kept hq, h3.kept hq, h4.kept hq⟩
theorem zSg.nar {q : Nat} {A B : Nat → Prop} {U : State} {H : Heap} (h : zSg q A U H) (hq : ∀ q, q < H.size → B q → A q) : zSg q B U H := by
  obtain ⟨t, g, h1, h2, h3, h4⟩ := h
  exact ⟨t, g, va_O_nar h1 hq, va_OF_nar h2 hq, va_OF_nar h3 hq, va_T_nar h4 hq⟩
def zGv (U : State) (H : Heap) : Prop := zV (fun _ => False) U H
def zGt (t : Nat) (U : State) (H : Heap) : Prop := zV (fun _ => False) U H ∧ ∃ g : Nat → Int32, va_T .byte t 36 (fun j => .int (g j)) (fun _ => False) U H
def zGs (q : Nat) (U : State) (H : Heap) : Prop := zV (fun _ => False) U H ∧ zSg q (fun _ => False) U H
theorem zGv.warm (s U : State) (H : Heap) (hW : s.WarmedH U.vm) (h : zGv s H) : zGv U H := zV.warm hW h
theorem zGt.warm (t : Nat) (s U : State) (H : Heap) (hW : s.WarmedH U.vm) (h : zGt t s H) : zGt t U H := ⟨h.1.warm hW, h.2.imp fun _ g => g.moved hW.alike⟩
theorem zGs.warm (q : Nat) (s U : State) (H : Heap) (hW : s.WarmedH U.vm) (h : zGs q s H) : zGs q U H := ⟨h.1.warm hW, h.2.warm hW⟩
set_option maxHeartbeats 4000000 in
theorem c_J3_checkIndex_null (l : Launch) (i n : Int) (h : 0 ≤ i ∧ i < n ∧ n ≤ 100000) : zP l yJ3_checkIndex_8e157 1 22 [.int (iZ i), .int (iZ n), .null] (.int (iZ i)) := by
  refine zP.intro (lo := 0) (nA := 3) (own := RJ3) zs_J3_checkIndex_8e157 (by decide) rfl rfl (by decide +kernel) rfl (Nat.le_of_ble_eq_true rfl) ?_
  intro p e s m below meth c ls C hr hk hl
  have hl : lv_has ls 3 [(0, .int (iZ i)), (1, .int (iZ n)), (2, .null)] := hl
  refine lv_iload_n C.1 C.2.1 dJ3_checkIndex_8e157_0 rfl (lv_at hl 0 rfl) ?_
  refine z_if_lt (tgt := 9) C (by omega) dJ3_checkIndex_8e157_1 (by decide) (fun g => absurd g (by omega)) (fun _ => ?_)
  refine lv_iload_n C.1 C.2.1 dJ3_checkIndex_8e157_4 rfl (lv_at hl 0 rfl) ?_
  refine lv_iload_n C.1 C.2.1 dJ3_checkIndex_8e157_5 rfl (lv_at hl 1 rfl) ?_
  refine z_icmp_lt (tgt := 16) C (by omega) (by omega) dJ3_checkIndex_8e157_6 (by decide) (fun _ => ?_) (fun g => absurd g (by omega))
  refine lv_iload_n C.1 C.2.1 dJ3_checkIndex_8e157_16 rfl (lv_at hl 0 rfl) ?_
  exact z_iret C hr hk dJ3_checkIndex_8e157_17 rfl
set_option maxHeartbeats 4000000 in
theorem c_J3_checkIndex_ref (l : Launch) (i n : Int) (f : Nat) (h : 0 ≤ i ∧ i < n ∧ n ≤ 100000) : zP l yJ3_checkIndex_8e157 1 22 [.int (iZ i), .int (iZ n), .ref f] (.int (iZ i)) := by
  refine zP.intro (lo := 0) (nA := 3) (own := RJ3) zs_J3_checkIndex_8e157 (by decide) rfl rfl (by decide +kernel) rfl (Nat.le_of_ble_eq_true rfl) ?_
  intro p e s m below meth c ls C hr hk hl
  have hl : lv_has ls 3 [(0, .int (iZ i)), (1, .int (iZ n)), (2, .ref f)] := hl
  refine lv_iload_n C.1 C.2.1 dJ3_checkIndex_8e157_0 rfl (lv_at hl 0 rfl) ?_
  refine z_if_lt (tgt := 9) C (by omega) dJ3_checkIndex_8e157_1 (by decide) (fun g => absurd g (by omega)) (fun _ => ?_)
  refine lv_iload_n C.1 C.2.1 dJ3_checkIndex_8e157_4 rfl (lv_at hl 0 rfl) ?_
  refine lv_iload_n C.1 C.2.1 dJ3_checkIndex_8e157_5 rfl (lv_at hl 1 rfl) ?_
  refine z_icmp_lt (tgt := 16) C (by omega) (by omega) dJ3_checkIndex_8e157_6 (by decide) (fun _ => ?_) (fun g => absurd g (by omega))
  refine lv_iload_n C.1 C.2.1 dJ3_checkIndex_8e157_16 rfl (lv_at hl 0 rfl) ?_
  exact z_iret C hr hk dJ3_checkIndex_8e157_17 rfl
set_option maxHeartbeats 4000000 in
theorem c_J0_checkIndex (l : Launch) (i n : Int) (h : 0 ≤ i ∧ i < n ∧ n ≤ 100000) : zRO l yJ0_checkIndex_df160 2 43 [.int (iZ i), .int (iZ n)] zGv (fun v => v = none) := by
  refine zRO.intro (lo := 22) (nA := 2) (own := RJ0) ⟨ini_J0, zs_J0_checkIndex_df160.2.2⟩ (by decide) rfl rfl (by decide +kernel) (Or.inl ⟨rfl, zs_J0_checkIndex_df160.1⟩) (Nat.le_of_ble_eq_true rfl) zGv.warm ?_
  intro p e s m below meth c ls C hr hk V hl
  have hl : lv_has ls 2 [(0, .int (iZ i)), (1, .int (iZ n))] := hl
  refine lv_iload_n C.1 C.2.1 dJ0_checkIndex_df160_0 rfl (lv_at hl 0 rfl) ?_
  refine lv_iload_n C.1 C.2.1 dJ0_checkIndex_df160_1 rfl (lv_at hl 1 rfl) ?_
  rcases V.2.1 with g | ⟨f, g⟩
  · refine zv_gets (A := fun _ => False) C g va_S.rf fl_J0_1053 dJ0_checkIndex_df160_2 ?_
    refine z_call C (c_J3_checkIndex_null l i n h) ml_J0_1059 ⟨by decide, by decide⟩ ⟨Nat.le_of_ble_eq_true rfl, Nat.le_of_ble_eq_true rfl⟩ hl (Nat.le_of_ble_eq_true rfl) rfl dJ0_checkIndex_df160_5 ?_
    refine lv_pop C.1 C.2.1 dJ0_checkIndex_df160_8 rfl ?_
    exact zro_vret C hr hk dJ0_checkIndex_df160_9 rfl
  · refine zv_gets (A := fun _ => False) C g va_S.rf fl_J0_1053 dJ0_checkIndex_df160_2 ?_
    refine z_call C (c_J3_checkIndex_ref l i n f h) ml_J0_1059 ⟨by decide, by decide⟩ ⟨Nat.le_of_ble_eq_true rfl, Nat.le_of_ble_eq_true rfl⟩ hl (Nat.le_of_ble_eq_true rfl) rfl dJ0_checkIndex_df160_5 ?_
    refine lv_pop C.1 C.2.1 dJ0_checkIndex_df160_8 rfl ?_
    exact zro_vret C hr hk dJ0_checkIndex_df160_9 rfl
/-- a sign's number -/
def zch (v : Option Value) : Prop := ∃ x : Int, v = some (.int (iZ x)) ∧ 0 ≤ x ∧ x ≤ 255
theorem iZ_and255 (x : Int32) : ∃ z : Int, x &&& iZ 255 = iZ z ∧ 0 ≤ z ∧ z ≤ 255 := by
  obtain ⟨j, h1, h2⟩ := pk_andE x (m := iZ 255) 8 (by decide)
  exact ⟨(j : Int), by rw [h2, iZ_nI], by omega, by omega⟩
set_option maxHeartbeats 4000000 in
theorem c_J1_charAt (l : Launch) (t : Nat) (i : Int) (h : 0 ≤ i ∧ i < 36) : zRO l yJ1_charAt_3b067 3 64 [.ref t, .int (iZ i)] (zGt t) zch := by
  refine zRO.intro (lo := 43) (nA := 2) (own := RJ1) ⟨ini_J1, zs_J1_charAt_3b067.2.2⟩ (by decide) rfl rfl (by decide +kernel) (Or.inl ⟨rfl, zs_J1_charAt_3b067.1⟩) (Nat.le_of_ble_eq_true rfl) (zGt.warm t) ?_
  intro p e s m below meth c ls C hr hk V hl
  obtain ⟨V, g, hT⟩ := V
  have hl : lv_has ls 2 [(0, .ref t), (1, .int (iZ i))] := hl
  refine lv_iload_n C.1 C.2.1 dJ1_charAt_3b067_0 rfl (lv_at hl 1 rfl) ?_
  refine lv_aload_n C.1 C.2.1 dJ1_charAt_3b067_1 rfl (lv_at hl 0 rfl) ?_
  refine va_tlen (v := iZ 36) C.1 C.2.1 hT va_S.rf rfl dJ1_charAt_3b067_2 ?_
  refine zro_callS C (c_J0_checkIndex l i 36 (by omega)) zs_J0_checkIndex_df160.1 (show _ = some 2 from by decide +kernel) V ml_J1_9 ⟨Nat.le_of_ble_eq_true rfl, Nat.le_of_ble_eq_true rfl⟩ ⟨Nat.le_of_ble_eq_true rfl, Nat.le_of_ble_eq_true rfl⟩ hl (Nat.le_of_ble_eq_true rfl) rfl dJ1_charAt_3b067_3 (fun v hv => ?_)
  subst hv
  refine lv_aload_n C.1 C.2.1 dJ1_charAt_3b067_6 rfl (lv_at hl 0 rfl) ?_
  refine lv_iload_n C.1 C.2.1 dJ1_charAt_3b067_7 rfl (lv_at hl 1 rfl) ?_
  refine zv_tb C hT va_S.rf i.toNat (by omega) (by omega) (by decide) dJ1_charAt_3b067_8 (fun x => ?_)
  refine z_sipush C dJ1_charAt_3b067_9 (by decide) ?_
  refine lv_iand C.1 C.2.1 dJ1_charAt_3b067_12 ?_
  obtain ⟨z, hz, hz2⟩ := iZ_and255 x
  rw [hz]
  refine z_i2c C (by omega) dJ1_charAt_3b067_13 ?_
  exact zro_iret C hr hk dJ1_charAt_3b067_14 (zn_char (by omega)) ⟨z, rfl, hz2⟩
set_option maxHeartbeats 4000000 in
theorem c_J0_isLatin1 (l : Launch) (q : Nat) : zRO l yJ0_isLatin1_aae02 1 20 [.ref q] (zGs q) (fun v => v = some (.int (iZ 1))) := by
  refine zRO.intro (lo := 0) (nA := 0) (own := RJ0) ⟨ini_J0, zi_J0_isLatin1_aae02.2.2.2⟩ (by decide) rfl rfl (by decide +kernel) (Or.inr ⟨rfl, zi_J0_isLatin1_aae02.1, zi_J0_isLatin1_aae02.2.1⟩) (Nat.le_of_ble_eq_true rfl) (zGs.warm q) ?_
  intro p e s m below meth c ls C hr hk V hl
  obtain ⟨V, t, g, g1, g2, g3, g4⟩ := V
  have hl : lv_has ls 1 [(0, .ref q)] := hl
  refine zv_cs (A := fun _ => False) C V va_S.rf fl_J0_38 dJ0_isLatin1_aae02_0 ?_
  refine z_if_eq (tgt := 17) C (by omega) dJ0_isLatin1_aae02_3 (by decide) (fun h => absurd h (by decide)) (fun _ => ?_)
  refine lv_aload_n C.1 C.2.1 dJ0_isLatin1_aae02_6 rfl (lv_at hl 0 rfl) ?_
  refine vk_getf C.1 C.2.1 g2 va_S.rf C.2.2.2.1 (C.2.2.2.2 _ (T0_of fl_J0_15 rfl)) (fun x h => h) dJ0_isLatin1_aae02_7 ?_
  refine z_if_ne (tgt := 17) C (by omega) dJ0_isLatin1_aae02_10 (by decide) (fun h => absurd rfl h) (fun _ => ?_)
  refine z_iconst C dJ0_isLatin1_aae02_13 ?_
  refine lv_goto (tgt := 18) C.1 C.2.1 dJ0_isLatin1_aae02_14 (by decide) ?_
  exact zro_iret C hr hk dJ0_isLatin1_aae02_18 (by decide) rfl
set_option maxHeartbeats 4000000 in
theorem c_J0_charAt (l : Launch) (q : Nat) (i : Int) (h : 0 ≤ i ∧ i < 36) : zRO l yJ0_charAt_5068e 4 85 [.ref q, .int (iZ i)] (zGs q) zch := by
  refine zRO.intro (lo := 64) (nA := 1) (own := RJ0) ⟨ini_J0, zi_J0_charAt_5068e.2.2.2⟩ (by decide) rfl rfl (by decide +kernel) (Or.inr ⟨rfl, zi_J0_charAt_5068e.1, zi_J0_charAt_5068e.2.1⟩) (Nat.le_of_ble_eq_true rfl) (zGs.warm q) ?_
  intro p e s m below meth c ls C hr hk V hl
  have V9 := V
  obtain ⟨V, t, g, g1, g2, g3, g4⟩ := V
  have hl : lv_has ls 2 [(0, .ref q), (1, .int (iZ i))] := hl
  refine lv_aload_n C.1 C.2.1 dJ0_charAt_5068e_0 rfl (lv_at hl 0 rfl) ?_
  refine zro_callV (as := []) C (c_J0_isLatin1 l q) zi_J0_isLatin1_aae02.1 zi_J0_isLatin1_aae02.2.1 (by decide +kernel) g1 V9 ml_J0_492 ⟨Nat.le_of_ble_eq_true rfl, Nat.le_of_ble_eq_true rfl⟩ ⟨Nat.le_of_ble_eq_true rfl, Nat.le_of_ble_eq_true rfl⟩ hl (Nat.le_of_ble_eq_true rfl) rfl dJ0_charAt_5068e_1 (fun v hv => ?_)
  subst hv
  refine z_if_eq (tgt := 16) C (by omega) dJ0_charAt_5068e_4 (by decide) (fun h => absurd h (by decide)) (fun _ => ?_)
  refine lv_aload_n C.1 C.2.1 dJ0_charAt_5068e_7 rfl (lv_at hl 0 rfl) ?_
  refine vk_getf C.1 C.2.1 g3 va_S.rf C.2.2.2.1 (C.2.2.2.2 _ (T0_of fl_J0_9 rfl)) (fun x h => h) dJ0_charAt_5068e_8 ?_
  refine lv_iload_n C.1 C.2.1 dJ0_charAt_5068e_11 rfl (lv_at hl 1 rfl) ?_
  refine zro_callS C (c_J1_charAt l t i h) zs_J1_charAt_3b067.1 (show _ = some 2 from by decide +kernel) ⟨V, g, g4⟩ ml_J0_495 ⟨Nat.le_of_ble_eq_true rfl, Nat.le_of_ble_eq_true rfl⟩ ⟨Nat.le_of_ble_eq_true rfl, Nat.le_of_ble_eq_true rfl⟩ hl (Nat.le_of_ble_eq_true rfl) rfl dJ0_charAt_5068e_12 (fun v hv => ?_)
  obtain ⟨z, rfl, hz⟩ := hv
  exact zro_iret C hr hk dJ0_charAt_5068e_15 (zn_char (by omega)) ⟨z, rfl, hz⟩
end MC
