/-! WORDS OF THE TABLES, FIELDS, CLASSES that the walk asks of the state behind the script's first two calls; methods, the decoding of the instructions that are walked -/
abbrev mb_isIn : ByteArray := prog_10_method_2_code
def my_isIn : MethodName := ⟨"TimeStoreModel", "isIn", "(III)Z"⟩
theorem md_isIn_0 : decode mb_isIn 0 = .ok (.iload_n 0, 1) := by decide +kernel
theorem md_isIn_1 : decode mb_isIn 1 = .ok (.iload_n 1, 1) := by decide +kernel
theorem md_isIn_2 : decode mb_isIn 2 = .ok (.if_icmp .lt 12, 3) := by decide +kernel
theorem md_isIn_5 : decode mb_isIn 5 = .ok (.iload_n 0, 1) := by decide +kernel
theorem md_isIn_6 : decode mb_isIn 6 = .ok (.iload_n 2, 1) := by decide +kernel
theorem md_isIn_7 : decode mb_isIn 7 = .ok (.if_icmp .gt 7, 3) := by decide +kernel
theorem md_isIn_10 : decode mb_isIn 10 = .ok (.iconst 1, 1) := by decide +kernel
theorem md_isIn_11 : decode mb_isIn 11 = .ok (.goto 4, 3) := by decide +kernel
theorem md_isIn_14 : decode mb_isIn 14 = .ok (.iconst 0, 1) := by decide +kernel
theorem md_isIn_15 : decode mb_isIn 15 = .ok (.ireturn, 1) := by decide +kernel
abbrev mb_refuse : ByteArray := prog_10_method_5_code
def my_refuse : MethodName := ⟨"TimeStoreModel", "refuse", "(ZI)Z"⟩
theorem md_refuse_0 : decode mb_refuse 0 = .ok (.iload_n 1, 1) := by decide +kernel
theorem md_refuse_1 : decode mb_refuse 1 = .ok (.ifCond .eq 15, 3) := by decide +kernel
theorem md_refuse_16 : decode mb_refuse 16 = .ok (.aload_n 0, 1) := by decide +kernel
theorem md_refuse_17 : decode mb_refuse 17 = .ok (.getfield 53, 3) := by decide +kernel
theorem md_refuse_20 : decode mb_refuse 20 = .ok (.ifCond .le 7, 3) := by decide +kernel
theorem md_refuse_27 : decode mb_refuse 27 = .ok (.iconst 0, 1) := by decide +kernel
theorem md_refuse_28 : decode mb_refuse 28 = .ok (.ireturn, 1) := by decide +kernel
abbrev mb_start : ByteArray := prog_10_method_6_code
def my_start : MethodName := ⟨"TimeStoreModel", "start", "(ZI)Z"⟩
theorem md_start_0 : decode mb_start 0 = .ok (.aload_n 0, 1) := by decide +kernel
theorem md_start_1 : decode mb_start 1 = .ok (.iconst 0, 1) := by decide +kernel
theorem md_start_2 : decode mb_start 2 = .ok (.putfield 53, 3) := by decide +kernel
theorem md_start_5 : decode mb_start 5 = .ok (.aload_n 0, 1) := by decide +kernel
theorem md_start_6 : decode mb_start 6 = .ok (.iload_n 1, 1) := by decide +kernel
theorem md_start_7 : decode mb_start 7 = .ok (.iload_n 2, 1) := by decide +kernel
theorem md_start_8 : decode mb_start 8 = .ok (.invokevirtual 57, 3) := by decide +kernel
theorem md_start_11 : decode mb_start 11 = .ok (.ireturn, 1) := by decide +kernel
abbrev mb_size : ByteArray := prog_37_method_8_code
def my_size : MethodName := ⟨"java/util/ArrayList", "size", "()I"⟩
theorem md_size_0 : decode mb_size 0 = .ok (.aload_n 0, 1) := by decide +kernel
theorem md_size_1 : decode mb_size 1 = .ok (.getfield 48, 3) := by decide +kernel
theorem md_size_4 : decode mb_size 4 = .ok (.ireturn, 1) := by decide +kernel
abbrev mb_isNoWin : ByteArray := prog_10_method_57_code
def my_isNoWin : MethodName := ⟨"TimeStoreModel", "isNoWindow", "(I)Z"⟩
theorem md_isNoWin_0 : decode mb_isNoWin 0 = .ok (.iload_n 1, 1) := by decide +kernel
theorem md_isNoWin_1 : decode mb_isNoWin 1 = .ok (.iconst 0, 1) := by decide +kernel
theorem md_isNoWin_2 : decode mb_isNoWin 2 = .ok (.aload_n 0, 1) := by decide +kernel
theorem md_isNoWin_3 : decode mb_isNoWin 3 = .ok (.getfield 47, 3) := by decide +kernel
theorem md_isNoWin_6 : decode mb_isNoWin 6 = .ok (.invokevirtual 119, 3) := by decide +kernel
theorem md_isNoWin_9 : decode mb_isNoWin 9 = .ok (.iconst 1, 1) := by decide +kernel
theorem md_isNoWin_10 : decode mb_isNoWin 10 = .ok (.isub, 1) := by decide +kernel
theorem md_isNoWin_11 : decode mb_isNoWin 11 = .ok (.invokestatic 61, 3) := by decide +kernel
theorem md_isNoWin_14 : decode mb_isNoWin 14 = .ok (.ifCond .ne 7, 3) := by decide +kernel
theorem md_isNoWin_21 : decode mb_isNoWin 21 = .ok (.iconst 0, 1) := by decide +kernel
theorem md_isNoWin_22 : decode mb_isNoWin 22 = .ok (.ireturn, 1) := by decide +kernel
abbrev mb_preCheck : ByteArray := prog_47_method_11_code
def my_preCheck : MethodName := ⟨"jdk/internal/util/Preconditions", "checkIndex", "(IILjava/util/function/BiFunction;)I"⟩
theorem md_preCheck_0 : decode mb_preCheck 0 = .ok (.iload_n 0, 1) := by decide +kernel
theorem md_preCheck_1 : decode mb_preCheck 1 = .ok (.ifCond .lt 8, 3) := by decide +kernel
theorem md_preCheck_4 : decode mb_preCheck 4 = .ok (.iload_n 0, 1) := by decide +kernel
theorem md_preCheck_5 : decode mb_preCheck 5 = .ok (.iload_n 1, 1) := by decide +kernel
theorem md_preCheck_6 : decode mb_preCheck 6 = .ok (.if_icmp .lt 10, 3) := by decide +kernel
theorem md_preCheck_16 : decode mb_preCheck 16 = .ok (.iload_n 0, 1) := by decide +kernel
theorem md_preCheck_17 : decode mb_preCheck 17 = .ok (.ireturn, 1) := by decide +kernel
abbrev mb_objCheck : ByteArray := prog_43_method_17_code
def my_objCheck : MethodName := ⟨"java/util/Objects", "checkIndex", "(II)I"⟩
theorem md_objCheck_0 : decode mb_objCheck 0 = .ok (.iload_n 0, 1) := by decide +kernel
theorem md_objCheck_1 : decode mb_objCheck 1 = .ok (.iload_n 1, 1) := by decide +kernel
theorem md_objCheck_2 : decode mb_objCheck 2 = .ok (.aconst_null, 1) := by decide +kernel
theorem md_objCheck_3 : decode mb_objCheck 3 = .ok (.invokestatic 105, 3) := by decide +kernel
theorem md_objCheck_6 : decode mb_objCheck 6 = .ok (.ireturn, 1) := by decide +kernel
abbrev mb_elemData : ByteArray := prog_37_method_18_code
def my_elemData : MethodName := ⟨"java/util/ArrayList", "elementData", "(I)Ljava/lang/Object;"⟩
theorem md_elemData_0 : decode mb_elemData 0 = .ok (.aload_n 0, 1) := by decide +kernel
theorem md_elemData_1 : decode mb_elemData 1 = .ok (.getfield 9, 3) := by decide +kernel
theorem md_elemData_4 : decode mb_elemData 4 = .ok (.iload_n 1, 1) := by decide +kernel
theorem md_elemData_5 : decode mb_elemData 5 = .ok (.aaload, 1) := by decide +kernel
theorem md_elemData_6 : decode mb_elemData 6 = .ok (.areturn, 1) := by decide +kernel
abbrev mb_get : ByteArray := prog_37_method_20_code
def my_get : MethodName := ⟨"java/util/ArrayList", "get", "(I)Ljava/lang/Object;"⟩
theorem md_get_0 : decode mb_get 0 = .ok (.iload_n 1, 1) := by decide +kernel
theorem md_get_1 : decode mb_get 1 = .ok (.aload_n 0, 1) := by decide +kernel
theorem md_get_2 : decode mb_get 2 = .ok (.getfield 48, 3) := by decide +kernel
theorem md_get_5 : decode mb_get 5 = .ok (.invokestatic 118, 3) := by decide +kernel
theorem md_get_8 : decode mb_get 8 = .ok (.pop, 1) := by decide +kernel
theorem md_get_9 : decode mb_get 9 = .ok (.aload_n 0, 1) := by decide +kernel
theorem md_get_10 : decode mb_get 10 = .ok (.iload_n 1, 1) := by decide +kernel
theorem md_get_11 : decode mb_get 11 = .ok (.invokevirtual 123, 3) := by decide +kernel
theorem md_get_14 : decode mb_get 14 = .ok (.areturn, 1) := by decide +kernel
abbrev mb_of : ByteArray := prog_10_method_7_code
def my_of : MethodName := ⟨"TimeStoreModel", "of", "(I)Ljava/util/ArrayList;"⟩
theorem md_of_0 : decode mb_of 0 = .ok (.iload_n 1, 1) := by decide +kernel
theorem md_of_1 : decode mb_of 1 = .ok (.ifCond .ne 10, 3) := by decide +kernel
theorem md_of_4 : decode mb_of 4 = .ok (.aload_n 0, 1) := by decide +kernel
theorem md_of_5 : decode mb_of 5 = .ok (.getfield 10, 3) := by decide +kernel
theorem md_of_8 : decode mb_of 8 = .ok (.goto 7, 3) := by decide +kernel
theorem md_of_15 : decode mb_of 15 = .ok (.areturn, 1) := by decide +kernel
def rf_W0 : List Cond := [.fieldLink "TimeStoreModel" 53 "TimeStoreModel" "thrown" "I", .methodLink "TimeStoreModel" 57 my_refuse, .code my_refuse mb_refuse 3 (some .boolean), .initialized "TimeStoreModel", .instanceMethod my_refuse, .selects "TimeStoreModel" my_refuse my_refuse, .fieldLink "java/util/ArrayList" 48 "java/util/ArrayList" "size" "I", .fieldLink "TimeStoreModel" 47 "TimeStoreModel" "windows" "Ljava/util/ArrayList;", .methodLink "TimeStoreModel" 119 my_size, .code my_size mb_size 1 (some .int), .initialized "java/util/ArrayList", .instanceMethod my_size, .selects "java/util/ArrayList" my_size my_size, .methodLink "TimeStoreModel" 61 my_isIn, .code my_isIn mb_isIn 3 (some .boolean), .static my_isIn, .methodLink "java/util/Objects" 105 my_preCheck, .code my_preCheck mb_preCheck 3 (some .int), .initialized "jdk/internal/util/Preconditions", .static my_preCheck, .fieldLink "java/util/ArrayList" 9 "java/util/ArrayList" "elementData" "[Ljava/lang/Object;", .methodLink "java/util/ArrayList" 118 my_objCheck, .code my_objCheck mb_objCheck 2 (some .int), .initialized "java/util/Objects", .static my_objCheck, .methodLink "java/util/ArrayList" 123 my_elemData, .code my_elemData mb_elemData 2 (some (.object "java/lang/Object")), .instanceMethod my_elemData, .selects "java/util/ArrayList" my_elemData my_elemData, .fieldLink "TimeStoreModel" 10 "TimeStoreModel" "first" "Ljava/util/ArrayList;"]
def rf_W : List Cond := rf_W0
def rf_X : List Cond := []
/-- a field: class of the reference, name, descriptor; its slot, its class's number, final, its type -/
abbrev rf_Fd : Type := String × String × String × Nat × Nat × Bool × FieldType
abbrev qf_TimeStore_zero : rf_Fd := ("TimeStore", "zero", "LTimeStore$Store;", 0, 2, true, .object "TimeStore$Store")
abbrev qf_TimeStore_windows : rf_Fd := ("TimeStore", "windows", "[LTimeStore$Window;", 11, 2, true, .array (.object "TimeStore$Window"))
abbrev qf_TimeStore_windowCount : rf_Fd := ("TimeStore", "windowCount", "I", 12, 2, false, .int)
abbrev qf_TimeStoreWindow_store : rf_Fd := ("TimeStore$Window", "store", "I", 0, 7, false, .int)
abbrev qf_TimeStoreWindow_key : rf_Fd := ("TimeStore$Window", "key", "I", 1, 7, false, .int)
abbrev qf_TimeStoreWindow_from : rf_Fd := ("TimeStore$Window", "from", "I", 2, 7, false, .int)
abbrev qf_TimeStoreWindow_to : rf_Fd := ("TimeStore$Window", "to", "I", 3, 7, false, .int)
abbrev qf_TimeStoreStore_words : rf_Fd := ("TimeStore$Store", "words", "LTimeStore$Words;", 1, 3, true, .object "TimeStore$Words")
abbrev qf_TimeStoreWords_row : rf_Fd := ("TimeStore$Words", "row", "[J", 0, 4, false, .array .long)
abbrev qf_TimeStoreWords_size : rf_Fd := ("TimeStore$Words", "size", "I", 1, 4, false, .int)
abbrev qf_TimeStoreModel_thrown : rf_Fd := ("TimeStoreModel", "thrown", "I", 0, 9, false, .int)
abbrev qf_TimeStoreModel_first : rf_Fd := ("TimeStoreModel", "first", "Ljava/util/ArrayList;", 4, 9, true, .object "java/util/ArrayList")
abbrev qf_TimeStoreModel_windows : rf_Fd := ("TimeStoreModel", "windows", "Ljava/util/ArrayList;", 15, 9, true, .object "java/util/ArrayList")
abbrev qf_AbstractList_modCount : rf_Fd := ("java/util/AbstractList", "modCount", "I", 0, 43, false, .int)
abbrev qf_ArrayList_modCount : rf_Fd := ("java/util/ArrayList", "modCount", "I", 0, 43, false, .int)
abbrev qf_ArrayList_elementData : rf_Fd := ("java/util/ArrayList", "elementData", "[Ljava/lang/Object;", 1, 47, false, .array (.object "java/lang/Object"))
abbrev qf_ArrayList_size : rf_Fd := ("java/util/ArrayList", "size", "I", 2, 47, false, .int)
abbrev qf_ArrayListItr_cursor : rf_Fd := ("java/util/ArrayList$Itr", "cursor", "I", 0, 31, false, .int)
abbrev qf_ArrayListItr_lastRet : rf_Fd := ("java/util/ArrayList$Itr", "lastRet", "I", 1, 31, false, .int)
abbrev qf_ArrayListItr_expectedModCount : rf_Fd := ("java/util/ArrayList$Itr", "expectedModCount", "I", 2, 31, false, .int)
abbrev qf_ArrayListItr_this0 : rf_Fd := ("java/util/ArrayList$Itr", "this$0", "Ljava/util/ArrayList;", 3, 31, true, .object "java/util/ArrayList")
abbrev qf_TimeStoreLawOut_n : rf_Fd := ("TimeStoreLaw$Out", "n", "J", 0, 10, false, .long)
def rf_FL : List rf_Fd := [qf_TimeStore_zero, qf_TimeStore_windows, qf_TimeStore_windowCount, qf_TimeStoreWindow_store, qf_TimeStoreWindow_key, qf_TimeStoreWindow_from, qf_TimeStoreWindow_to, qf_TimeStoreStore_words, qf_TimeStoreWords_row, qf_TimeStoreWords_size, qf_TimeStoreModel_thrown, qf_TimeStoreModel_first, qf_TimeStoreModel_windows, qf_AbstractList_modCount, qf_ArrayList_modCount, qf_ArrayList_elementData, qf_ArrayList_size, qf_ArrayListItr_cursor, qf_ArrayListItr_lastRet, qf_ArrayListItr_expectedModCount, qf_ArrayListItr_this0, qf_TimeStoreLawOut_n]
/-- a class: name, number, the types of its objects' slots -/
abbrev qc_TimeStore : String × Nat × List FieldType := ("TimeStore", 2, [.object "TimeStore$Store", .object "TimeStore$Store", .object "TimeStore$Words", .object "TimeStore$Words", .object "TimeStore$Words", .array .int, .array .long, .array .long, .int, .array (.object "TimeStore$Watcher"), .int, .array (.object "TimeStore$Window"), .int, .array (.object "TimeStore$Snapshot"), .int, .int, .int])
abbrev qc_TimeStoreWindow : String × Nat × List FieldType := ("TimeStore$Window", 7, [.int, .int, .int, .int])
abbrev qc_TimeStoreWords : String × Nat × List FieldType := ("TimeStore$Words", 4, [.array .long, .int])
abbrev qc_TimeStoreModel : String × Nat × List FieldType := ("TimeStoreModel", 9, [.int, .int, .int, .long, .object "java/util/ArrayList", .object "java/util/ArrayList", .object "java/util/ArrayList", .array .int, .array .int, .array .int, .array .int, .object "java/util/ArrayList", .object "java/util/ArrayList", .object "java/util/ArrayList", .object "java/util/ArrayList", .object "java/util/ArrayList", .object "java/util/ArrayList"])
abbrev qc_TimeStoreLawOut : String × Nat × List FieldType := ("TimeStoreLaw$Out", 10, [.long, .object "java/lang/String"])
abbrev qc_ArrayList : String × Nat × List FieldType := ("java/util/ArrayList", 47, [.int, .array (.object "java/lang/Object"), .int])
abbrev qc_ArrayListItr : String × Nat × List FieldType := ("java/util/ArrayList$Itr", 31, [.int, .int, .int, .object "java/util/ArrayList"])
def rf_CL : List (String × Nat × List FieldType) := [qc_TimeStore, qc_TimeStoreWindow, qc_TimeStoreWords, qc_TimeStoreModel, qc_TimeStoreLawOut, qc_ArrayList, qc_ArrayListItr]
/-- array classes: number, the components' type -/
def rf_AL : List (Nat × FieldType) := [(49, .int), (51, .long), (55, .object "TimeStore$Window"), (57, .object "java/lang/Object")]
