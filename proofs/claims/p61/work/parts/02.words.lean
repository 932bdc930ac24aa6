/-! WORDS OF THE TABLES, FIELDS, CLASSES that the walk asks of the state behind the script's first two calls; methods, the decoding of the instructions that are walked -/
abbrev mb_isIn : ByteArray := prog_10_method_2_code
def my_isIn : MethodName := ⟨"TimeStoreModel", "isIn", "(III)Z"⟩
theorem md_isIn_0 : decode mb_isIn 0 = .ok (.iload_n 0, 1) := by decide +kernel
theorem md_isIn_1 : decode mb_isIn 1 = .ok (.iload_n 1, 1) := by decide +kernel
theorem md_isIn_2 : decode mb_isIn 2 = .ok (.if_icmp .lt 12, 3) := by decide +kernel
theorem md_isIn_5 : decode mb_isIn 5 = .ok (.iload_n 0, 1) := by decide +kernel
theorem md_isIn_6 : decode mb_isIn 6 = .ok (.iload_n 2, 1) := by decide +kernel
theorem md_isIn_7 : decode mb_isIn 7 = .ok (.if_icmp .gt 7, 3) := by decide +kernel
theorem md_isIn_10 : decode mb_isIn 10 = .ok (.iconst 1, 1) := by decide +kernel
theorem md_isIn_11 : decode mb_isIn 11 = .ok (.goto 4, 3) := by decide +kernel
theorem md_isIn_14 : decode mb_isIn 14 = .ok (.iconst 0, 1) := by decide +kernel
theorem md_isIn_15 : decode mb_isIn 15 = .ok (.ireturn, 1) := by decide +kernel
abbrev mb_refuse : ByteArray := prog_10_method_5_code
def my_refuse : MethodName := ⟨"TimeStoreModel", "refuse", "(ZI)Z"⟩
theorem md_refuse_0 : decode mb_refuse 0 = .ok (.iload_n 1, 1) := by decide +kernel
theorem md_refuse_1 : decode mb_refuse 1 = .ok (.ifCond .eq 15, 3) := by decide +kernel
theorem md_refuse_16 : decode mb_refuse 16 = .ok (.aload_n 0, 1) := by decide +kernel
theorem md_refuse_17 : decode mb_refuse 17 = .ok (.getfield 53, 3) := by decide +kernel
theorem md_refuse_20 : decode mb_refuse 20 = .ok (.ifCond .le 7, 3) := by decide +kernel
theorem md_refuse_27 : decode mb_refuse 27 = .ok (.iconst 0, 1) := by decide +kernel
theorem md_refuse_28 : decode mb_refuse 28 = .ok (.ireturn, 1) := by decide +kernel
abbrev mb_start : ByteArray := prog_10_method_6_code
def my_start : MethodName := ⟨"TimeStoreModel", "start", "(ZI)Z"⟩
theorem md_start_0 : decode mb_start 0 = .ok (.aload_n 0, 1) := by decide +kernel
theorem md_start_1 : decode mb_start 1 = .ok (.iconst 0, 1) := by decide +kernel
theorem md_start_2 : decode mb_start 2 = .ok (.putfield 53, 3) := by decide +kernel
theorem md_start_5 : decode mb_start 5 = .ok (.aload_n 0, 1) := by decide +kernel
theorem md_start_6 : decode mb_start 6 = .ok (.iload_n 1, 1) := by decide +kernel
theorem md_start_7 : decode mb_start 7 = .ok (.iload_n 2, 1) := by decide +kernel
theorem md_start_8 : decode mb_start 8 = .ok (.invokevirtual 57, 3) := by decide +kernel
theorem md_start_11 : decode mb_start 11 = .ok (.ireturn, 1) := by decide +kernel
abbrev mb_size : ByteArray := prog_37_method_8_code
def my_size : MethodName := ⟨"java/util/ArrayList", "size", "()I"⟩
theorem md_size_0 : decode mb_size 0 = .ok (.aload_n 0, 1) := by decide +kernel
theorem md_size_1 : decode mb_size 1 = .ok (.getfield 48, 3) := by decide +kernel
theorem md_size_4 : decode mb_size 4 = .ok (.ireturn, 1) := by decide +kernel
abbrev mb_isNoWin : ByteArray := prog_10_method_57_code
def my_isNoWin : MethodName := ⟨"TimeStoreModel", "isNoWindow", "(I)Z"⟩
theorem md_isNoWin_0 : decode mb_isNoWin 0 = .ok (.iload_n 1, 1) := by decide +kernel
theorem md_isNoWin_1 : decode mb_isNoWin 1 = .ok (.iconst 0, 1) := by decide +kernel
theorem md_isNoWin_2 : decode mb_isNoWin 2 = .ok (.aload_n 0, 1) := by decide +kernel
theorem md_isNoWin_3 : decode mb_isNoWin 3 = .ok (.getfield 47, 3) := by decide +kernel
theorem md_isNoWin_6 : decode mb_isNoWin 6 = .ok (.invokevirtual 119, 3) := by decide +kernel
theorem md_isNoWin_9 : decode mb_isNoWin 9 = .ok (.iconst 1, 1) := by decide +kernel
theorem md_isNoWin_10 : decode mb_isNoWin 10 = .ok (.isub, 1) := by decide +kernel
theorem md_isNoWin_11 : decode mb_isNoWin 11 = .ok (.invokestatic 61, 3) := by decide +kernel
theorem md_isNoWin_14 : decode mb_isNoWin 14 = .ok (.ifCond .ne 7, 3) := by decide +kernel
theorem md_isNoWin_21 : decode mb_isNoWin 21 = .ok (.iconst 0, 1) := by decide +kernel
theorem md_isNoWin_22 : decode mb_isNoWin 22 = .ok (.ireturn, 1) := by decide +kernel
abbrev mb_preCheck : ByteArray := prog_47_method_11_code
def my_preCheck : MethodName := ⟨"jdk/internal/util/Preconditions", "checkIndex", "(IILjava/util/function/BiFunction;)I"⟩
theorem md_preCheck_0 : decode mb_preCheck 0 = .ok (.iload_n 0, 1) := by decide +kernel
theorem md_preCheck_1 : decode mb_preCheck 1 = .ok (.ifCond .lt 8, 3) := by decide +kernel
theorem md_preCheck_4 : decode mb_preCheck 4 = .ok (.iload_n 0, 1) := by decide +kernel
theorem md_preCheck_5 : decode mb_preCheck 5 = .ok (.iload_n 1, 1) := by decide +kernel
theorem md_preCheck_6 : decode mb_preCheck 6 = .ok (.if_icmp .lt 10, 3) := by decide +kernel
theorem md_preCheck_16 : decode mb_preCheck 16 = .ok (.iload_n 0, 1) := by decide +kernel
theorem md_preCheck_17 : decode mb_preCheck 17 = .ok (.ireturn, 1) := by decide +kernel
abbrev mb_objCheck : ByteArray := prog_43_method_17_code
def my_objCheck : MethodName := ⟨"java/util/Objects", "checkIndex", "(II)I"⟩
theorem md_objCheck_0 : decode mb_objCheck 0 = .ok (.iload_n 0, 1) := by decide +kernel
theorem md_objCheck_1 : decode mb_objCheck 1 = .ok (.iload_n 1, 1) := by decide +kernel
theorem md_objCheck_2 : decode mb_objCheck 2 = .ok (.aconst_null, 1) := by decide +kernel
theorem md_objCheck_3 : decode mb_objCheck 3 = .ok (.invokestatic 105, 3) := by decide +kernel
theorem md_objCheck_6 : decode mb_objCheck 6 = .ok (.ireturn, 1) := by decide +kernel
abbrev mb_elemData : ByteArray := prog_37_method_18_code
def my_elemData : MethodName := ⟨"java/util/ArrayList", "elementData", "(I)Ljava/lang/Object;"⟩
theorem md_elemData_0 : decode mb_elemData 0 = .ok (.aload_n 0, 1) := by decide +kernel
theorem md_elemData_1 : decode mb_elemData 1 = .ok (.getfield 9, 3) := by decide +kernel
theorem md_elemData_4 : decode mb_elemData 4 = .ok (.iload_n 1, 1) := by decide +kernel
theorem md_elemData_5 : decode mb_elemData 5 = .ok (.aaload, 1) := by decide +kernel
theorem md_elemData_6 : decode mb_elemData 6 = .ok (.areturn, 1) := by decide +kernel
abbrev mb_get : ByteArray := prog_37_method_20_code
def my_get : MethodName := ⟨"java/util/ArrayList", "get", "(I)Ljava/lang/Object;"⟩
theorem md_get_0 : decode mb_get 0 = .ok (.iload_n 1, 1) := by decide +kernel
theorem md_get_1 : decode mb_get 1 = .ok (.aload_n 0, 1) := by decide +kernel
theorem md_get_2 : decode mb_get 2 = .ok (.getfield 48, 3) := by decide +kernel
theorem md_get_5 : decode mb_get 5 = .ok (.invokestatic 118, 3) := by decide +kernel
theorem md_get_8 : decode mb_get 8 = .ok (.pop, 1) := by decide +kernel
theorem md_get_9 : decode mb_get 9 = .ok (.aload_n 0, 1) := by decide +kernel
theorem md_get_10 : decode mb_get 10 = .ok (.iload_n 1, 1) := by decide +kernel
theorem md_get_11 : decode mb_get 11 = .ok (.invokevirtual 123, 3) := by decide +kernel
theorem md_get_14 : decode mb_get 14 = .ok (.areturn, 1) := by decide +kernel
abbrev mb_of : ByteArray := prog_10_method_7_code
def my_of : MethodName := ⟨"TimeStoreModel", "of", "(I)Ljava/util/ArrayList;"⟩
theorem md_of_0 : decode mb_of 0 = .ok (.iload_n 1, 1) := by decide +kernel
theorem md_of_1 : decode mb_of 1 = .ok (.ifCond .ne 10, 3) := by decide +kernel
theorem md_of_4 : decode mb_of 4 = .ok (.aload_n 0, 1) := by decide +kernel
theorem md_of_5 : decode mb_of 5 = .ok (.getfield 10, 3) := by decide +kernel
theorem md_of_8 : decode mb_of 8 = .ok (.goto 7, 3) := by decide +kernel
theorem md_of_15 : decode mb_of 15 = .ok (.areturn, 1) := by decide +kernel
abbrev mb_needWin : ByteArray := prog_1_method_91_code
def my_needWin : MethodName := ⟨"TimeStore", "needWindow", "(I)V"⟩
theorem md_needWin_0 : decode mb_needWin 0 = .ok (.iload_n 1, 1) := by decide +kernel
theorem md_needWin_1 : decode mb_needWin 1 = .ok (.ifCond .lt 11, 3) := by decide +kernel
theorem md_needWin_4 : decode mb_needWin 4 = .ok (.iload_n 1, 1) := by decide +kernel
theorem md_needWin_5 : decode mb_needWin 5 = .ok (.aload_n 0, 1) := by decide +kernel
theorem md_needWin_6 : decode mb_needWin 6 = .ok (.getfield 261, 3) := by decide +kernel
theorem md_needWin_9 : decode mb_needWin 9 = .ok (.if_icmp .lt 14, 3) := by decide +kernel
theorem md_needWin_23 : decode mb_needWin 23 = .ok (.return_, 1) := by decide +kernel
abbrev mb_needWhat : ByteArray := prog_1_method_97_code
def my_needWhat : MethodName := ⟨"TimeStore", "needWhat", "(II)V"⟩
theorem md_needWhat_0 : decode mb_needWhat 0 = .ok (.iload_n 0, 1) := by decide +kernel
theorem md_needWhat_1 : decode mb_needWhat 1 = .ok (.ifCond .lt 8, 3) := by decide +kernel
theorem md_needWhat_4 : decode mb_needWhat 4 = .ok (.iload_n 0, 1) := by decide +kernel
theorem md_needWhat_5 : decode mb_needWhat 5 = .ok (.iload_n 1, 1) := by decide +kernel
theorem md_needWhat_6 : decode mb_needWhat 6 = .ok (.if_icmp .le 14, 3) := by decide +kernel
theorem md_needWhat_20 : decode mb_needWhat 20 = .ok (.return_, 1) := by decide +kernel
abbrev mb_storeAt : ByteArray := prog_1_method_86_code
def my_storeAt : MethodName := ⟨"TimeStore", "storeAt", "(I)LTimeStore$Store;"⟩
theorem md_storeAt_0 : decode mb_storeAt 0 = .ok (.iload_n 1, 1) := by decide +kernel
theorem md_storeAt_1 : decode mb_storeAt 1 = .ok (.ifCond .ne 10, 3) := by decide +kernel
theorem md_storeAt_4 : decode mb_storeAt 4 = .ok (.aload_n 0, 1) := by decide +kernel
theorem md_storeAt_5 : decode mb_storeAt 5 = .ok (.getfield 14, 3) := by decide +kernel
theorem md_storeAt_8 : decode mb_storeAt 8 = .ok (.goto 7, 3) := by decide +kernel
theorem md_storeAt_15 : decode mb_storeAt 15 = .ok (.areturn, 1) := by decide +kernel
abbrev mb_pack : ByteArray := prog_7_method_2_code
def my_pack : MethodName := ⟨"TimeStore$Words", "pack", "(IIIII)J"⟩
theorem md_pack_0 : decode mb_pack 0 = .ok (.iload_n 0, 1) := by decide +kernel
theorem md_pack_1 : decode mb_pack 1 = .ok (.i2l, 1) := by decide +kernel
theorem md_pack_2 : decode mb_pack 2 = .ok (.bipush 10, 2) := by decide +kernel
theorem md_pack_4 : decode mb_pack 4 = .ok (.lshl, 1) := by decide +kernel
theorem md_pack_5 : decode mb_pack 5 = .ok (.iload_n 1, 1) := by decide +kernel
theorem md_pack_6 : decode mb_pack 6 = .ok (.i2l, 1) := by decide +kernel
theorem md_pack_7 : decode mb_pack 7 = .ok (.lor, 1) := by decide +kernel
theorem md_pack_8 : decode mb_pack 8 = .ok (.lstore 5, 2) := by decide +kernel
theorem md_pack_10 : decode mb_pack 10 = .ok (.lload 5, 2) := by decide +kernel
theorem md_pack_12 : decode mb_pack 12 = .ok (.bipush 10, 2) := by decide +kernel
theorem md_pack_14 : decode mb_pack 14 = .ok (.lshl, 1) := by decide +kernel
theorem md_pack_15 : decode mb_pack 15 = .ok (.iload_n 2, 1) := by decide +kernel
theorem md_pack_16 : decode mb_pack 16 = .ok (.i2l, 1) := by decide +kernel
theorem md_pack_17 : decode mb_pack 17 = .ok (.lor, 1) := by decide +kernel
theorem md_pack_18 : decode mb_pack 18 = .ok (.bipush 8, 2) := by decide +kernel
theorem md_pack_20 : decode mb_pack 20 = .ok (.lshl, 1) := by decide +kernel
theorem md_pack_21 : decode mb_pack 21 = .ok (.iload_n 3, 1) := by decide +kernel
theorem md_pack_22 : decode mb_pack 22 = .ok (.bipush 7, 2) := by decide +kernel
theorem md_pack_24 : decode mb_pack 24 = .ok (.ishl, 1) := by decide +kernel
theorem md_pack_25 : decode mb_pack 25 = .ok (.i2l, 1) := by decide +kernel
theorem md_pack_26 : decode mb_pack 26 = .ok (.lor, 1) := by decide +kernel
theorem md_pack_27 : decode mb_pack 27 = .ok (.iload 4, 2) := by decide +kernel
theorem md_pack_29 : decode mb_pack 29 = .ok (.iconst 2, 1) := by decide +kernel
theorem md_pack_30 : decode mb_pack 30 = .ok (.iadd, 1) := by decide +kernel
theorem md_pack_31 : decode mb_pack 31 = .ok (.i2l, 1) := by decide +kernel
theorem md_pack_32 : decode mb_pack 32 = .ok (.lor, 1) := by decide +kernel
theorem md_pack_33 : decode mb_pack 33 = .ok (.lreturn, 1) := by decide +kernel
abbrev mb_placeOf : ByteArray := prog_7_method_15_code
def my_placeOf : MethodName := ⟨"TimeStore$Words", "placeOf", "(J)I"⟩
theorem md_placeOf_0 : decode mb_placeOf 0 = .ok (.iconst 0, 1) := by decide +kernel
theorem md_placeOf_1 : decode mb_placeOf 1 = .ok (.istore_n 3, 1) := by decide +kernel
theorem md_placeOf_2 : decode mb_placeOf 2 = .ok (.aload_n 0, 1) := by decide +kernel
theorem md_placeOf_3 : decode mb_placeOf 3 = .ok (.getfield 17, 3) := by decide +kernel
theorem md_placeOf_6 : decode mb_placeOf 6 = .ok (.istore 4, 2) := by decide +kernel
theorem md_placeOf_8 : decode mb_placeOf 8 = .ok (.iconst 0, 1) := by decide +kernel
theorem md_placeOf_9 : decode mb_placeOf 9 = .ok (.istore 5, 2) := by decide +kernel
theorem md_placeOf_11 : decode mb_placeOf 11 = .ok (.iload_n 3, 1) := by decide +kernel
theorem md_placeOf_12 : decode mb_placeOf 12 = .ok (.iload 4, 2) := by decide +kernel
theorem md_placeOf_14 : decode mb_placeOf 14 = .ok (.if_icmp .ge 48, 3) := by decide +kernel
theorem md_placeOf_17 : decode mb_placeOf 17 = .ok (.iload 5, 2) := by decide +kernel
theorem md_placeOf_19 : decode mb_placeOf 19 = .ok (.bipush 32, 2) := by decide +kernel
theorem md_placeOf_21 : decode mb_placeOf 21 = .ok (.if_icmp .ge 41, 3) := by decide +kernel
theorem md_placeOf_24 : decode mb_placeOf 24 = .ok (.iload_n 3, 1) := by decide +kernel
theorem md_placeOf_25 : decode mb_placeOf 25 = .ok (.iload 4, 2) := by decide +kernel
theorem md_placeOf_27 : decode mb_placeOf 27 = .ok (.iadd, 1) := by decide +kernel
theorem md_placeOf_28 : decode mb_placeOf 28 = .ok (.iconst 2, 1) := by decide +kernel
theorem md_placeOf_29 : decode mb_placeOf 29 = .ok (.idiv, 1) := by decide +kernel
theorem md_placeOf_30 : decode mb_placeOf 30 = .ok (.istore 6, 2) := by decide +kernel
theorem md_placeOf_32 : decode mb_placeOf 32 = .ok (.aload_n 0, 1) := by decide +kernel
theorem md_placeOf_33 : decode mb_placeOf 33 = .ok (.getfield 9, 3) := by decide +kernel
theorem md_placeOf_36 : decode mb_placeOf 36 = .ok (.iload 6, 2) := by decide +kernel
theorem md_placeOf_38 : decode mb_placeOf 38 = .ok (.laload, 1) := by decide +kernel
theorem md_placeOf_39 : decode mb_placeOf 39 = .ok (.lload_n 1, 1) := by decide +kernel
theorem md_placeOf_40 : decode mb_placeOf 40 = .ok (.lcmp, 1) := by decide +kernel
theorem md_placeOf_41 : decode mb_placeOf 41 = .ok (.ifCond .ge 11, 3) := by decide +kernel
theorem md_placeOf_44 : decode mb_placeOf 44 = .ok (.iload 6, 2) := by decide +kernel
theorem md_placeOf_46 : decode mb_placeOf 46 = .ok (.iconst 1, 1) := by decide +kernel
theorem md_placeOf_47 : decode mb_placeOf 47 = .ok (.iadd, 1) := by decide +kernel
theorem md_placeOf_48 : decode mb_placeOf 48 = .ok (.istore_n 3, 1) := by decide +kernel
theorem md_placeOf_49 : decode mb_placeOf 49 = .ok (.goto 7, 3) := by decide +kernel
theorem md_placeOf_56 : decode mb_placeOf 56 = .ok (.iinc 5 1, 3) := by decide +kernel
theorem md_placeOf_59 : decode mb_placeOf 59 = .ok (.goto (-48), 3) := by decide +kernel
theorem md_placeOf_62 : decode mb_placeOf 62 = .ok (.iload_n 3, 1) := by decide +kernel
theorem md_placeOf_63 : decode mb_placeOf 63 = .ok (.ireturn, 1) := by decide +kernel
abbrev mb_firstAb : ByteArray := prog_7_method_16_code
def my_firstAb : MethodName := ⟨"TimeStore$Words", "firstAbout", "(II)I"⟩
theorem md_firstAb_0 : decode mb_firstAb 0 = .ok (.aload_n 0, 1) := by decide +kernel
theorem md_firstAb_1 : decode mb_firstAb 1 = .ok (.iload_n 1, 1) := by decide +kernel
theorem md_firstAb_2 : decode mb_firstAb 2 = .ok (.iload_n 2, 1) := by decide +kernel
theorem md_firstAb_3 : decode mb_firstAb 3 = .ok (.iconst 0, 1) := by decide +kernel
theorem md_firstAb_4 : decode mb_firstAb 4 = .ok (.iconst 0, 1) := by decide +kernel
theorem md_firstAb_5 : decode mb_firstAb 5 = .ok (.bipush (-2), 2) := by decide +kernel
theorem md_firstAb_7 : decode mb_firstAb 7 = .ok (.invokestatic 41, 3) := by decide +kernel
theorem md_firstAb_10 : decode mb_firstAb 10 = .ok (.invokevirtual 45, 3) := by decide +kernel
theorem md_firstAb_13 : decode mb_firstAb 13 = .ok (.ireturn, 1) := by decide +kernel
abbrev mb_endPer : ByteArray := prog_1_method_55_code
def my_endPer : MethodName := ⟨"TimeStore", "endPeriodOf", "(LTimeStore$Window;Z)I"⟩
theorem md_endPer_0 : decode mb_endPer 0 = .ok (.aload_n 0, 1) := by decide +kernel
theorem md_endPer_1 : decode mb_endPer 1 = .ok (.aload_n 1, 1) := by decide +kernel
theorem md_endPer_2 : decode mb_endPer 2 = .ok (.getfield 291, 3) := by decide +kernel
theorem md_endPer_5 : decode mb_endPer 5 = .ok (.invokevirtual 83, 3) := by decide +kernel
theorem md_endPer_8 : decode mb_endPer 8 = .ok (.getfield 113, 3) := by decide +kernel
theorem md_endPer_11 : decode mb_endPer 11 = .ok (.astore_n 3, 1) := by decide +kernel
theorem md_endPer_12 : decode mb_endPer 12 = .ok (.aload_n 3, 1) := by decide +kernel
theorem md_endPer_13 : decode mb_endPer 13 = .ok (.aload_n 1, 1) := by decide +kernel
theorem md_endPer_14 : decode mb_endPer 14 = .ok (.getfield 294, 3) := by decide +kernel
theorem md_endPer_17 : decode mb_endPer 17 = .ok (.aload_n 1, 1) := by decide +kernel
theorem md_endPer_18 : decode mb_endPer 18 = .ok (.getfield 281, 3) := by decide +kernel
theorem md_endPer_21 : decode mb_endPer 21 = .ok (.invokevirtual 186, 3) := by decide +kernel
theorem md_endPer_24 : decode mb_endPer 24 = .ok (.istore 4, 2) := by decide +kernel
theorem md_endPer_26 : decode mb_endPer 26 = .ok (.aload_n 3, 1) := by decide +kernel
theorem md_endPer_27 : decode mb_endPer 27 = .ok (.aload_n 1, 1) := by decide +kernel
theorem md_endPer_28 : decode mb_endPer 28 = .ok (.getfield 294, 3) := by decide +kernel
theorem md_endPer_31 : decode mb_endPer 31 = .ok (.aload_n 1, 1) := by decide +kernel
theorem md_endPer_32 : decode mb_endPer 32 = .ok (.getfield 284, 3) := by decide +kernel
theorem md_endPer_35 : decode mb_endPer 35 = .ok (.iconst 1, 1) := by decide +kernel
theorem md_endPer_36 : decode mb_endPer 36 = .ok (.iadd, 1) := by decide +kernel
theorem md_endPer_37 : decode mb_endPer 37 = .ok (.invokevirtual 186, 3) := by decide +kernel
theorem md_endPer_40 : decode mb_endPer 40 = .ok (.istore 5, 2) := by decide +kernel
theorem md_endPer_42 : decode mb_endPer 42 = .ok (.iload 4, 2) := by decide +kernel
theorem md_endPer_44 : decode mb_endPer 44 = .ok (.iload 5, 2) := by decide +kernel
theorem md_endPer_46 : decode mb_endPer 46 = .ok (.if_icmp .lt 6, 3) := by decide +kernel
theorem md_endPer_49 : decode mb_endPer 49 = .ok (.bipush (-9), 2) := by decide +kernel
theorem md_endPer_51 : decode mb_endPer 51 = .ok (.ireturn, 1) := by decide +kernel
abbrev mb_cofWin : ByteArray := prog_1_method_54_code
def my_cofWin : MethodName := ⟨"TimeStore", "ofWindow", "(II)I"⟩
theorem md_cofWin_0 : decode mb_cofWin 0 = .ok (.aload_n 0, 1) := by decide +kernel
theorem md_cofWin_1 : decode mb_cofWin 1 = .ok (.iload_n 1, 1) := by decide +kernel
theorem md_cofWin_2 : decode mb_cofWin 2 = .ok (.invokevirtual 275, 3) := by decide +kernel
theorem md_cofWin_5 : decode mb_cofWin 5 = .ok (.iload_n 2, 1) := by decide +kernel
theorem md_cofWin_6 : decode mb_cofWin 6 = .ok (.bipush 6, 2) := by decide +kernel
theorem md_cofWin_8 : decode mb_cofWin 8 = .ok (.invokestatic 337, 3) := by decide +kernel
theorem md_cofWin_11 : decode mb_cofWin 11 = .ok (.aload_n 0, 1) := by decide +kernel
theorem md_cofWin_12 : decode mb_cofWin 12 = .ok (.getfield 54, 3) := by decide +kernel
theorem md_cofWin_15 : decode mb_cofWin 15 = .ok (.iload_n 1, 1) := by decide +kernel
theorem md_cofWin_16 : decode mb_cofWin 16 = .ok (.aaload, 1) := by decide +kernel
theorem md_cofWin_17 : decode mb_cofWin 17 = .ok (.astore_n 3, 1) := by decide +kernel
theorem md_cofWin_18 : decode mb_cofWin 18 = .ok (.iload_n 2, 1) := by decide +kernel
theorem md_cofWin_19 : decode mb_cofWin 19 = .ok (.tableswitch 59 0 4 #[33, 38, 43, 48, 53], 33) := by decide +kernel
theorem md_cofWin_78 : decode mb_cofWin 78 = .ok (.aload_n 0, 1) := by decide +kernel
theorem md_cofWin_79 : decode mb_cofWin 79 = .ok (.aload_n 3, 1) := by decide +kernel
theorem md_cofWin_80 : decode mb_cofWin 80 = .ok (.iload_n 2, 1) := by decide +kernel
theorem md_cofWin_81 : decode mb_cofWin 81 = .ok (.bipush 6, 2) := by decide +kernel
theorem md_cofWin_83 : decode mb_cofWin 83 = .ok (.if_icmp .ne 7, 3) := by decide +kernel
theorem md_cofWin_90 : decode mb_cofWin 90 = .ok (.iconst 0, 1) := by decide +kernel
theorem md_cofWin_91 : decode mb_cofWin 91 = .ok (.invokevirtual 418, 3) := by decide +kernel
theorem md_cofWin_94 : decode mb_cofWin 94 = .ok (.ireturn, 1) := by decide +kernel
abbrev mb_abcInit : ByteArray := prog_35_method_1_code
def my_abcInit : MethodName := ⟨"java/util/AbstractCollection", "<init>", "()V"⟩
theorem md_abcInit_0 : decode mb_abcInit 0 = .ok (.aload_n 0, 1) := by decide +kernel
theorem md_abcInit_1 : decode mb_abcInit 1 = .ok (.invokespecial 1, 3) := by decide +kernel
theorem md_abcInit_4 : decode mb_abcInit 4 = .ok (.return_, 1) := by decide +kernel
abbrev mb_ablInit : ByteArray := prog_36_method_1_code
def my_ablInit : MethodName := ⟨"java/util/AbstractList", "<init>", "()V"⟩
theorem md_ablInit_0 : decode mb_ablInit 0 = .ok (.aload_n 0, 1) := by decide +kernel
theorem md_ablInit_1 : decode mb_ablInit 1 = .ok (.invokespecial 1, 3) := by decide +kernel
theorem md_ablInit_4 : decode mb_ablInit 4 = .ok (.aload_n 0, 1) := by decide +kernel
theorem md_ablInit_5 : decode mb_ablInit 5 = .ok (.iconst 0, 1) := by decide +kernel
theorem md_ablInit_6 : decode mb_ablInit 6 = .ok (.putfield 7, 3) := by decide +kernel
theorem md_ablInit_9 : decode mb_ablInit 9 = .ok (.return_, 1) := by decide +kernel
abbrev mb_alInit : ByteArray := prog_37_method_2_code
def my_alInit : MethodName := ⟨"java/util/ArrayList", "<init>", "()V"⟩
theorem md_alInit_0 : decode mb_alInit 0 = .ok (.aload_n 0, 1) := by decide +kernel
theorem md_alInit_1 : decode mb_alInit 1 = .ok (.invokespecial 1, 3) := by decide +kernel
theorem md_alInit_4 : decode mb_alInit 4 = .ok (.aload_n 0, 1) := by decide +kernel
theorem md_alInit_5 : decode mb_alInit 5 = .ok (.getstatic 39, 3) := by decide +kernel
theorem md_alInit_8 : decode mb_alInit 8 = .ok (.putfield 9, 3) := by decide +kernel
theorem md_alInit_11 : decode mb_alInit 11 = .ok (.return_, 1) := by decide +kernel
abbrev mb_itrInit : ByteArray := prog_38_method_1_code
def my_itrInit : MethodName := ⟨"java/util/ArrayList$Itr", "<init>", "(Ljava/util/ArrayList;)V"⟩
theorem md_itrInit_0 : decode mb_itrInit 0 = .ok (.aload_n 0, 1) := by decide +kernel
theorem md_itrInit_1 : decode mb_itrInit 1 = .ok (.aload_n 1, 1) := by decide +kernel
theorem md_itrInit_2 : decode mb_itrInit 2 = .ok (.putfield 1, 3) := by decide +kernel
theorem md_itrInit_5 : decode mb_itrInit 5 = .ok (.aload_n 0, 1) := by decide +kernel
theorem md_itrInit_6 : decode mb_itrInit 6 = .ok (.invokespecial 7, 3) := by decide +kernel
theorem md_itrInit_9 : decode mb_itrInit 9 = .ok (.aload_n 0, 1) := by decide +kernel
theorem md_itrInit_10 : decode mb_itrInit 10 = .ok (.iconst (-1), 1) := by decide +kernel
theorem md_itrInit_11 : decode mb_itrInit 11 = .ok (.putfield 13, 3) := by decide +kernel
theorem md_itrInit_14 : decode mb_itrInit 14 = .ok (.aload_n 0, 1) := by decide +kernel
theorem md_itrInit_15 : decode mb_itrInit 15 = .ok (.aload_n 0, 1) := by decide +kernel
theorem md_itrInit_16 : decode mb_itrInit 16 = .ok (.getfield 1, 3) := by decide +kernel
theorem md_itrInit_19 : decode mb_itrInit 19 = .ok (.getfield 17, 3) := by decide +kernel
theorem md_itrInit_22 : decode mb_itrInit 22 = .ok (.putfield 22, 3) := by decide +kernel
theorem md_itrInit_25 : decode mb_itrInit 25 = .ok (.return_, 1) := by decide +kernel
abbrev mb_iterator : ByteArray := prog_37_method_55_code
def my_iterator : MethodName := ⟨"java/util/ArrayList", "iterator", "()Ljava/util/Iterator;"⟩
theorem md_iterator_0 : decode mb_iterator 0 = .ok (.new 267, 3) := by decide +kernel
theorem md_iterator_3 : decode mb_iterator 3 = .ok (.dup, 1) := by decide +kernel
theorem md_iterator_4 : decode mb_iterator 4 = .ok (.aload_n 0, 1) := by decide +kernel
theorem md_iterator_5 : decode mb_iterator 5 = .ok (.invokespecial 269, 3) := by decide +kernel
theorem md_iterator_8 : decode mb_iterator 8 = .ok (.areturn, 1) := by decide +kernel
abbrev mb_hasNext : ByteArray := prog_38_method_2_code
def my_hasNext : MethodName := ⟨"java/util/ArrayList$Itr", "hasNext", "()Z"⟩
theorem md_hasNext_0 : decode mb_hasNext 0 = .ok (.aload_n 0, 1) := by decide +kernel
theorem md_hasNext_1 : decode mb_hasNext 1 = .ok (.getfield 25, 3) := by decide +kernel
theorem md_hasNext_4 : decode mb_hasNext 4 = .ok (.aload_n 0, 1) := by decide +kernel
theorem md_hasNext_5 : decode mb_hasNext 5 = .ok (.getfield 1, 3) := by decide +kernel
theorem md_hasNext_8 : decode mb_hasNext 8 = .ok (.getfield 28, 3) := by decide +kernel
theorem md_hasNext_11 : decode mb_hasNext 11 = .ok (.if_icmp .eq 7, 3) := by decide +kernel
theorem md_hasNext_14 : decode mb_hasNext 14 = .ok (.iconst 1, 1) := by decide +kernel
theorem md_hasNext_15 : decode mb_hasNext 15 = .ok (.goto 4, 3) := by decide +kernel
theorem md_hasNext_18 : decode mb_hasNext 18 = .ok (.iconst 0, 1) := by decide +kernel
theorem md_hasNext_19 : decode mb_hasNext 19 = .ok (.ireturn, 1) := by decide +kernel
abbrev mb_checkMod : ByteArray := prog_38_method_6_code
def my_checkMod : MethodName := ⟨"java/util/ArrayList$Itr", "checkForComodification", "()V"⟩
theorem md_checkMod_0 : decode mb_checkMod 0 = .ok (.aload_n 0, 1) := by decide +kernel
theorem md_checkMod_1 : decode mb_checkMod 1 = .ok (.getfield 1, 3) := by decide +kernel
theorem md_checkMod_4 : decode mb_checkMod 4 = .ok (.getfield 17, 3) := by decide +kernel
theorem md_checkMod_7 : decode mb_checkMod 7 = .ok (.aload_n 0, 1) := by decide +kernel
theorem md_checkMod_8 : decode mb_checkMod 8 = .ok (.getfield 22, 3) := by decide +kernel
theorem md_checkMod_11 : decode mb_checkMod 11 = .ok (.if_icmp .eq 11, 3) := by decide +kernel
theorem md_checkMod_22 : decode mb_checkMod 22 = .ok (.return_, 1) := by decide +kernel
abbrev mb_next : ByteArray := prog_38_method_3_code
def my_next : MethodName := ⟨"java/util/ArrayList$Itr", "next", "()Ljava/lang/Object;"⟩
theorem md_next_0 : decode mb_next 0 = .ok (.aload_n 0, 1) := by decide +kernel
theorem md_next_1 : decode mb_next 1 = .ok (.invokevirtual 31, 3) := by decide +kernel
theorem md_next_4 : decode mb_next 4 = .ok (.aload_n 0, 1) := by decide +kernel
theorem md_next_5 : decode mb_next 5 = .ok (.getfield 25, 3) := by decide +kernel
theorem md_next_8 : decode mb_next 8 = .ok (.istore_n 1, 1) := by decide +kernel
theorem md_next_9 : decode mb_next 9 = .ok (.iload_n 1, 1) := by decide +kernel
theorem md_next_10 : decode mb_next 10 = .ok (.aload_n 0, 1) := by decide +kernel
theorem md_next_11 : decode mb_next 11 = .ok (.getfield 1, 3) := by decide +kernel
theorem md_next_14 : decode mb_next 14 = .ok (.getfield 28, 3) := by decide +kernel
theorem md_next_17 : decode mb_next 17 = .ok (.if_icmp .lt 11, 3) := by decide +kernel
theorem md_next_28 : decode mb_next 28 = .ok (.aload_n 0, 1) := by decide +kernel
theorem md_next_29 : decode mb_next 29 = .ok (.getfield 1, 3) := by decide +kernel
theorem md_next_32 : decode mb_next 32 = .ok (.getfield 37, 3) := by decide +kernel
theorem md_next_35 : decode mb_next 35 = .ok (.astore_n 2, 1) := by decide +kernel
theorem md_next_36 : decode mb_next 36 = .ok (.iload_n 1, 1) := by decide +kernel
theorem md_next_37 : decode mb_next 37 = .ok (.aload_n 2, 1) := by decide +kernel
theorem md_next_38 : decode mb_next 38 = .ok (.arraylength, 1) := by decide +kernel
theorem md_next_39 : decode mb_next 39 = .ok (.if_icmp .lt 11, 3) := by decide +kernel
theorem md_next_50 : decode mb_next 50 = .ok (.aload_n 0, 1) := by decide +kernel
theorem md_next_51 : decode mb_next 51 = .ok (.iload_n 1, 1) := by decide +kernel
theorem md_next_52 : decode mb_next 52 = .ok (.iconst 1, 1) := by decide +kernel
theorem md_next_53 : decode mb_next 53 = .ok (.iadd, 1) := by decide +kernel
theorem md_next_54 : decode mb_next 54 = .ok (.putfield 25, 3) := by decide +kernel
theorem md_next_57 : decode mb_next 57 = .ok (.aload_n 2, 1) := by decide +kernel
theorem md_next_58 : decode mb_next 58 = .ok (.aload_n 0, 1) := by decide +kernel
theorem md_next_59 : decode mb_next 59 = .ok (.iload_n 1, 1) := by decide +kernel
theorem md_next_60 : decode mb_next 60 = .ok (.dup_x1, 1) := by decide +kernel
theorem md_next_61 : decode mb_next 61 = .ok (.putfield 13, 3) := by decide +kernel
theorem md_next_64 : decode mb_next 64 = .ok (.aaload, 1) := by decide +kernel
theorem md_next_65 : decode mb_next 65 = .ok (.areturn, 1) := by decide +kernel
abbrev mb_seen : ByteArray := prog_10_method_59_code
def my_seen : MethodName := ⟨"TimeStoreModel", "seen", "([I)Ljava/util/ArrayList;"⟩
theorem md_seen_0 : decode mb_seen 0 = .ok (.new 7, 3) := by decide +kernel
theorem md_seen_3 : decode mb_seen 3 = .ok (.dup, 1) := by decide +kernel
theorem md_seen_4 : decode mb_seen 4 = .ok (.invokespecial 9, 3) := by decide +kernel
theorem md_seen_7 : decode mb_seen 7 = .ok (.astore_n 2, 1) := by decide +kernel
theorem md_seen_8 : decode mb_seen 8 = .ok (.aload_n 0, 1) := by decide +kernel
theorem md_seen_9 : decode mb_seen 9 = .ok (.aload_n 1, 1) := by decide +kernel
theorem md_seen_10 : decode mb_seen 10 = .ok (.iconst 0, 1) := by decide +kernel
theorem md_seen_11 : decode mb_seen 11 = .ok (.iaload, 1) := by decide +kernel
theorem md_seen_12 : decode mb_seen 12 = .ok (.invokevirtual 115, 3) := by decide +kernel
theorem md_seen_15 : decode mb_seen 15 = .ok (.invokevirtual 69, 3) := by decide +kernel
theorem md_seen_18 : decode mb_seen 18 = .ok (.astore_n 3, 1) := by decide +kernel
theorem md_seen_19 : decode mb_seen 19 = .ok (.aload_n 3, 1) := by decide +kernel
theorem md_seen_20 : decode mb_seen 20 = .ok (.invokeinterface 73 1, 5) := by decide +kernel
theorem md_seen_25 : decode mb_seen 25 = .ok (.ifCond .eq 50, 3) := by decide +kernel
theorem md_seen_28 : decode mb_seen 28 = .ok (.aload_n 3, 1) := by decide +kernel
theorem md_seen_29 : decode mb_seen 29 = .ok (.invokeinterface 79 1, 5) := by decide +kernel
theorem md_seen_34 : decode mb_seen 34 = .ok (.checkcast 83, 3) := by decide +kernel
theorem md_seen_37 : decode mb_seen 37 = .ok (.astore 4, 2) := by decide +kernel
theorem md_seen_39 : decode mb_seen 39 = .ok (.aload 4, 2) := by decide +kernel
theorem md_seen_41 : decode mb_seen 41 = .ok (.iconst 1, 1) := by decide +kernel
theorem md_seen_42 : decode mb_seen 42 = .ok (.iaload, 1) := by decide +kernel
theorem md_seen_43 : decode mb_seen 43 = .ok (.aload_n 1, 1) := by decide +kernel
theorem md_seen_44 : decode mb_seen 44 = .ok (.iconst 1, 1) := by decide +kernel
theorem md_seen_45 : decode mb_seen 45 = .ok (.iaload, 1) := by decide +kernel
theorem md_seen_46 : decode mb_seen 46 = .ok (.if_icmp .ne 26, 3) := by decide +kernel
theorem md_seen_49 : decode mb_seen 49 = .ok (.aload 4, 2) := by decide +kernel
theorem md_seen_51 : decode mb_seen 51 = .ok (.iconst 2, 1) := by decide +kernel
theorem md_seen_52 : decode mb_seen 52 = .ok (.iaload, 1) := by decide +kernel
theorem md_seen_53 : decode mb_seen 53 = .ok (.aload_n 1, 1) := by decide +kernel
theorem md_seen_54 : decode mb_seen 54 = .ok (.iconst 2, 1) := by decide +kernel
theorem md_seen_55 : decode mb_seen 55 = .ok (.iaload, 1) := by decide +kernel
theorem md_seen_56 : decode mb_seen 56 = .ok (.aload_n 1, 1) := by decide +kernel
theorem md_seen_57 : decode mb_seen 57 = .ok (.iconst 3, 1) := by decide +kernel
theorem md_seen_58 : decode mb_seen 58 = .ok (.iaload, 1) := by decide +kernel
theorem md_seen_59 : decode mb_seen 59 = .ok (.invokestatic 61, 3) := by decide +kernel
theorem md_seen_62 : decode mb_seen 62 = .ok (.ifCond .eq 10, 3) := by decide +kernel
theorem md_seen_72 : decode mb_seen 72 = .ok (.goto (-53), 3) := by decide +kernel
theorem md_seen_75 : decode mb_seen 75 = .ok (.aload_n 2, 1) := by decide +kernel
theorem md_seen_76 : decode mb_seen 76 = .ok (.areturn, 1) := by decide +kernel
abbrev mb_wordsOf : ByteArray := prog_10_method_107_code
def my_wordsOf : MethodName := ⟨"TimeStoreModel", "wordsOf", "(Ljava/util/ArrayList;II)Ljava/util/ArrayList;"⟩
theorem md_wordsOf_0 : decode mb_wordsOf 0 = .ok (.new 7, 3) := by decide +kernel
theorem md_wordsOf_3 : decode mb_wordsOf 3 = .ok (.dup, 1) := by decide +kernel
theorem md_wordsOf_4 : decode mb_wordsOf 4 = .ok (.invokespecial 9, 3) := by decide +kernel
theorem md_wordsOf_7 : decode mb_wordsOf 7 = .ok (.astore_n 3, 1) := by decide +kernel
theorem md_wordsOf_8 : decode mb_wordsOf 8 = .ok (.aload_n 0, 1) := by decide +kernel
theorem md_wordsOf_9 : decode mb_wordsOf 9 = .ok (.invokevirtual 69, 3) := by decide +kernel
theorem md_wordsOf_12 : decode mb_wordsOf 12 = .ok (.astore 4, 2) := by decide +kernel
theorem md_wordsOf_14 : decode mb_wordsOf 14 = .ok (.aload 4, 2) := by decide +kernel
theorem md_wordsOf_16 : decode mb_wordsOf 16 = .ok (.invokeinterface 73 1, 5) := by decide +kernel
theorem md_wordsOf_21 : decode mb_wordsOf 21 = .ok (.ifCond .eq 41, 3) := by decide +kernel
theorem md_wordsOf_62 : decode mb_wordsOf 62 = .ok (.aload_n 3, 1) := by decide +kernel
theorem md_wordsOf_63 : decode mb_wordsOf 63 = .ok (.areturn, 1) := by decide +kernel
abbrev mb_periods : ByteArray := prog_10_method_60_code
def my_periods : MethodName := ⟨"TimeStoreModel", "periods", "([I)[I"⟩
theorem md_periods_0 : decode mb_periods 0 = .ok (.iconst 0, 1) := by decide +kernel
theorem md_periods_1 : decode mb_periods 1 = .ok (.istore_n 2, 1) := by decide +kernel
theorem md_periods_2 : decode mb_periods 2 = .ok (.bipush (-9), 2) := by decide +kernel
theorem md_periods_4 : decode mb_periods 4 = .ok (.istore_n 3, 1) := by decide +kernel
theorem md_periods_5 : decode mb_periods 5 = .ok (.bipush (-9), 2) := by decide +kernel
theorem md_periods_7 : decode mb_periods 7 = .ok (.istore 4, 2) := by decide +kernel
theorem md_periods_9 : decode mb_periods 9 = .ok (.aload_n 0, 1) := by decide +kernel
theorem md_periods_10 : decode mb_periods 10 = .ok (.aload_n 1, 1) := by decide +kernel
theorem md_periods_11 : decode mb_periods 11 = .ok (.invokevirtual 206, 3) := by decide +kernel
theorem md_periods_14 : decode mb_periods 14 = .ok (.astore 5, 2) := by decide +kernel
theorem md_periods_16 : decode mb_periods 16 = .ok (.aload_n 1, 1) := by decide +kernel
theorem md_periods_17 : decode mb_periods 17 = .ok (.iconst 2, 1) := by decide +kernel
theorem md_periods_18 : decode mb_periods 18 = .ok (.iaload, 1) := by decide +kernel
theorem md_periods_19 : decode mb_periods 19 = .ok (.istore 6, 2) := by decide +kernel
theorem md_periods_21 : decode mb_periods 21 = .ok (.iload 6, 2) := by decide +kernel
theorem md_periods_23 : decode mb_periods 23 = .ok (.aload_n 1, 1) := by decide +kernel
theorem md_periods_24 : decode mb_periods 24 = .ok (.iconst 3, 1) := by decide +kernel
theorem md_periods_25 : decode mb_periods 25 = .ok (.iaload, 1) := by decide +kernel
theorem md_periods_26 : decode mb_periods 26 = .ok (.if_icmp .gt 44, 3) := by decide +kernel
theorem md_periods_29 : decode mb_periods 29 = .ok (.aload 5, 2) := by decide +kernel
theorem md_periods_31 : decode mb_periods 31 = .ok (.aload_n 1, 1) := by decide +kernel
theorem md_periods_32 : decode mb_periods 32 = .ok (.iconst 1, 1) := by decide +kernel
theorem md_periods_33 : decode mb_periods 33 = .ok (.iaload, 1) := by decide +kernel
theorem md_periods_34 : decode mb_periods 34 = .ok (.iload 6, 2) := by decide +kernel
theorem md_periods_36 : decode mb_periods 36 = .ok (.invokestatic 210, 3) := by decide +kernel
theorem md_periods_39 : decode mb_periods 39 = .ok (.invokevirtual 119, 3) := by decide +kernel
theorem md_periods_42 : decode mb_periods 42 = .ok (.ifCond .ne 6, 3) := by decide +kernel
theorem md_periods_45 : decode mb_periods 45 = .ok (.goto 19, 3) := by decide +kernel
theorem md_periods_64 : decode mb_periods 64 = .ok (.iinc 6 1, 3) := by decide +kernel
theorem md_periods_67 : decode mb_periods 67 = .ok (.goto (-46), 3) := by decide +kernel
theorem md_periods_70 : decode mb_periods 70 = .ok (.iconst 3, 1) := by decide +kernel
theorem md_periods_71 : decode mb_periods 71 = .ok (.newarray .int, 2) := by decide +kernel
theorem md_periods_73 : decode mb_periods 73 = .ok (.dup, 1) := by decide +kernel
theorem md_periods_74 : decode mb_periods 74 = .ok (.iconst 0, 1) := by decide +kernel
theorem md_periods_75 : decode mb_periods 75 = .ok (.iload_n 2, 1) := by decide +kernel
theorem md_periods_76 : decode mb_periods 76 = .ok (.iastore, 1) := by decide +kernel
theorem md_periods_77 : decode mb_periods 77 = .ok (.dup, 1) := by decide +kernel
theorem md_periods_78 : decode mb_periods 78 = .ok (.iconst 1, 1) := by decide +kernel
theorem md_periods_79 : decode mb_periods 79 = .ok (.iload_n 3, 1) := by decide +kernel
theorem md_periods_80 : decode mb_periods 80 = .ok (.iastore, 1) := by decide +kernel
theorem md_periods_81 : decode mb_periods 81 = .ok (.dup, 1) := by decide +kernel
theorem md_periods_82 : decode mb_periods 82 = .ok (.iconst 2, 1) := by decide +kernel
theorem md_periods_83 : decode mb_periods 83 = .ok (.iload 4, 2) := by decide +kernel
theorem md_periods_85 : decode mb_periods 85 = .ok (.iastore, 1) := by decide +kernel
theorem md_periods_86 : decode mb_periods 86 = .ok (.areturn, 1) := by decide +kernel
abbrev mb_mofWin : ByteArray := prog_10_method_64_code
def my_mofWin : MethodName := ⟨"TimeStoreModel", "ofWindow", "(II)I"⟩
theorem md_mofWin_0 : decode mb_mofWin 0 = .ok (.aload_n 0, 1) := by decide +kernel
theorem md_mofWin_1 : decode mb_mofWin 1 = .ok (.aload_n 0, 1) := by decide +kernel
theorem md_mofWin_2 : decode mb_mofWin 2 = .ok (.iload_n 1, 1) := by decide +kernel
theorem md_mofWin_3 : decode mb_mofWin 3 = .ok (.invokevirtual 214, 3) := by decide +kernel
theorem md_mofWin_6 : decode mb_mofWin 6 = .ok (.iconst 1, 1) := by decide +kernel
theorem md_mofWin_7 : decode mb_mofWin 7 = .ok (.invokevirtual 159, 3) := by decide +kernel
theorem md_mofWin_10 : decode mb_mofWin 10 = .ok (.ifCond .ne 26, 3) := by decide +kernel
theorem md_mofWin_13 : decode mb_mofWin 13 = .ok (.aload_n 0, 1) := by decide +kernel
theorem md_mofWin_14 : decode mb_mofWin 14 = .ok (.iload_n 2, 1) := by decide +kernel
theorem md_mofWin_15 : decode mb_mofWin 15 = .ok (.iconst 0, 1) := by decide +kernel
theorem md_mofWin_16 : decode mb_mofWin 16 = .ok (.bipush 6, 2) := by decide +kernel
theorem md_mofWin_18 : decode mb_mofWin 18 = .ok (.invokestatic 61, 3) := by decide +kernel
theorem md_mofWin_21 : decode mb_mofWin 21 = .ok (.ifCond .ne 7, 3) := by decide +kernel
theorem md_mofWin_28 : decode mb_mofWin 28 = .ok (.iconst 0, 1) := by decide +kernel
theorem md_mofWin_29 : decode mb_mofWin 29 = .ok (.iconst 2, 1) := by decide +kernel
theorem md_mofWin_30 : decode mb_mofWin 30 = .ok (.invokevirtual 57, 3) := by decide +kernel
theorem md_mofWin_33 : decode mb_mofWin 33 = .ok (.ifCond .eq 5, 3) := by decide +kernel
theorem md_mofWin_38 : decode mb_mofWin 38 = .ok (.aload_n 0, 1) := by decide +kernel
theorem md_mofWin_39 : decode mb_mofWin 39 = .ok (.getfield 47, 3) := by decide +kernel
theorem md_mofWin_42 : decode mb_mofWin 42 = .ok (.iload_n 1, 1) := by decide +kernel
theorem md_mofWin_43 : decode mb_mofWin 43 = .ok (.invokevirtual 126, 3) := by decide +kernel
theorem md_mofWin_46 : decode mb_mofWin 46 = .ok (.checkcast 83, 3) := by decide +kernel
theorem md_mofWin_49 : decode mb_mofWin 49 = .ok (.astore_n 3, 1) := by decide +kernel
theorem md_mofWin_50 : decode mb_mofWin 50 = .ok (.iload_n 2, 1) := by decide +kernel
theorem md_mofWin_51 : decode mb_mofWin 51 = .ok (.iconst 4, 1) := by decide +kernel
theorem md_mofWin_52 : decode mb_mofWin 52 = .ok (.if_icmp .ge 9, 3) := by decide +kernel
theorem md_mofWin_61 : decode mb_mofWin 61 = .ok (.aload_n 0, 1) := by decide +kernel
theorem md_mofWin_62 : decode mb_mofWin 62 = .ok (.aload_n 3, 1) := by decide +kernel
theorem md_mofWin_63 : decode mb_mofWin 63 = .ok (.invokevirtual 217, 3) := by decide +kernel
theorem md_mofWin_66 : decode mb_mofWin 66 = .ok (.iload_n 2, 1) := by decide +kernel
theorem md_mofWin_67 : decode mb_mofWin 67 = .ok (.iconst 4, 1) := by decide +kernel
theorem md_mofWin_68 : decode mb_mofWin 68 = .ok (.isub, 1) := by decide +kernel
theorem md_mofWin_69 : decode mb_mofWin 69 = .ok (.iaload, 1) := by decide +kernel
theorem md_mofWin_70 : decode mb_mofWin 70 = .ok (.ireturn, 1) := by decide +kernel
abbrev mb_lofWin : ByteArray := method_41_code
def my_lofWin : MethodName := ⟨"TimeStoreLaw", "ofWindow", "(LTimeStore;IILTimeStoreLaw$Out;)I"⟩
theorem md_lofWin_0 : decode mb_lofWin 0 = .ok (.aload_n 3, 1) := by decide +kernel
theorem md_lofWin_1 : decode mb_lofWin 1 = .ok (.aload_n 0, 1) := by decide +kernel
theorem md_lofWin_2 : decode mb_lofWin 2 = .ok (.iload_n 1, 1) := by decide +kernel
theorem md_lofWin_3 : decode mb_lofWin 3 = .ok (.iload_n 2, 1) := by decide +kernel
theorem md_lofWin_4 : decode mb_lofWin 4 = .ok (.invokevirtual 150, 3) := by decide +kernel
theorem md_lofWin_7 : decode mb_lofWin 7 = .ok (.i2l, 1) := by decide +kernel
theorem md_lofWin_8 : decode mb_lofWin 8 = .ok (.putfield 13, 3) := by decide +kernel
theorem md_lofWin_11 : decode mb_lofWin 11 = .ok (.goto 11, 3) := by decide +kernel
theorem md_lofWin_22 : decode mb_lofWin 22 = .ok (.iconst 0, 1) := by decide +kernel
theorem md_lofWin_23 : decode mb_lofWin 23 = .ok (.ireturn, 1) := by decide +kernel
abbrev mb_law : ByteArray := code
def my_law : MethodName := ⟨"TimeStoreLaw", "law", "([I)Z"⟩
theorem md_law_27 : decode mb_law 27 = .ok (.iload 4, 2) := by decide +kernel
theorem md_law_29 : decode mb_law 29 = .ok (.aload_n 0, 1) := by decide +kernel
theorem md_law_30 : decode mb_law 30 = .ok (.arraylength, 1) := by decide +kernel
theorem md_law_31 : decode mb_law 31 = .ok (.bipush 6, 2) := by decide +kernel
theorem md_law_33 : decode mb_law 33 = .ok (.isub, 1) := by decide +kernel
theorem md_law_34 : decode mb_law 34 = .ok (.if_icmp .gt 3041, 3) := by decide +kernel
theorem md_law_37 : decode mb_law 37 = .ok (.aload_n 0, 1) := by decide +kernel
theorem md_law_38 : decode mb_law 38 = .ok (.iload 4, 2) := by decide +kernel
theorem md_law_40 : decode mb_law 40 = .ok (.iaload, 1) := by decide +kernel
theorem md_law_41 : decode mb_law 41 = .ok (.bipush 63, 2) := by decide +kernel
theorem md_law_43 : decode mb_law 43 = .ok (.iand, 1) := by decide +kernel
theorem md_law_44 : decode mb_law 44 = .ok (.tableswitch 3025 0 59 #[256, 320, 396, 448, 500, 564, 604, 656, 696, 736, 788, 840, 904, 956, 996, 1024, 1064, 1092, 1120, 1148, 1188, 1216, 1229, 1242, 1306, 1346, 1422, 1502, 1554, 1618, 1682, 1734, 1798, 1850, 1926, 1954, 1994, 2034, 2074, 2114, 2166, 2206, 2246, 2298, 2350, 2390, 2430, 2470, 2522, 2586, 2638, 2690, 2718, 2798, 2826, 2866, 2894, 2958, 2998, 3011], 256) := by decide +kernel
theorem md_law_2250 : decode mb_law 2250 = .ok (.aload_n 1, 1) := by decide +kernel
theorem md_law_2251 : decode mb_law 2251 = .ok (.aload_n 0, 1) := by decide +kernel
theorem md_law_2252 : decode mb_law 2252 = .ok (.iload 4, 2) := by decide +kernel
theorem md_law_2254 : decode mb_law 2254 = .ok (.iconst 1, 1) := by decide +kernel
theorem md_law_2255 : decode mb_law 2255 = .ok (.iadd, 1) := by decide +kernel
theorem md_law_2256 : decode mb_law 2256 = .ok (.iaload, 1) := by decide +kernel
theorem md_law_2257 : decode mb_law 2257 = .ok (.aload_n 0, 1) := by decide +kernel
theorem md_law_2258 : decode mb_law 2258 = .ok (.iload 4, 2) := by decide +kernel
theorem md_law_2260 : decode mb_law 2260 = .ok (.iconst 2, 1) := by decide +kernel
theorem md_law_2261 : decode mb_law 2261 = .ok (.iadd, 1) := by decide +kernel
theorem md_law_2262 : decode mb_law 2262 = .ok (.iaload, 1) := by decide +kernel
theorem md_law_2263 : decode mb_law 2263 = .ok (.aload_n 3, 1) := by decide +kernel
theorem md_law_2264 : decode mb_law 2264 = .ok (.invokestatic 340, 3) := by decide +kernel
theorem md_law_2267 : decode mb_law 2267 = .ok (.istore 5, 2) := by decide +kernel
theorem md_law_2269 : decode mb_law 2269 = .ok (.aload_n 2, 1) := by decide +kernel
theorem md_law_2270 : decode mb_law 2270 = .ok (.aload_n 0, 1) := by decide +kernel
theorem md_law_2271 : decode mb_law 2271 = .ok (.iload 4, 2) := by decide +kernel
theorem md_law_2273 : decode mb_law 2273 = .ok (.iconst 1, 1) := by decide +kernel
theorem md_law_2274 : decode mb_law 2274 = .ok (.iadd, 1) := by decide +kernel
theorem md_law_2275 : decode mb_law 2275 = .ok (.iaload, 1) := by decide +kernel
theorem md_law_2276 : decode mb_law 2276 = .ok (.aload_n 0, 1) := by decide +kernel
theorem md_law_2277 : decode mb_law 2277 = .ok (.iload 4, 2) := by decide +kernel
theorem md_law_2279 : decode mb_law 2279 = .ok (.iconst 2, 1) := by decide +kernel
theorem md_law_2280 : decode mb_law 2280 = .ok (.iadd, 1) := by decide +kernel
theorem md_law_2281 : decode mb_law 2281 = .ok (.iaload, 1) := by decide +kernel
theorem md_law_2282 : decode mb_law 2282 = .ok (.invokevirtual 342, 3) := by decide +kernel
theorem md_law_2285 : decode mb_law 2285 = .ok (.istore 6, 2) := by decide +kernel
theorem md_law_2287 : decode mb_law 2287 = .ok (.goto 782, 3) := by decide +kernel
theorem md_law_3069 : decode mb_law 3069 = .ok (.iinc 4 6, 3) := by decide +kernel
theorem md_law_3072 : decode mb_law 3072 = .ok (.goto (-3045), 3) := by decide +kernel
def my_i_hasNext : MethodName := ⟨"java/util/Iterator", "hasNext", "()Z"⟩
def my_i_next : MethodName := ⟨"java/util/Iterator", "next", "()Ljava/lang/Object;"⟩
def rf_W0 : List Cond := [.fieldLink "TimeStoreModel" 53 "TimeStoreModel" "thrown" "I", .methodLink "TimeStoreModel" 57 my_refuse, .code my_refuse mb_refuse 3 (some .boolean), .initialized "TimeStoreModel", .instanceMethod my_refuse, .selects "TimeStoreModel" my_refuse my_refuse, .fieldLink "java/util/ArrayList" 48 "java/util/ArrayList" "size" "I", .fieldLink "TimeStoreModel" 47 "TimeStoreModel" "windows" "Ljava/util/ArrayList;", .methodLink "TimeStoreModel" 119 my_size, .code my_size mb_size 1 (some .int), .initialized "java/util/ArrayList", .instanceMethod my_size, .selects "java/util/ArrayList" my_size my_size, .methodLink "TimeStoreModel" 61 my_isIn, .code my_isIn mb_isIn 3 (some .boolean), .static my_isIn, .methodLink "java/util/Objects" 105 my_preCheck, .code my_preCheck mb_preCheck 3 (some .int), .initialized "jdk/internal/util/Preconditions", .static my_preCheck, .fieldLink "java/util/ArrayList" 9 "java/util/ArrayList" "elementData" "[Ljava/lang/Object;", .methodLink "java/util/ArrayList" 118 my_objCheck, .code my_objCheck mb_objCheck 2 (some .int), .initialized "java/util/Objects", .static my_objCheck, .methodLink "java/util/ArrayList" 123 my_elemData, .code my_elemData mb_elemData 2 (some (.object "java/lang/Object")), .instanceMethod my_elemData, .selects "java/util/ArrayList" my_elemData my_elemData, .fieldLink "TimeStoreModel" 10 "TimeStoreModel" "first" "Ljava/util/ArrayList;", .fieldLink "TimeStore" 261 "TimeStore" "windowCount" "I", .fieldLink "TimeStore" 14 "TimeStore" "zero" "LTimeStore$Store;", .fieldLink "TimeStore$Words" 17 "TimeStore$Words" "size" "I", .fieldLink "TimeStore$Words" 9 "TimeStore$Words" "row" "[J", .methodLink "TimeStore$Words" 41 my_pack, .code my_pack mb_pack 7 (some .long), .initialized "TimeStore$Words", .static my_pack, .methodLink "TimeStore$Words" 45 my_placeOf, .code my_placeOf mb_placeOf 7 (some .int)]
def rf_W1 : List Cond := [.instanceMethod my_placeOf, .selects "TimeStore$Words" my_placeOf my_placeOf, .fieldLinkNest "TimeStore" 291 "TimeStore$Window" "store" "I" "TimeStore", .methodLink "TimeStore" 83 my_storeAt, .code my_storeAt mb_storeAt 2 (some (.object "TimeStore$Store")), .initialized "TimeStore", .instanceMethod my_storeAt, .selects "TimeStore" my_storeAt my_storeAt, .fieldLinkNest "TimeStore" 113 "TimeStore$Store" "words" "LTimeStore$Words;" "TimeStore", .fieldLinkNest "TimeStore" 294 "TimeStore$Window" "key" "I" "TimeStore", .fieldLinkNest "TimeStore" 281 "TimeStore$Window" "from" "I" "TimeStore", .methodLink "TimeStore" 186 my_firstAb, .code my_firstAb mb_firstAb 3 (some .int), .instanceMethod my_firstAb, .selects "TimeStore$Words" my_firstAb my_firstAb, .fieldLinkNest "TimeStore" 284 "TimeStore$Window" "to" "I" "TimeStore", .methodLink "TimeStore" 275 my_needWin, .code my_needWin mb_needWin 2 none, .instanceMethod my_needWin, .selects "TimeStore" my_needWin my_needWin, .methodLink "TimeStore" 337 my_needWhat, .code my_needWhat mb_needWhat 2 none, .static my_needWhat, .fieldLink "TimeStore" 54 "TimeStore" "windows" "[LTimeStore$Window;", .methodLink "TimeStore" 418 my_endPer, .code my_endPer mb_endPer 6 (some .int), .instanceMethod my_endPer, .selects "TimeStore" my_endPer my_endPer, .methodLink "java/util/AbstractCollection" 1 Lib.objectInit, .instanceMethod Lib.objectInit, .code Lib.objectInit ⟨#[0xb1]⟩ 1 none, .methodLink "java/util/AbstractList" 1 my_abcInit, .code my_abcInit mb_abcInit 1 none, .initialized "java/util/AbstractCollection", .instanceMethod my_abcInit, .fieldLink "java/util/AbstractList" 7 "java/util/AbstractList" "modCount" "I", .methodLink "java/util/ArrayList" 1 my_ablInit, .code my_ablInit mb_ablInit 1 none, .initialized "java/util/AbstractList", .instanceMethod my_ablInit]
def rf_W2 : List Cond := [.fieldLink "java/util/ArrayList" 39 "java/util/ArrayList" "DEFAULTCAPACITY_EMPTY_ELEMENTDATA" "[Ljava/lang/Object;", .fieldLink "java/util/ArrayList$Itr" 1 "java/util/ArrayList$Itr" "this$0" "Ljava/util/ArrayList;", .methodLink "java/util/ArrayList$Itr" 7 Lib.objectInit, .fieldLink "java/util/ArrayList$Itr" 13 "java/util/ArrayList$Itr" "lastRet" "I", .fieldLink "java/util/ArrayList$Itr" 17 "java/util/ArrayList" "modCount" "I", .fieldLink "java/util/ArrayList$Itr" 22 "java/util/ArrayList$Itr" "expectedModCount" "I", .classLink "java/util/ArrayList" 267 "java/util/ArrayList$Itr", .instantiable "java/util/ArrayList$Itr" 4, .initialized "java/util/ArrayList$Itr", .methodLink "java/util/ArrayList" 269 my_itrInit, .code my_itrInit mb_itrInit 2 none, .instanceMethod my_itrInit, .fieldLink "java/util/ArrayList$Itr" 25 "java/util/ArrayList$Itr" "cursor" "I", .fieldLinkNest "java/util/ArrayList$Itr" 28 "java/util/ArrayList" "size" "I" "java/util/ArrayList", .methodLink "java/util/ArrayList$Itr" 31 my_checkMod, .code my_checkMod mb_checkMod 1 none, .instanceMethod my_checkMod, .selects "java/util/ArrayList$Itr" my_checkMod my_checkMod, .fieldLink "java/util/ArrayList$Itr" 37 "java/util/ArrayList" "elementData" "[Ljava/lang/Object;", .classLink "TimeStoreModel" 7 "java/util/ArrayList", .instantiable "java/util/ArrayList" 3, .methodLink "TimeStoreModel" 9 my_alInit, .code my_alInit mb_alInit 1 none, .instanceMethod my_alInit, .methodLink "TimeStoreModel" 115 my_of, .code my_of mb_of 2 (some (.object "java/util/ArrayList")), .instanceMethod my_of, .selects "TimeStoreModel" my_of my_of, .methodLink "TimeStoreModel" 69 my_iterator, .code my_iterator mb_iterator 1 (some (.object "java/util/Iterator")), .instanceMethod my_iterator, .selects "java/util/ArrayList" my_iterator my_iterator, .methodLink "TimeStoreModel" 73 my_i_hasNext, .code my_hasNext mb_hasNext 1 (some .boolean), .instanceMethod my_hasNext, .selects "java/util/ArrayList$Itr" my_i_hasNext my_hasNext, .methodLink "TimeStoreModel" 79 my_i_next, .code my_next mb_next 3 (some (.object "java/lang/Object")), .instanceMethod my_next, .selects "java/util/ArrayList$Itr" my_i_next my_next]
def rf_W3 : List Cond := [.classLink "TimeStoreModel" 83 "[I", .methodLink "TimeStoreModel" 210 my_wordsOf, .code my_wordsOf mb_wordsOf 6 (some (.object "java/util/ArrayList")), .static my_wordsOf, .methodLink "TimeStoreModel" 206 my_seen, .code my_seen mb_seen 5 (some (.object "java/util/ArrayList")), .instanceMethod my_seen, .selects "TimeStoreModel" my_seen my_seen, .methodLink "TimeStoreModel" 214 my_isNoWin, .code my_isNoWin mb_isNoWin 2 (some .boolean), .instanceMethod my_isNoWin, .selects "TimeStoreModel" my_isNoWin my_isNoWin, .methodLink "TimeStoreModel" 159 my_start, .code my_start mb_start 3 (some .boolean), .instanceMethod my_start, .selects "TimeStoreModel" my_start my_start, .methodLink "TimeStoreModel" 126 my_get, .code my_get mb_get 2 (some (.object "java/lang/Object")), .instanceMethod my_get, .selects "java/util/ArrayList" my_get my_get, .methodLink "TimeStoreModel" 217 my_periods, .code my_periods mb_periods 7 (some (.array .int)), .instanceMethod my_periods, .selects "TimeStoreModel" my_periods my_periods, .codeWith my_lofWin mb_lofWin 5 (some .int) [(0, 11, 14, 19), (0, 11, 18, 21)], .methodLink "TimeStoreLaw" 340 my_lofWin, .initialized "TimeStoreLaw", .static my_lofWin, .methodLink "TimeStoreLaw" 150 my_cofWin, .code my_cofWin mb_cofWin 4 (some .int), .instanceMethod my_cofWin, .selects "TimeStore" my_cofWin my_cofWin, .fieldLinkNest "TimeStoreLaw" 13 "TimeStoreLaw$Out" "n" "J" "TimeStoreLaw", .methodLink "TimeStoreLaw" 342 my_mofWin, .code my_mofWin mb_mofWin 4 (some .int), .instanceMethod my_mofWin, .selects "TimeStoreModel" my_mofWin my_mofWin, .arrayClass .int]
def rf_W : List Cond := rf_W0 ++ (rf_W1 ++ (rf_W2 ++ (rf_W3)))
def rf_X : List Cond := [.declares my_i_hasNext, .interfaceMethod "java/util/Iterator" "java/util/Iterator" "hasNext" "()Z", .publicMethod my_hasNext, .unhidden "java/util/ArrayList$Itr" "hasNext" "()Z", .castable "java/util/ArrayList$Itr" "java/util/Iterator", .declares my_i_next, .interfaceMethod "java/util/Iterator" "java/util/Iterator" "next" "()Ljava/lang/Object;", .publicMethod my_next, .unhidden "java/util/ArrayList$Itr" "next" "()Ljava/lang/Object;"]
/-- a field: class of the reference, name, descriptor; its slot, its class's number, final, its type -/
abbrev rf_Fd : Type := String × String × String × Nat × Nat × Bool × FieldType
abbrev qf_TimeStore_zero : rf_Fd := ("TimeStore", "zero", "LTimeStore$Store;", 0, 2, true, .object "TimeStore$Store")
abbrev qf_TimeStore_windows : rf_Fd := ("TimeStore", "windows", "[LTimeStore$Window;", 11, 2, true, .array (.object "TimeStore$Window"))
abbrev qf_TimeStore_windowCount : rf_Fd := ("TimeStore", "windowCount", "I", 12, 2, false, .int)
abbrev qf_TimeStoreWindow_store : rf_Fd := ("TimeStore$Window", "store", "I", 0, 7, false, .int)
abbrev qf_TimeStoreWindow_key : rf_Fd := ("TimeStore$Window", "key", "I", 1, 7, false, .int)
abbrev qf_TimeStoreWindow_from : rf_Fd := ("TimeStore$Window", "from", "I", 2, 7, false, .int)
abbrev qf_TimeStoreWindow_to : rf_Fd := ("TimeStore$Window", "to", "I", 3, 7, false, .int)
abbrev qf_TimeStoreStore_words : rf_Fd := ("TimeStore$Store", "words", "LTimeStore$Words;", 1, 3, true, .object "TimeStore$Words")
abbrev qf_TimeStoreWords_row : rf_Fd := ("TimeStore$Words", "row", "[J", 0, 4, false, .array .long)
abbrev qf_TimeStoreWords_size : rf_Fd := ("TimeStore$Words", "size", "I", 1, 4, false, .int)
abbrev qf_TimeStoreModel_thrown : rf_Fd := ("TimeStoreModel", "thrown", "I", 0, 9, false, .int)
abbrev qf_TimeStoreModel_first : rf_Fd := ("TimeStoreModel", "first", "Ljava/util/ArrayList;", 4, 9, true, .object "java/util/ArrayList")
abbrev qf_TimeStoreModel_windows : rf_Fd := ("TimeStoreModel", "windows", "Ljava/util/ArrayList;", 15, 9, true, .object "java/util/ArrayList")
abbrev qf_AbstractList_modCount : rf_Fd := ("java/util/AbstractList", "modCount", "I", 0, 43, false, .int)
abbrev qf_ArrayList_modCount : rf_Fd := ("java/util/ArrayList", "modCount", "I", 0, 43, false, .int)
abbrev qf_ArrayList_elementData : rf_Fd := ("java/util/ArrayList", "elementData", "[Ljava/lang/Object;", 1, 47, false, .array (.object "java/lang/Object"))
abbrev qf_ArrayList_size : rf_Fd := ("java/util/ArrayList", "size", "I", 2, 47, false, .int)
abbrev qf_ArrayListItr_cursor : rf_Fd := ("java/util/ArrayList$Itr", "cursor", "I", 0, 31, false, .int)
abbrev qf_ArrayListItr_lastRet : rf_Fd := ("java/util/ArrayList$Itr", "lastRet", "I", 1, 31, false, .int)
abbrev qf_ArrayListItr_expectedModCount : rf_Fd := ("java/util/ArrayList$Itr", "expectedModCount", "I", 2, 31, false, .int)
abbrev qf_ArrayListItr_this0 : rf_Fd := ("java/util/ArrayList$Itr", "this$0", "Ljava/util/ArrayList;", 3, 31, true, .object "java/util/ArrayList")
abbrev qf_TimeStoreLawOut_n : rf_Fd := ("TimeStoreLaw$Out", "n", "J", 0, 10, false, .long)
def rf_FL : List rf_Fd := [qf_TimeStore_zero, qf_TimeStore_windows, qf_TimeStore_windowCount, qf_TimeStoreWindow_store, qf_TimeStoreWindow_key, qf_TimeStoreWindow_from, qf_TimeStoreWindow_to, qf_TimeStoreStore_words, qf_TimeStoreWords_row, qf_TimeStoreWords_size, qf_TimeStoreModel_thrown, qf_TimeStoreModel_first, qf_TimeStoreModel_windows, qf_AbstractList_modCount, qf_ArrayList_modCount, qf_ArrayList_elementData, qf_ArrayList_size, qf_ArrayListItr_cursor, qf_ArrayListItr_lastRet, qf_ArrayListItr_expectedModCount, qf_ArrayListItr_this0, qf_TimeStoreLawOut_n]
/-- a class: name, number, the types of its objects' slots -/
abbrev qc_TimeStore : String × Nat × List FieldType := ("TimeStore", 2, [.object "TimeStore$Store", .object "TimeStore$Store", .object "TimeStore$Words", .object "TimeStore$Words", .object "TimeStore$Words", .array .int, .array .long, .array .long, .int, .array (.object "TimeStore$Watcher"), .int, .array (.object "TimeStore$Window"), .int, .array (.object "TimeStore$Snapshot"), .int, .int, .int])
abbrev qc_TimeStoreWindow : String × Nat × List FieldType := ("TimeStore$Window", 7, [.int, .int, .int, .int])
abbrev qc_TimeStoreWords : String × Nat × List FieldType := ("TimeStore$Words", 4, [.array .long, .int])
abbrev qc_TimeStoreModel : String × Nat × List FieldType := ("TimeStoreModel", 9, [.int, .int, .int, .long, .object "java/util/ArrayList", .object "java/util/ArrayList", .object "java/util/ArrayList", .array .int, .array .int, .array .int, .array .int, .object "java/util/ArrayList", .object "java/util/ArrayList", .object "java/util/ArrayList", .object "java/util/ArrayList", .object "java/util/ArrayList", .object "java/util/ArrayList"])
abbrev qc_TimeStoreLawOut : String × Nat × List FieldType := ("TimeStoreLaw$Out", 10, [.long, .object "java/lang/String"])
abbrev qc_ArrayList : String × Nat × List FieldType := ("java/util/ArrayList", 47, [.int, .array (.object "java/lang/Object"), .int])
abbrev qc_ArrayListItr : String × Nat × List FieldType := ("java/util/ArrayList$Itr", 31, [.int, .int, .int, .object "java/util/ArrayList"])
def rf_CL : List (String × Nat × List FieldType) := [qc_TimeStore, qc_TimeStoreWindow, qc_TimeStoreWords, qc_TimeStoreModel, qc_TimeStoreLawOut, qc_ArrayList, qc_ArrayListItr]
/-- array classes: number, the components' type -/
def rf_AL : List (Nat × FieldType) := [(49, .int), (51, .long), (55, .object "TimeStore$Window"), (57, .object "java/lang/Object")]
