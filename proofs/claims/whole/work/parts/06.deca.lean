abbrev b_Ch_init : ByteArray := prog_2_method_1_code
def y_Ch_init : MethodName := ⟨"StationRows$Checks", "<init>", "()V"⟩
theorem d_Ch_init_0 : decode b_Ch_init 0 = .ok (.aload_n 0, 1) := by decide +kernel
theorem d_Ch_init_1 : decode b_Ch_init 1 = .ok (.invokespecial 3, 3) := by decide +kernel
theorem d_Ch_init_4 : decode b_Ch_init 4 = .ok (.aload_n 0, 1) := by decide +kernel
theorem d_Ch_init_5 : decode b_Ch_init 5 = .ok (.bipush 60, 2) := by decide +kernel
theorem d_Ch_init_7 : decode b_Ch_init 7 = .ok (.newarray .int, 2) := by decide +kernel
theorem d_Ch_init_9 : decode b_Ch_init 9 = .ok (.putfield 9, 3) := by decide +kernel
theorem d_Ch_init_12 : decode b_Ch_init 12 = .ok (.aload_n 0, 1) := by decide +kernel
theorem d_Ch_init_13 : decode b_Ch_init 13 = .ok (.bipush 60, 2) := by decide +kernel
theorem d_Ch_init_15 : decode b_Ch_init 15 = .ok (.newarray .int, 2) := by decide +kernel
theorem d_Ch_init_17 : decode b_Ch_init 17 = .ok (.putfield 15, 3) := by decide +kernel
theorem d_Ch_init_20 : decode b_Ch_init 20 = .ok (.aload_n 0, 1) := by decide +kernel
theorem d_Ch_init_21 : decode b_Ch_init 21 = .ok (.sipush 200, 3) := by decide +kernel
theorem d_Ch_init_24 : decode b_Ch_init 24 = .ok (.newarray .int, 2) := by decide +kernel
theorem d_Ch_init_26 : decode b_Ch_init 26 = .ok (.putfield 18, 3) := by decide +kernel
theorem d_Ch_init_29 : decode b_Ch_init 29 = .ok (.aload_n 0, 1) := by decide +kernel
theorem d_Ch_init_30 : decode b_Ch_init 30 = .ok (.sipush 200, 3) := by decide +kernel
theorem d_Ch_init_33 : decode b_Ch_init 33 = .ok (.newarray .int, 2) := by decide +kernel
theorem d_Ch_init_35 : decode b_Ch_init 35 = .ok (.putfield 21, 3) := by decide +kernel
theorem d_Ch_init_38 : decode b_Ch_init 38 = .ok (.return_, 1) := by decide +kernel
abbrev b_Ch_doneCount : ByteArray := prog_2_method_2_code
def y_Ch_doneCount : MethodName := ⟨"StationRows$Checks", "doneCount", "()I"⟩
theorem d_Ch_doneCount_0 : decode b_Ch_doneCount 0 = .ok (.aload_n 0, 1) := by decide +kernel
theorem d_Ch_doneCount_1 : decode b_Ch_doneCount 1 = .ok (.getfield 24, 3) := by decide +kernel
theorem d_Ch_doneCount_4 : decode b_Ch_doneCount 4 = .ok (.ireturn, 1) := by decide +kernel
abbrev b_Ch_changePeriod : ByteArray := prog_2_method_3_code
def y_Ch_changePeriod : MethodName := ⟨"StationRows$Checks", "changePeriod", "(III)V"⟩
theorem d_Ch_changePeriod_0 : decode b_Ch_changePeriod 0 = .ok (.aload_n 0, 1) := by decide +kernel
theorem d_Ch_changePeriod_1 : decode b_Ch_changePeriod 1 = .ok (.getfield 9, 3) := by decide +kernel
theorem d_Ch_changePeriod_4 : decode b_Ch_changePeriod 4 = .ok (.iload_n 1, 1) := by decide +kernel
theorem d_Ch_changePeriod_5 : decode b_Ch_changePeriod 5 = .ok (.iload_n 2, 1) := by decide +kernel
theorem d_Ch_changePeriod_6 : decode b_Ch_changePeriod 6 = .ok (.invokestatic 28, 3) := by decide +kernel
theorem d_Ch_changePeriod_9 : decode b_Ch_changePeriod 9 = .ok (.iload_n 3, 1) := by decide +kernel
theorem d_Ch_changePeriod_10 : decode b_Ch_changePeriod 10 = .ok (.iastore, 1) := by decide +kernel
theorem d_Ch_changePeriod_11 : decode b_Ch_changePeriod 11 = .ok (.return_, 1) := by decide +kernel
abbrev b_Ch_addDone : ByteArray := prog_2_method_4_code
def y_Ch_addDone : MethodName := ⟨"StationRows$Checks", "addDone", "(III)V"⟩
theorem d_Ch_addDone_0 : decode b_Ch_addDone 0 = .ok (.aload_n 0, 1) := by decide +kernel
theorem d_Ch_addDone_1 : decode b_Ch_addDone 1 = .ok (.getfield 18, 3) := by decide +kernel
theorem d_Ch_addDone_4 : decode b_Ch_addDone 4 = .ok (.aload_n 0, 1) := by decide +kernel
theorem d_Ch_addDone_5 : decode b_Ch_addDone 5 = .ok (.getfield 24, 3) := by decide +kernel
theorem d_Ch_addDone_8 : decode b_Ch_addDone 8 = .ok (.iload_n 1, 1) := by decide +kernel
theorem d_Ch_addDone_9 : decode b_Ch_addDone 9 = .ok (.iload_n 2, 1) := by decide +kernel
theorem d_Ch_addDone_10 : decode b_Ch_addDone 10 = .ok (.invokestatic 28, 3) := by decide +kernel
theorem d_Ch_addDone_13 : decode b_Ch_addDone 13 = .ok (.iastore, 1) := by decide +kernel
theorem d_Ch_addDone_14 : decode b_Ch_addDone 14 = .ok (.aload_n 0, 1) := by decide +kernel
theorem d_Ch_addDone_15 : decode b_Ch_addDone 15 = .ok (.getfield 21, 3) := by decide +kernel
theorem d_Ch_addDone_18 : decode b_Ch_addDone 18 = .ok (.aload_n 0, 1) := by decide +kernel
theorem d_Ch_addDone_19 : decode b_Ch_addDone 19 = .ok (.getfield 24, 3) := by decide +kernel
theorem d_Ch_addDone_22 : decode b_Ch_addDone 22 = .ok (.iload_n 3, 1) := by decide +kernel
theorem d_Ch_addDone_23 : decode b_Ch_addDone 23 = .ok (.iastore, 1) := by decide +kernel
theorem d_Ch_addDone_24 : decode b_Ch_addDone 24 = .ok (.aload_n 0, 1) := by decide +kernel
theorem d_Ch_addDone_25 : decode b_Ch_addDone 25 = .ok (.dup, 1) := by decide +kernel
theorem d_Ch_addDone_26 : decode b_Ch_addDone 26 = .ok (.getfield 24, 3) := by decide +kernel
theorem d_Ch_addDone_29 : decode b_Ch_addDone 29 = .ok (.iconst 1, 1) := by decide +kernel
theorem d_Ch_addDone_30 : decode b_Ch_addDone 30 = .ok (.iadd, 1) := by decide +kernel
theorem d_Ch_addDone_31 : decode b_Ch_addDone 31 = .ok (.putfield 24, 3) := by decide +kernel
theorem d_Ch_addDone_34 : decode b_Ch_addDone 34 = .ok (.return_, 1) := by decide +kernel
abbrev b_Ch_findLatest : ByteArray := prog_2_method_5_code
def y_Ch_findLatest : MethodName := ⟨"StationRows$Checks", "findLatest", "(I)V"⟩
theorem d_Ch_findLatest_0 : decode b_Ch_findLatest 0 = .ok (.aload_n 0, 1) := by decide +kernel
theorem d_Ch_findLatest_1 : decode b_Ch_findLatest 1 = .ok (.getfield 15, 3) := by decide +kernel
theorem d_Ch_findLatest_4 : decode b_Ch_findLatest 4 = .ok (.iconst (-1), 1) := by decide +kernel
theorem d_Ch_findLatest_5 : decode b_Ch_findLatest 5 = .ok (.invokestatic 32, 3) := by decide +kernel
theorem d_Ch_findLatest_8 : decode b_Ch_findLatest 8 = .ok (.iconst 0, 1) := by decide +kernel
theorem d_Ch_findLatest_9 : decode b_Ch_findLatest 9 = .ok (.istore_n 2, 1) := by decide +kernel
theorem d_Ch_findLatest_10 : decode b_Ch_findLatest 10 = .ok (.iload_n 2, 1) := by decide +kernel
theorem d_Ch_findLatest_11 : decode b_Ch_findLatest 11 = .ok (.aload_n 0, 1) := by decide +kernel
theorem d_Ch_findLatest_12 : decode b_Ch_findLatest 12 = .ok (.getfield 24, 3) := by decide +kernel
theorem d_Ch_findLatest_15 : decode b_Ch_findLatest 15 = .ok (.if_icmp .ge 53, 3) := by decide +kernel
theorem d_Ch_findLatest_18 : decode b_Ch_findLatest 18 = .ok (.aload_n 0, 1) := by decide +kernel
theorem d_Ch_findLatest_19 : decode b_Ch_findLatest 19 = .ok (.getfield 18, 3) := by decide +kernel
theorem d_Ch_findLatest_22 : decode b_Ch_findLatest 22 = .ok (.iload_n 2, 1) := by decide +kernel
theorem d_Ch_findLatest_23 : decode b_Ch_findLatest 23 = .ok (.iaload, 1) := by decide +kernel
theorem d_Ch_findLatest_24 : decode b_Ch_findLatest 24 = .ok (.istore_n 3, 1) := by decide +kernel
theorem d_Ch_findLatest_25 : decode b_Ch_findLatest 25 = .ok (.aload_n 0, 1) := by decide +kernel
theorem d_Ch_findLatest_26 : decode b_Ch_findLatest 26 = .ok (.getfield 21, 3) := by decide +kernel
theorem d_Ch_findLatest_29 : decode b_Ch_findLatest 29 = .ok (.iload_n 2, 1) := by decide +kernel
theorem d_Ch_findLatest_30 : decode b_Ch_findLatest 30 = .ok (.iaload, 1) := by decide +kernel
theorem d_Ch_findLatest_31 : decode b_Ch_findLatest 31 = .ok (.iload_n 1, 1) := by decide +kernel
theorem d_Ch_findLatest_32 : decode b_Ch_findLatest 32 = .ok (.if_icmp .gt 30, 3) := by decide +kernel
theorem d_Ch_findLatest_35 : decode b_Ch_findLatest 35 = .ok (.aload_n 0, 1) := by decide +kernel
theorem d_Ch_findLatest_36 : decode b_Ch_findLatest 36 = .ok (.getfield 21, 3) := by decide +kernel
theorem d_Ch_findLatest_39 : decode b_Ch_findLatest 39 = .ok (.iload_n 2, 1) := by decide +kernel
theorem d_Ch_findLatest_40 : decode b_Ch_findLatest 40 = .ok (.iaload, 1) := by decide +kernel
theorem d_Ch_findLatest_41 : decode b_Ch_findLatest 41 = .ok (.aload_n 0, 1) := by decide +kernel
theorem d_Ch_findLatest_42 : decode b_Ch_findLatest 42 = .ok (.getfield 15, 3) := by decide +kernel
theorem d_Ch_findLatest_45 : decode b_Ch_findLatest 45 = .ok (.iload_n 3, 1) := by decide +kernel
theorem d_Ch_findLatest_46 : decode b_Ch_findLatest 46 = .ok (.iaload, 1) := by decide +kernel
theorem d_Ch_findLatest_47 : decode b_Ch_findLatest 47 = .ok (.if_icmp .le 15, 3) := by decide +kernel
theorem d_Ch_findLatest_50 : decode b_Ch_findLatest 50 = .ok (.aload_n 0, 1) := by decide +kernel
theorem d_Ch_findLatest_51 : decode b_Ch_findLatest 51 = .ok (.getfield 15, 3) := by decide +kernel
theorem d_Ch_findLatest_54 : decode b_Ch_findLatest 54 = .ok (.iload_n 3, 1) := by decide +kernel
theorem d_Ch_findLatest_55 : decode b_Ch_findLatest 55 = .ok (.aload_n 0, 1) := by decide +kernel
theorem d_Ch_findLatest_56 : decode b_Ch_findLatest 56 = .ok (.getfield 21, 3) := by decide +kernel
theorem d_Ch_findLatest_59 : decode b_Ch_findLatest 59 = .ok (.iload_n 2, 1) := by decide +kernel
theorem d_Ch_findLatest_60 : decode b_Ch_findLatest 60 = .ok (.iaload, 1) := by decide +kernel
theorem d_Ch_findLatest_61 : decode b_Ch_findLatest 61 = .ok (.iastore, 1) := by decide +kernel
theorem d_Ch_findLatest_62 : decode b_Ch_findLatest 62 = .ok (.iinc 2 1, 3) := by decide +kernel
theorem d_Ch_findLatest_65 : decode b_Ch_findLatest 65 = .ok (.goto (-55), 3) := by decide +kernel
theorem d_Ch_findLatest_68 : decode b_Ch_findLatest 68 = .ok (.return_, 1) := by decide +kernel
abbrev b_Ch_isMissing : ByteArray := prog_2_method_6_code
def y_Ch_isMissing : MethodName := ⟨"StationRows$Checks", "isMissing", "(III)Z"⟩
theorem d_Ch_isMissing_0 : decode b_Ch_isMissing 0 = .ok (.iload_n 1, 1) := by decide +kernel
theorem d_Ch_isMissing_1 : decode b_Ch_isMissing 1 = .ok (.iload_n 2, 1) := by decide +kernel
theorem d_Ch_isMissing_2 : decode b_Ch_isMissing 2 = .ok (.invokestatic 28, 3) := by decide +kernel
theorem d_Ch_isMissing_5 : decode b_Ch_isMissing 5 = .ok (.istore 4, 2) := by decide +kernel
theorem d_Ch_isMissing_7 : decode b_Ch_isMissing 7 = .ok (.aload_n 0, 1) := by decide +kernel
theorem d_Ch_isMissing_8 : decode b_Ch_isMissing 8 = .ok (.getfield 9, 3) := by decide +kernel
theorem d_Ch_isMissing_11 : decode b_Ch_isMissing 11 = .ok (.iload 4, 2) := by decide +kernel
theorem d_Ch_isMissing_13 : decode b_Ch_isMissing 13 = .ok (.iaload, 1) := by decide +kernel
theorem d_Ch_isMissing_14 : decode b_Ch_isMissing 14 = .ok (.istore 5, 2) := by decide +kernel
theorem d_Ch_isMissing_16 : decode b_Ch_isMissing 16 = .ok (.iload 5, 2) := by decide +kernel
theorem d_Ch_isMissing_18 : decode b_Ch_isMissing 18 = .ok (.ifCond .le 29, 3) := by decide +kernel
theorem d_Ch_isMissing_21 : decode b_Ch_isMissing 21 = .ok (.iload_n 3, 1) := by decide +kernel
theorem d_Ch_isMissing_22 : decode b_Ch_isMissing 22 = .ok (.iload 5, 2) := by decide +kernel
theorem d_Ch_isMissing_24 : decode b_Ch_isMissing 24 = .ok (.iconst 1, 1) := by decide +kernel
theorem d_Ch_isMissing_25 : decode b_Ch_isMissing 25 = .ok (.isub, 1) := by decide +kernel
theorem d_Ch_isMissing_26 : decode b_Ch_isMissing 26 = .ok (.if_icmp .lt 21, 3) := by decide +kernel
theorem d_Ch_isMissing_29 : decode b_Ch_isMissing 29 = .ok (.aload_n 0, 1) := by decide +kernel
theorem d_Ch_isMissing_30 : decode b_Ch_isMissing 30 = .ok (.getfield 15, 3) := by decide +kernel
theorem d_Ch_isMissing_33 : decode b_Ch_isMissing 33 = .ok (.iload 4, 2) := by decide +kernel
theorem d_Ch_isMissing_35 : decode b_Ch_isMissing 35 = .ok (.iaload, 1) := by decide +kernel
theorem d_Ch_isMissing_36 : decode b_Ch_isMissing 36 = .ok (.iload_n 3, 1) := by decide +kernel
theorem d_Ch_isMissing_37 : decode b_Ch_isMissing 37 = .ok (.iload 5, 2) := by decide +kernel
theorem d_Ch_isMissing_39 : decode b_Ch_isMissing 39 = .ok (.isub, 1) := by decide +kernel
theorem d_Ch_isMissing_40 : decode b_Ch_isMissing 40 = .ok (.if_icmp .gt 7, 3) := by decide +kernel
theorem d_Ch_isMissing_43 : decode b_Ch_isMissing 43 = .ok (.iconst 1, 1) := by decide +kernel
theorem d_Ch_isMissing_44 : decode b_Ch_isMissing 44 = .ok (.goto 4, 3) := by decide +kernel
theorem d_Ch_isMissing_47 : decode b_Ch_isMissing 47 = .ok (.iconst 0, 1) := by decide +kernel
theorem d_Ch_isMissing_48 : decode b_Ch_isMissing 48 = .ok (.ireturn, 1) := by decide +kernel
abbrev b_Ch_placeOf : ByteArray := prog_2_method_7_code
def y_Ch_placeOf : MethodName := ⟨"StationRows$Checks", "placeOf", "(II)I"⟩
theorem d_Ch_placeOf_0 : decode b_Ch_placeOf 0 = .ok (.iload_n 0, 1) := by decide +kernel
theorem d_Ch_placeOf_1 : decode b_Ch_placeOf 1 = .ok (.iconst 5, 1) := by decide +kernel
theorem d_Ch_placeOf_2 : decode b_Ch_placeOf 2 = .ok (.imul, 1) := by decide +kernel
theorem d_Ch_placeOf_3 : decode b_Ch_placeOf 3 = .ok (.iload_n 1, 1) := by decide +kernel
theorem d_Ch_placeOf_4 : decode b_Ch_placeOf 4 = .ok (.iadd, 1) := by decide +kernel
theorem d_Ch_placeOf_5 : decode b_Ch_placeOf 5 = .ok (.ireturn, 1) := by decide +kernel
abbrev b_Ky_init : ByteArray := prog_3_method_1_code
def y_Ky_init : MethodName := ⟨"StationRows$Keys", "<init>", "()V"⟩
theorem d_Ky_init_0 : decode b_Ky_init 0 = .ok (.aload_n 0, 1) := by decide +kernel
theorem d_Ky_init_1 : decode b_Ky_init 1 = .ok (.invokespecial 3, 3) := by decide +kernel
theorem d_Ky_init_4 : decode b_Ky_init 4 = .ok (.aload_n 0, 1) := by decide +kernel
theorem d_Ky_init_5 : decode b_Ky_init 5 = .ok (.bipush 100, 2) := by decide +kernel
theorem d_Ky_init_7 : decode b_Ky_init 7 = .ok (.newarray .int, 2) := by decide +kernel
theorem d_Ky_init_9 : decode b_Ky_init 9 = .ok (.putfield 9, 3) := by decide +kernel
theorem d_Ky_init_12 : decode b_Ky_init 12 = .ok (.return_, 1) := by decide +kernel
abbrev b_Ky_isAt : ByteArray := prog_3_method_2_code
def y_Ky_isAt : MethodName := ⟨"StationRows$Keys", "isAt", "(II)Z"⟩
theorem d_Ky_isAt_0 : decode b_Ky_isAt 0 = .ok (.aload_n 0, 1) := by decide +kernel
theorem d_Ky_isAt_1 : decode b_Ky_isAt 1 = .ok (.getfield 9, 3) := by decide +kernel
theorem d_Ky_isAt_4 : decode b_Ky_isAt 4 = .ok (.iload_n 1, 1) := by decide +kernel
theorem d_Ky_isAt_5 : decode b_Ky_isAt 5 = .ok (.iaload, 1) := by decide +kernel
theorem d_Ky_isAt_6 : decode b_Ky_isAt 6 = .ok (.iload_n 2, 1) := by decide +kernel
theorem d_Ky_isAt_7 : decode b_Ky_isAt 7 = .ok (.ishr, 1) := by decide +kernel
theorem d_Ky_isAt_8 : decode b_Ky_isAt 8 = .ok (.iconst 1, 1) := by decide +kernel
theorem d_Ky_isAt_9 : decode b_Ky_isAt 9 = .ok (.iand, 1) := by decide +kernel
theorem d_Ky_isAt_10 : decode b_Ky_isAt 10 = .ok (.iconst 1, 1) := by decide +kernel
theorem d_Ky_isAt_11 : decode b_Ky_isAt 11 = .ok (.if_icmp .ne 7, 3) := by decide +kernel
theorem d_Ky_isAt_14 : decode b_Ky_isAt 14 = .ok (.iconst 1, 1) := by decide +kernel
theorem d_Ky_isAt_15 : decode b_Ky_isAt 15 = .ok (.goto 4, 3) := by decide +kernel
theorem d_Ky_isAt_18 : decode b_Ky_isAt 18 = .ok (.iconst 0, 1) := by decide +kernel
theorem d_Ky_isAt_19 : decode b_Ky_isAt 19 = .ok (.ireturn, 1) := by decide +kernel
abbrev b_Ky_flip : ByteArray := prog_3_method_3_code
def y_Ky_flip : MethodName := ⟨"StationRows$Keys", "flip", "(II)V"⟩
theorem d_Ky_flip_0 : decode b_Ky_flip 0 = .ok (.aload_n 0, 1) := by decide +kernel
theorem d_Ky_flip_1 : decode b_Ky_flip 1 = .ok (.getfield 9, 3) := by decide +kernel
theorem d_Ky_flip_4 : decode b_Ky_flip 4 = .ok (.iload_n 1, 1) := by decide +kernel
theorem d_Ky_flip_5 : decode b_Ky_flip 5 = .ok (.dup2, 1) := by decide +kernel
theorem d_Ky_flip_6 : decode b_Ky_flip 6 = .ok (.iaload, 1) := by decide +kernel
theorem d_Ky_flip_7 : decode b_Ky_flip 7 = .ok (.iconst 1, 1) := by decide +kernel
theorem d_Ky_flip_8 : decode b_Ky_flip 8 = .ok (.iload_n 2, 1) := by decide +kernel
theorem d_Ky_flip_9 : decode b_Ky_flip 9 = .ok (.ishl, 1) := by decide +kernel
theorem d_Ky_flip_10 : decode b_Ky_flip 10 = .ok (.ixor, 1) := by decide +kernel
theorem d_Ky_flip_11 : decode b_Ky_flip 11 = .ok (.iastore, 1) := by decide +kernel
theorem d_Ky_flip_12 : decode b_Ky_flip 12 = .ok (.return_, 1) := by decide +kernel
abbrev b_Ky_stationInRow : ByteArray := prog_3_method_4_code
def y_Ky_stationInRow : MethodName := ⟨"StationRows$Keys", "stationInRow", "(II)I"⟩
theorem d_Ky_stationInRow_0 : decode b_Ky_stationInRow 0 = .ok (.iconst 0, 1) := by decide +kernel
theorem d_Ky_stationInRow_1 : decode b_Ky_stationInRow 1 = .ok (.istore_n 3, 1) := by decide +kernel
theorem d_Ky_stationInRow_2 : decode b_Ky_stationInRow 2 = .ok (.iconst 0, 1) := by decide +kernel
theorem d_Ky_stationInRow_3 : decode b_Ky_stationInRow 3 = .ok (.istore 4, 2) := by decide +kernel
theorem d_Ky_stationInRow_5 : decode b_Ky_stationInRow 5 = .ok (.iload 4, 2) := by decide +kernel
theorem d_Ky_stationInRow_7 : decode b_Ky_stationInRow 7 = .ok (.bipush 12, 2) := by decide +kernel
theorem d_Ky_stationInRow_9 : decode b_Ky_stationInRow 9 = .ok (.if_icmp .ge 33, 3) := by decide +kernel
theorem d_Ky_stationInRow_12 : decode b_Ky_stationInRow 12 = .ok (.aload_n 0, 1) := by decide +kernel
theorem d_Ky_stationInRow_13 : decode b_Ky_stationInRow 13 = .ok (.iload_n 1, 1) := by decide +kernel
theorem d_Ky_stationInRow_14 : decode b_Ky_stationInRow 14 = .ok (.iload 4, 2) := by decide +kernel
theorem d_Ky_stationInRow_16 : decode b_Ky_stationInRow 16 = .ok (.invokevirtual 15, 3) := by decide +kernel
theorem d_Ky_stationInRow_19 : decode b_Ky_stationInRow 19 = .ok (.ifCond .ne 6, 3) := by decide +kernel
theorem d_Ky_stationInRow_22 : decode b_Ky_stationInRow 22 = .ok (.goto 14, 3) := by decide +kernel
theorem d_Ky_stationInRow_25 : decode b_Ky_stationInRow 25 = .ok (.iload_n 3, 1) := by decide +kernel
theorem d_Ky_stationInRow_26 : decode b_Ky_stationInRow 26 = .ok (.iload_n 2, 1) := by decide +kernel
theorem d_Ky_stationInRow_27 : decode b_Ky_stationInRow 27 = .ok (.if_icmp .ne 6, 3) := by decide +kernel
theorem d_Ky_stationInRow_30 : decode b_Ky_stationInRow 30 = .ok (.iload 4, 2) := by decide +kernel
theorem d_Ky_stationInRow_32 : decode b_Ky_stationInRow 32 = .ok (.ireturn, 1) := by decide +kernel
theorem d_Ky_stationInRow_33 : decode b_Ky_stationInRow 33 = .ok (.iinc 3 1, 3) := by decide +kernel
theorem d_Ky_stationInRow_36 : decode b_Ky_stationInRow 36 = .ok (.iinc 4 1, 3) := by decide +kernel
theorem d_Ky_stationInRow_39 : decode b_Ky_stationInRow 39 = .ok (.goto (-34), 3) := by decide +kernel
theorem d_Ky_stationInRow_42 : decode b_Ky_stationInRow 42 = .ok (.iconst (-1), 1) := by decide +kernel
theorem d_Ky_stationInRow_43 : decode b_Ky_stationInRow 43 = .ok (.ireturn, 1) := by decide +kernel
abbrev b_Ky_countAtSeveral : ByteArray := prog_3_method_5_code
def y_Ky_countAtSeveral : MethodName := ⟨"StationRows$Keys", "countAtSeveral", "()I"⟩
theorem d_Ky_countAtSeveral_0 : decode b_Ky_countAtSeveral 0 = .ok (.iconst 0, 1) := by decide +kernel
theorem d_Ky_countAtSeveral_1 : decode b_Ky_countAtSeveral 1 = .ok (.istore_n 1, 1) := by decide +kernel
theorem d_Ky_countAtSeveral_2 : decode b_Ky_countAtSeveral 2 = .ok (.iconst 0, 1) := by decide +kernel
theorem d_Ky_countAtSeveral_3 : decode b_Ky_countAtSeveral 3 = .ok (.istore_n 2, 1) := by decide +kernel
theorem d_Ky_countAtSeveral_4 : decode b_Ky_countAtSeveral 4 = .ok (.iload_n 2, 1) := by decide +kernel
theorem d_Ky_countAtSeveral_5 : decode b_Ky_countAtSeveral 5 = .ok (.bipush 100, 2) := by decide +kernel
theorem d_Ky_countAtSeveral_7 : decode b_Ky_countAtSeveral 7 = .ok (.if_icmp .ge 25, 3) := by decide +kernel
theorem d_Ky_countAtSeveral_10 : decode b_Ky_countAtSeveral 10 = .ok (.aload_n 0, 1) := by decide +kernel
theorem d_Ky_countAtSeveral_11 : decode b_Ky_countAtSeveral 11 = .ok (.getfield 9, 3) := by decide +kernel
theorem d_Ky_countAtSeveral_14 : decode b_Ky_countAtSeveral 14 = .ok (.iload_n 2, 1) := by decide +kernel
theorem d_Ky_countAtSeveral_15 : decode b_Ky_countAtSeveral 15 = .ok (.iaload, 1) := by decide +kernel
theorem d_Ky_countAtSeveral_16 : decode b_Ky_countAtSeveral 16 = .ok (.invokestatic 19, 3) := by decide +kernel
theorem d_Ky_countAtSeveral_19 : decode b_Ky_countAtSeveral 19 = .ok (.iconst 2, 1) := by decide +kernel
theorem d_Ky_countAtSeveral_20 : decode b_Ky_countAtSeveral 20 = .ok (.if_icmp .lt 6, 3) := by decide +kernel
theorem d_Ky_countAtSeveral_23 : decode b_Ky_countAtSeveral 23 = .ok (.iinc 1 1, 3) := by decide +kernel
theorem d_Ky_countAtSeveral_26 : decode b_Ky_countAtSeveral 26 = .ok (.iinc 2 1, 3) := by decide +kernel
theorem d_Ky_countAtSeveral_29 : decode b_Ky_countAtSeveral 29 = .ok (.goto (-25), 3) := by decide +kernel
theorem d_Ky_countAtSeveral_32 : decode b_Ky_countAtSeveral 32 = .ok (.iload_n 1, 1) := by decide +kernel
theorem d_Ky_countAtSeveral_33 : decode b_Ky_countAtSeveral 33 = .ok (.ireturn, 1) := by decide +kernel
abbrev b_Ne_init : ByteArray := prog_4_method_1_code
def y_Ne_init : MethodName := ⟨"StationRows$Needs", "<init>", "()V"⟩
theorem d_Ne_init_0 : decode b_Ne_init 0 = .ok (.aload_n 0, 1) := by decide +kernel
theorem d_Ne_init_1 : decode b_Ne_init 1 = .ok (.invokespecial 3, 3) := by decide +kernel
theorem d_Ne_init_4 : decode b_Ne_init 4 = .ok (.aload_n 0, 1) := by decide +kernel
theorem d_Ne_init_5 : decode b_Ne_init 5 = .ok (.sipush 288, 3) := by decide +kernel
theorem d_Ne_init_8 : decode b_Ne_init 8 = .ok (.newarray .int, 2) := by decide +kernel
theorem d_Ne_init_10 : decode b_Ne_init 10 = .ok (.putfield 9, 3) := by decide +kernel
theorem d_Ne_init_13 : decode b_Ne_init 13 = .ok (.return_, 1) := by decide +kernel
abbrev b_Ne_raise : ByteArray := prog_4_method_2_code
def y_Ne_raise : MethodName := ⟨"StationRows$Needs", "raise", "(III)V"⟩
theorem d_Ne_raise_0 : decode b_Ne_raise 0 = .ok (.iload_n 1, 1) := by decide +kernel
theorem d_Ne_raise_1 : decode b_Ne_raise 1 = .ok (.bipush 24, 2) := by decide +kernel
theorem d_Ne_raise_3 : decode b_Ne_raise 3 = .ok (.imul, 1) := by decide +kernel
theorem d_Ne_raise_4 : decode b_Ne_raise 4 = .ok (.iload_n 2, 1) := by decide +kernel
theorem d_Ne_raise_5 : decode b_Ne_raise 5 = .ok (.iadd, 1) := by decide +kernel
theorem d_Ne_raise_6 : decode b_Ne_raise 6 = .ok (.istore 4, 2) := by decide +kernel
theorem d_Ne_raise_8 : decode b_Ne_raise 8 = .ok (.aload_n 0, 1) := by decide +kernel
theorem d_Ne_raise_9 : decode b_Ne_raise 9 = .ok (.getfield 9, 3) := by decide +kernel
theorem d_Ne_raise_12 : decode b_Ne_raise 12 = .ok (.iload 4, 2) := by decide +kernel
theorem d_Ne_raise_14 : decode b_Ne_raise 14 = .ok (.aload_n 0, 1) := by decide +kernel
theorem d_Ne_raise_15 : decode b_Ne_raise 15 = .ok (.getfield 9, 3) := by decide +kernel
theorem d_Ne_raise_18 : decode b_Ne_raise 18 = .ok (.iload 4, 2) := by decide +kernel
theorem d_Ne_raise_20 : decode b_Ne_raise 20 = .ok (.iaload, 1) := by decide +kernel
theorem d_Ne_raise_21 : decode b_Ne_raise 21 = .ok (.iload_n 3, 1) := by decide +kernel
theorem d_Ne_raise_22 : decode b_Ne_raise 22 = .ok (.invokestatic 15, 3) := by decide +kernel
theorem d_Ne_raise_25 : decode b_Ne_raise 25 = .ok (.iastore, 1) := by decide +kernel
theorem d_Ne_raise_26 : decode b_Ne_raise 26 = .ok (.return_, 1) := by decide +kernel
abbrev b_Ne_neededAt : ByteArray := prog_4_method_3_code
def y_Ne_neededAt : MethodName := ⟨"StationRows$Needs", "neededAt", "(II)I"⟩
theorem d_Ne_neededAt_0 : decode b_Ne_neededAt 0 = .ok (.aload_n 0, 1) := by decide +kernel
theorem d_Ne_neededAt_1 : decode b_Ne_neededAt 1 = .ok (.getfield 9, 3) := by decide +kernel
theorem d_Ne_neededAt_4 : decode b_Ne_neededAt 4 = .ok (.iload_n 1, 1) := by decide +kernel
theorem d_Ne_neededAt_5 : decode b_Ne_neededAt 5 = .ok (.bipush 24, 2) := by decide +kernel
theorem d_Ne_neededAt_7 : decode b_Ne_neededAt 7 = .ok (.imul, 1) := by decide +kernel
theorem d_Ne_neededAt_8 : decode b_Ne_neededAt 8 = .ok (.iload_n 2, 1) := by decide +kernel
theorem d_Ne_neededAt_9 : decode b_Ne_neededAt 9 = .ok (.bipush 60, 2) := by decide +kernel
theorem d_Ne_neededAt_11 : decode b_Ne_neededAt 11 = .ok (.idiv, 1) := by decide +kernel
theorem d_Ne_neededAt_12 : decode b_Ne_neededAt 12 = .ok (.bipush 24, 2) := by decide +kernel
theorem d_Ne_neededAt_14 : decode b_Ne_neededAt 14 = .ok (.irem, 1) := by decide +kernel
theorem d_Ne_neededAt_15 : decode b_Ne_neededAt 15 = .ok (.iadd, 1) := by decide +kernel
theorem d_Ne_neededAt_16 : decode b_Ne_neededAt 16 = .ok (.iaload, 1) := by decide +kernel
theorem d_Ne_neededAt_17 : decode b_Ne_neededAt 17 = .ok (.ireturn, 1) := by decide +kernel
abbrev b_P_init : ByteArray := prog_5_method_1_code
def y_P_init : MethodName := ⟨"StationRows$Persons", "<init>", "()V"⟩
theorem d_P_init_0 : decode b_P_init 0 = .ok (.aload_n 0, 1) := by decide +kernel
theorem d_P_init_1 : decode b_P_init 1 = .ok (.invokespecial 3, 3) := by decide +kernel
theorem d_P_init_4 : decode b_P_init 4 = .ok (.aload_n 0, 1) := by decide +kernel
theorem d_P_init_5 : decode b_P_init 5 = .ok (.bipush 60, 2) := by decide +kernel
theorem d_P_init_7 : decode b_P_init 7 = .ok (.newarray .int, 2) := by decide +kernel
theorem d_P_init_9 : decode b_P_init 9 = .ok (.putfield 9, 3) := by decide +kernel
theorem d_P_init_12 : decode b_P_init 12 = .ok (.aload_n 0, 1) := by decide +kernel
theorem d_P_init_13 : decode b_P_init 13 = .ok (.bipush 60, 2) := by decide +kernel
theorem d_P_init_15 : decode b_P_init 15 = .ok (.newarray .int, 2) := by decide +kernel
theorem d_P_init_17 : decode b_P_init 17 = .ok (.putfield 15, 3) := by decide +kernel
theorem d_P_init_20 : decode b_P_init 20 = .ok (.aload_n 0, 1) := by decide +kernel
theorem d_P_init_21 : decode b_P_init 21 = .ok (.new 18, 3) := by decide +kernel
theorem d_P_init_24 : decode b_P_init 24 = .ok (.dup, 1) := by decide +kernel
theorem d_P_init_25 : decode b_P_init 25 = .ok (.bipush 6, 2) := by decide +kernel
theorem d_P_init_27 : decode b_P_init 27 = .ok (.bipush 60, 2) := by decide +kernel
theorem d_P_init_29 : decode b_P_init 29 = .ok (.newarray .int, 2) := by decide +kernel
theorem d_P_init_31 : decode b_P_init 31 = .ok (.sipush 360, 3) := by decide +kernel
theorem d_P_init_34 : decode b_P_init 34 = .ok (.newarray .int, 2) := by decide +kernel
theorem d_P_init_36 : decode b_P_init 36 = .ok (.sipush 360, 3) := by decide +kernel
theorem d_P_init_39 : decode b_P_init 39 = .ok (.newarray .int, 2) := by decide +kernel
theorem d_P_init_41 : decode b_P_init 41 = .ok (.invokespecial 20, 3) := by decide +kernel
theorem d_P_init_44 : decode b_P_init 44 = .ok (.putfield 23, 3) := by decide +kernel
theorem d_P_init_47 : decode b_P_init 47 = .ok (.aload_n 0, 1) := by decide +kernel
theorem d_P_init_48 : decode b_P_init 48 = .ok (.new 18, 3) := by decide +kernel
theorem d_P_init_51 : decode b_P_init 51 = .ok (.dup, 1) := by decide +kernel
theorem d_P_init_52 : decode b_P_init 52 = .ok (.iconst 3, 1) := by decide +kernel
theorem d_P_init_53 : decode b_P_init 53 = .ok (.bipush 60, 2) := by decide +kernel
theorem d_P_init_55 : decode b_P_init 55 = .ok (.newarray .int, 2) := by decide +kernel
theorem d_P_init_57 : decode b_P_init 57 = .ok (.sipush 180, 3) := by decide +kernel
theorem d_P_init_60 : decode b_P_init 60 = .ok (.newarray .int, 2) := by decide +kernel
theorem d_P_init_62 : decode b_P_init 62 = .ok (.sipush 180, 3) := by decide +kernel
theorem d_P_init_65 : decode b_P_init 65 = .ok (.newarray .int, 2) := by decide +kernel
theorem d_P_init_67 : decode b_P_init 67 = .ok (.invokespecial 20, 3) := by decide +kernel
theorem d_P_init_70 : decode b_P_init 70 = .ok (.putfield 27, 3) := by decide +kernel
theorem d_P_init_73 : decode b_P_init 73 = .ok (.aload_n 0, 1) := by decide +kernel
theorem d_P_init_74 : decode b_P_init 74 = .ok (.sipush 180, 3) := by decide +kernel
theorem d_P_init_77 : decode b_P_init 77 = .ok (.newarray .int, 2) := by decide +kernel
theorem d_P_init_79 : decode b_P_init 79 = .ok (.putfield 30, 3) := by decide +kernel
theorem d_P_init_82 : decode b_P_init 82 = .ok (.aload_n 0, 1) := by decide +kernel
theorem d_P_init_83 : decode b_P_init 83 = .ok (.bipush 60, 2) := by decide +kernel
theorem d_P_init_85 : decode b_P_init 85 = .ok (.newarray .int, 2) := by decide +kernel
theorem d_P_init_87 : decode b_P_init 87 = .ok (.putfield 33, 3) := by decide +kernel
theorem d_P_init_90 : decode b_P_init 90 = .ok (.aload_n 0, 1) := by decide +kernel
theorem d_P_init_91 : decode b_P_init 91 = .ok (.bipush 120, 2) := by decide +kernel
theorem d_P_init_93 : decode b_P_init 93 = .ok (.putfield 36, 3) := by decide +kernel
theorem d_P_init_96 : decode b_P_init 96 = .ok (.return_, 1) := by decide +kernel
abbrev b_P_count : ByteArray := prog_5_method_2_code
def y_P_count : MethodName := ⟨"StationRows$Persons", "count", "()I"⟩
theorem d_P_count_0 : decode b_P_count 0 = .ok (.aload_n 0, 1) := by decide +kernel
theorem d_P_count_1 : decode b_P_count 1 = .ok (.getfield 40, 3) := by decide +kernel
theorem d_P_count_4 : decode b_P_count 4 = .ok (.ireturn, 1) := by decide +kernel
abbrev b_P_duties : ByteArray := prog_5_method_3_code
def y_P_duties : MethodName := ⟨"StationRows$Persons", "duties", "()LStationRows$Times;"⟩
theorem d_P_duties_0 : decode b_P_duties 0 = .ok (.aload_n 0, 1) := by decide +kernel
theorem d_P_duties_1 : decode b_P_duties 1 = .ok (.getfield 23, 3) := by decide +kernel
theorem d_P_duties_4 : decode b_P_duties 4 = .ok (.areturn, 1) := by decide +kernel
abbrev b_P_moves : ByteArray := prog_5_method_4_code
def y_P_moves : MethodName := ⟨"StationRows$Persons", "moves", "()LStationRows$Times;"⟩
theorem d_P_moves_0 : decode b_P_moves 0 = .ok (.aload_n 0, 1) := by decide +kernel
theorem d_P_moves_1 : decode b_P_moves 1 = .ok (.getfield 27, 3) := by decide +kernel
theorem d_P_moves_4 : decode b_P_moves 4 = .ok (.areturn, 1) := by decide +kernel
abbrev b_P_add : ByteArray := prog_5_method_5_code
def y_P_add : MethodName := ⟨"StationRows$Persons", "add", "(II)I"⟩
theorem d_P_add_0 : decode b_P_add 0 = .ok (.aload_n 0, 1) := by decide +kernel
theorem d_P_add_1 : decode b_P_add 1 = .ok (.getfield 9, 3) := by decide +kernel
theorem d_P_add_4 : decode b_P_add 4 = .ok (.aload_n 0, 1) := by decide +kernel
theorem d_P_add_5 : decode b_P_add 5 = .ok (.getfield 40, 3) := by decide +kernel
theorem d_P_add_8 : decode b_P_add 8 = .ok (.iload_n 1, 1) := by decide +kernel
theorem d_P_add_9 : decode b_P_add 9 = .ok (.iastore, 1) := by decide +kernel
theorem d_P_add_10 : decode b_P_add 10 = .ok (.aload_n 0, 1) := by decide +kernel
theorem d_P_add_11 : decode b_P_add 11 = .ok (.getfield 15, 3) := by decide +kernel
theorem d_P_add_14 : decode b_P_add 14 = .ok (.aload_n 0, 1) := by decide +kernel
theorem d_P_add_15 : decode b_P_add 15 = .ok (.getfield 40, 3) := by decide +kernel
theorem d_P_add_18 : decode b_P_add 18 = .ok (.iload_n 2, 1) := by decide +kernel
theorem d_P_add_19 : decode b_P_add 19 = .ok (.iastore, 1) := by decide +kernel
theorem d_P_add_20 : decode b_P_add 20 = .ok (.aload_n 0, 1) := by decide +kernel
theorem d_P_add_21 : decode b_P_add 21 = .ok (.dup, 1) := by decide +kernel
theorem d_P_add_22 : decode b_P_add 22 = .ok (.getfield 40, 3) := by decide +kernel
theorem d_P_add_25 : decode b_P_add 25 = .ok (.dup_x1, 1) := by decide +kernel
theorem d_P_add_26 : decode b_P_add 26 = .ok (.iconst 1, 1) := by decide +kernel
theorem d_P_add_27 : decode b_P_add 27 = .ok (.iadd, 1) := by decide +kernel
theorem d_P_add_28 : decode b_P_add 28 = .ok (.putfield 40, 3) := by decide +kernel
theorem d_P_add_31 : decode b_P_add 31 = .ok (.ireturn, 1) := by decide +kernel
abbrev b_P_homeOf : ByteArray := prog_5_method_6_code
def y_P_homeOf : MethodName := ⟨"StationRows$Persons", "homeOf", "(I)I"⟩
theorem d_P_homeOf_0 : decode b_P_homeOf 0 = .ok (.aload_n 0, 1) := by decide +kernel
theorem d_P_homeOf_1 : decode b_P_homeOf 1 = .ok (.getfield 9, 3) := by decide +kernel
theorem d_P_homeOf_4 : decode b_P_homeOf 4 = .ok (.iload_n 1, 1) := by decide +kernel
theorem d_P_homeOf_5 : decode b_P_homeOf 5 = .ok (.iaload, 1) := by decide +kernel
theorem d_P_homeOf_6 : decode b_P_homeOf 6 = .ok (.ireturn, 1) := by decide +kernel
abbrev b_P_keepNewestMoveStation : ByteArray := prog_5_method_7_code
def y_P_keepNewestMoveStation : MethodName := ⟨"StationRows$Persons", "keepNewestMoveStation", "(II)V"⟩
theorem d_P_keepNewestMoveStation_0 : decode b_P_keepNewestMoveStation 0 = .ok (.aload_n 0, 1) := by decide +kernel
theorem d_P_keepNewestMoveStation_1 : decode b_P_keepNewestMoveStation 1 = .ok (.getfield 27, 3) := by decide +kernel
theorem d_P_keepNewestMoveStation_4 : decode b_P_keepNewestMoveStation 4 = .ok (.iload_n 1, 1) := by decide +kernel
theorem d_P_keepNewestMoveStation_5 : decode b_P_keepNewestMoveStation 5 = .ok (.invokevirtual 43, 3) := by decide +kernel
theorem d_P_keepNewestMoveStation_8 : decode b_P_keepNewestMoveStation 8 = .ok (.iconst 1, 1) := by decide +kernel
theorem d_P_keepNewestMoveStation_9 : decode b_P_keepNewestMoveStation 9 = .ok (.isub, 1) := by decide +kernel
theorem d_P_keepNewestMoveStation_10 : decode b_P_keepNewestMoveStation 10 = .ok (.istore_n 3, 1) := by decide +kernel
theorem d_P_keepNewestMoveStation_11 : decode b_P_keepNewestMoveStation 11 = .ok (.iload_n 3, 1) := by decide +kernel
theorem d_P_keepNewestMoveStation_12 : decode b_P_keepNewestMoveStation 12 = .ok (.ifCond .lt 14, 3) := by decide +kernel
theorem d_P_keepNewestMoveStation_15 : decode b_P_keepNewestMoveStation 15 = .ok (.aload_n 0, 1) := by decide +kernel
theorem d_P_keepNewestMoveStation_16 : decode b_P_keepNewestMoveStation 16 = .ok (.getfield 30, 3) := by decide +kernel
theorem d_P_keepNewestMoveStation_19 : decode b_P_keepNewestMoveStation 19 = .ok (.iload_n 1, 1) := by decide +kernel
theorem d_P_keepNewestMoveStation_20 : decode b_P_keepNewestMoveStation 20 = .ok (.iconst 3, 1) := by decide +kernel
theorem d_P_keepNewestMoveStation_21 : decode b_P_keepNewestMoveStation 21 = .ok (.imul, 1) := by decide +kernel
theorem d_P_keepNewestMoveStation_22 : decode b_P_keepNewestMoveStation 22 = .ok (.iload_n 3, 1) := by decide +kernel
theorem d_P_keepNewestMoveStation_23 : decode b_P_keepNewestMoveStation 23 = .ok (.iadd, 1) := by decide +kernel
theorem d_P_keepNewestMoveStation_24 : decode b_P_keepNewestMoveStation 24 = .ok (.iload_n 2, 1) := by decide +kernel
theorem d_P_keepNewestMoveStation_25 : decode b_P_keepNewestMoveStation 25 = .ok (.iastore, 1) := by decide +kernel
theorem d_P_keepNewestMoveStation_26 : decode b_P_keepNewestMoveStation 26 = .ok (.return_, 1) := by decide +kernel
abbrev b_P_changeLimit : ByteArray := prog_5_method_8_code
def y_P_changeLimit : MethodName := ⟨"StationRows$Persons", "changeLimit", "(I)I"⟩
theorem d_P_changeLimit_0 : decode b_P_changeLimit 0 = .ok (.aload_n 0, 1) := by decide +kernel
theorem d_P_changeLimit_1 : decode b_P_changeLimit 1 = .ok (.iload_n 1, 1) := by decide +kernel
theorem d_P_changeLimit_2 : decode b_P_changeLimit 2 = .ok (.putfield 36, 3) := by decide +kernel
theorem d_P_changeLimit_5 : decode b_P_changeLimit 5 = .ok (.iconst 0, 1) := by decide +kernel
theorem d_P_changeLimit_6 : decode b_P_changeLimit 6 = .ok (.istore_n 2, 1) := by decide +kernel
theorem d_P_changeLimit_7 : decode b_P_changeLimit 7 = .ok (.iconst 0, 1) := by decide +kernel
theorem d_P_changeLimit_8 : decode b_P_changeLimit 8 = .ok (.istore_n 3, 1) := by decide +kernel
theorem d_P_changeLimit_9 : decode b_P_changeLimit 9 = .ok (.iload_n 3, 1) := by decide +kernel
theorem d_P_changeLimit_10 : decode b_P_changeLimit 10 = .ok (.aload_n 0, 1) := by decide +kernel
theorem d_P_changeLimit_11 : decode b_P_changeLimit 11 = .ok (.getfield 40, 3) := by decide +kernel
theorem d_P_changeLimit_14 : decode b_P_changeLimit 14 = .ok (.if_icmp .ge 25, 3) := by decide +kernel
theorem d_P_changeLimit_17 : decode b_P_changeLimit 17 = .ok (.aload_n 0, 1) := by decide +kernel
theorem d_P_changeLimit_18 : decode b_P_changeLimit 18 = .ok (.getfield 15, 3) := by decide +kernel
theorem d_P_changeLimit_21 : decode b_P_changeLimit 21 = .ok (.iload_n 3, 1) := by decide +kernel
theorem d_P_changeLimit_22 : decode b_P_changeLimit 22 = .ok (.iaload, 1) := by decide +kernel
theorem d_P_changeLimit_23 : decode b_P_changeLimit 23 = .ok (.aload_n 0, 1) := by decide +kernel
theorem d_P_changeLimit_24 : decode b_P_changeLimit 24 = .ok (.getfield 36, 3) := by decide +kernel
theorem d_P_changeLimit_27 : decode b_P_changeLimit 27 = .ok (.if_icmp .le 6, 3) := by decide +kernel
theorem d_P_changeLimit_30 : decode b_P_changeLimit 30 = .ok (.iinc 2 1, 3) := by decide +kernel
theorem d_P_changeLimit_33 : decode b_P_changeLimit 33 = .ok (.iinc 3 1, 3) := by decide +kernel
theorem d_P_changeLimit_36 : decode b_P_changeLimit 36 = .ok (.goto (-27), 3) := by decide +kernel
theorem d_P_changeLimit_39 : decode b_P_changeLimit 39 = .ok (.iload_n 2, 1) := by decide +kernel
theorem d_P_changeLimit_40 : decode b_P_changeLimit 40 = .ok (.ireturn, 1) := by decide +kernel
abbrev b_P_gather : ByteArray := prog_5_method_9_code
def y_P_gather : MethodName := ⟨"StationRows$Persons", "gather", "(IIZ)I"⟩
theorem d_P_gather_0 : decode b_P_gather 0 = .ok (.aload_n 0, 1) := by decide +kernel
theorem d_P_gather_1 : decode b_P_gather 1 = .ok (.iconst 0, 1) := by decide +kernel
theorem d_P_gather_2 : decode b_P_gather 2 = .ok (.putfield 47, 3) := by decide +kernel
theorem d_P_gather_5 : decode b_P_gather 5 = .ok (.iconst 0, 1) := by decide +kernel
theorem d_P_gather_6 : decode b_P_gather 6 = .ok (.istore 4, 2) := by decide +kernel
theorem d_P_gather_8 : decode b_P_gather 8 = .ok (.iload 4, 2) := by decide +kernel
theorem d_P_gather_10 : decode b_P_gather 10 = .ok (.aload_n 0, 1) := by decide +kernel
theorem d_P_gather_11 : decode b_P_gather 11 = .ok (.getfield 40, 3) := by decide +kernel
theorem d_P_gather_14 : decode b_P_gather 14 = .ok (.if_icmp .ge 40, 3) := by decide +kernel
theorem d_P_gather_17 : decode b_P_gather 17 = .ok (.iload_n 3, 1) := by decide +kernel
theorem d_P_gather_18 : decode b_P_gather 18 = .ok (.ifCond .eq 30, 3) := by decide +kernel
theorem d_P_gather_21 : decode b_P_gather 21 = .ok (.aload_n 0, 1) := by decide +kernel
theorem d_P_gather_22 : decode b_P_gather 22 = .ok (.iload 4, 2) := by decide +kernel
theorem d_P_gather_24 : decode b_P_gather 24 = .ok (.iload_n 2, 1) := by decide +kernel
theorem d_P_gather_25 : decode b_P_gather 25 = .ok (.invokevirtual 50, 3) := by decide +kernel
theorem d_P_gather_28 : decode b_P_gather 28 = .ok (.ifCond .eq 20, 3) := by decide +kernel
theorem d_P_gather_31 : decode b_P_gather 31 = .ok (.aload_n 0, 1) := by decide +kernel
theorem d_P_gather_32 : decode b_P_gather 32 = .ok (.iload 4, 2) := by decide +kernel
theorem d_P_gather_34 : decode b_P_gather 34 = .ok (.iload_n 2, 1) := by decide +kernel
theorem d_P_gather_35 : decode b_P_gather 35 = .ok (.invokevirtual 54, 3) := by decide +kernel
theorem d_P_gather_38 : decode b_P_gather 38 = .ok (.iload_n 1, 1) := by decide +kernel
theorem d_P_gather_39 : decode b_P_gather 39 = .ok (.if_icmp .ne 9, 3) := by decide +kernel
theorem d_P_gather_42 : decode b_P_gather 42 = .ok (.aload_n 0, 1) := by decide +kernel
theorem d_P_gather_43 : decode b_P_gather 43 = .ok (.iload 4, 2) := by decide +kernel
theorem d_P_gather_45 : decode b_P_gather 45 = .ok (.invokevirtual 58, 3) := by decide +kernel
theorem d_P_gather_48 : decode b_P_gather 48 = .ok (.iinc 4 1, 3) := by decide +kernel
theorem d_P_gather_51 : decode b_P_gather 51 = .ok (.goto (-43), 3) := by decide +kernel
theorem d_P_gather_54 : decode b_P_gather 54 = .ok (.aload_n 0, 1) := by decide +kernel
theorem d_P_gather_55 : decode b_P_gather 55 = .ok (.getfield 47, 3) := by decide +kernel
theorem d_P_gather_58 : decode b_P_gather 58 = .ok (.ireturn, 1) := by decide +kernel
abbrev b_P_inRow : ByteArray := prog_5_method_10_code
def y_P_inRow : MethodName := ⟨"StationRows$Persons", "inRow", "(I)I"⟩
theorem d_P_inRow_0 : decode b_P_inRow 0 = .ok (.aload_n 0, 1) := by decide +kernel
theorem d_P_inRow_1 : decode b_P_inRow 1 = .ok (.getfield 33, 3) := by decide +kernel
theorem d_P_inRow_4 : decode b_P_inRow 4 = .ok (.iload_n 1, 1) := by decide +kernel
theorem d_P_inRow_5 : decode b_P_inRow 5 = .ok (.iaload, 1) := by decide +kernel
theorem d_P_inRow_6 : decode b_P_inRow 6 = .ok (.ireturn, 1) := by decide +kernel
abbrev b_P_delayInRow : ByteArray := prog_5_method_11_code
def y_P_delayInRow : MethodName := ⟨"StationRows$Persons", "delayInRow", "(II)I"⟩
theorem d_P_delayInRow_0 : decode b_P_delayInRow 0 = .ok (.iload_n 2, 1) := by decide +kernel
theorem d_P_delayInRow_1 : decode b_P_delayInRow 1 = .ok (.ifCond .ne 7, 3) := by decide +kernel
theorem d_P_delayInRow_4 : decode b_P_delayInRow 4 = .ok (.iconst 0, 1) := by decide +kernel
theorem d_P_delayInRow_5 : decode b_P_delayInRow 5 = .ok (.goto 18, 3) := by decide +kernel
theorem d_P_delayInRow_8 : decode b_P_delayInRow 8 = .ok (.aload_n 0, 1) := by decide +kernel
theorem d_P_delayInRow_9 : decode b_P_delayInRow 9 = .ok (.getfield 15, 3) := by decide +kernel
theorem d_P_delayInRow_12 : decode b_P_delayInRow 12 = .ok (.aload_n 0, 1) := by decide +kernel
theorem d_P_delayInRow_13 : decode b_P_delayInRow 13 = .ok (.getfield 33, 3) := by decide +kernel
theorem d_P_delayInRow_16 : decode b_P_delayInRow 16 = .ok (.iload_n 1, 1) := by decide +kernel
theorem d_P_delayInRow_17 : decode b_P_delayInRow 17 = .ok (.iload_n 2, 1) := by decide +kernel
theorem d_P_delayInRow_18 : decode b_P_delayInRow 18 = .ok (.iadd, 1) := by decide +kernel
theorem d_P_delayInRow_19 : decode b_P_delayInRow 19 = .ok (.iconst 1, 1) := by decide +kernel
theorem d_P_delayInRow_20 : decode b_P_delayInRow 20 = .ok (.isub, 1) := by decide +kernel
theorem d_P_delayInRow_21 : decode b_P_delayInRow 21 = .ok (.iaload, 1) := by decide +kernel
theorem d_P_delayInRow_22 : decode b_P_delayInRow 22 = .ok (.iaload, 1) := by decide +kernel
theorem d_P_delayInRow_23 : decode b_P_delayInRow 23 = .ok (.ireturn, 1) := by decide +kernel
abbrev b_P_lowestInRow : ByteArray := prog_5_method_12_code
def y_P_lowestInRow : MethodName := ⟨"StationRows$Persons", "lowestInRow", "(II)I"⟩
theorem d_P_lowestInRow_0 : decode b_P_lowestInRow 0 = .ok (.iload_n 2, 1) := by decide +kernel
theorem d_P_lowestInRow_1 : decode b_P_lowestInRow 1 = .ok (.ifCond .ne 5, 3) := by decide +kernel
theorem d_P_lowestInRow_4 : decode b_P_lowestInRow 4 = .ok (.iconst (-1), 1) := by decide +kernel
theorem d_P_lowestInRow_5 : decode b_P_lowestInRow 5 = .ok (.ireturn, 1) := by decide +kernel
theorem d_P_lowestInRow_6 : decode b_P_lowestInRow 6 = .ok (.aload_n 0, 1) := by decide +kernel
theorem d_P_lowestInRow_7 : decode b_P_lowestInRow 7 = .ok (.getfield 33, 3) := by decide +kernel
theorem d_P_lowestInRow_10 : decode b_P_lowestInRow 10 = .ok (.iload_n 1, 1) := by decide +kernel
theorem d_P_lowestInRow_11 : decode b_P_lowestInRow 11 = .ok (.iaload, 1) := by decide +kernel
theorem d_P_lowestInRow_12 : decode b_P_lowestInRow 12 = .ok (.istore_n 3, 1) := by decide +kernel
theorem d_P_lowestInRow_13 : decode b_P_lowestInRow 13 = .ok (.iload_n 1, 1) := by decide +kernel
theorem d_P_lowestInRow_14 : decode b_P_lowestInRow 14 = .ok (.iconst 1, 1) := by decide +kernel
theorem d_P_lowestInRow_15 : decode b_P_lowestInRow 15 = .ok (.iadd, 1) := by decide +kernel
theorem d_P_lowestInRow_16 : decode b_P_lowestInRow 16 = .ok (.istore 4, 2) := by decide +kernel
theorem d_P_lowestInRow_18 : decode b_P_lowestInRow 18 = .ok (.iload 4, 2) := by decide +kernel
theorem d_P_lowestInRow_20 : decode b_P_lowestInRow 20 = .ok (.iload_n 1, 1) := by decide +kernel
theorem d_P_lowestInRow_21 : decode b_P_lowestInRow 21 = .ok (.iload_n 2, 1) := by decide +kernel
theorem d_P_lowestInRow_22 : decode b_P_lowestInRow 22 = .ok (.iadd, 1) := by decide +kernel
theorem d_P_lowestInRow_23 : decode b_P_lowestInRow 23 = .ok (.if_icmp .ge 21, 3) := by decide +kernel
theorem d_P_lowestInRow_26 : decode b_P_lowestInRow 26 = .ok (.iload_n 3, 1) := by decide +kernel
theorem d_P_lowestInRow_27 : decode b_P_lowestInRow 27 = .ok (.aload_n 0, 1) := by decide +kernel
theorem d_P_lowestInRow_28 : decode b_P_lowestInRow 28 = .ok (.getfield 33, 3) := by decide +kernel
theorem d_P_lowestInRow_31 : decode b_P_lowestInRow 31 = .ok (.iload 4, 2) := by decide +kernel
theorem d_P_lowestInRow_33 : decode b_P_lowestInRow 33 = .ok (.iaload, 1) := by decide +kernel
theorem d_P_lowestInRow_34 : decode b_P_lowestInRow 34 = .ok (.invokestatic 62, 3) := by decide +kernel
theorem d_P_lowestInRow_37 : decode b_P_lowestInRow 37 = .ok (.istore_n 3, 1) := by decide +kernel
theorem d_P_lowestInRow_38 : decode b_P_lowestInRow 38 = .ok (.iinc 4 1, 3) := by decide +kernel
theorem d_P_lowestInRow_41 : decode b_P_lowestInRow 41 = .ok (.goto (-23), 3) := by decide +kernel
theorem d_P_lowestInRow_44 : decode b_P_lowestInRow 44 = .ok (.iload_n 3, 1) := by decide +kernel
theorem d_P_lowestInRow_45 : decode b_P_lowestInRow 45 = .ok (.ireturn, 1) := by decide +kernel
abbrev b_P_isOnDuty : ByteArray := prog_5_method_13_code
def y_P_isOnDuty : MethodName := ⟨"StationRows$Persons", "isOnDuty", "(II)Z"⟩
theorem d_P_isOnDuty_0 : decode b_P_isOnDuty 0 = .ok (.aload_n 0, 1) := by decide +kernel
theorem d_P_isOnDuty_1 : decode b_P_isOnDuty 1 = .ok (.getfield 15, 3) := by decide +kernel
theorem d_P_isOnDuty_4 : decode b_P_isOnDuty 4 = .ok (.iload_n 1, 1) := by decide +kernel
theorem d_P_isOnDuty_5 : decode b_P_isOnDuty 5 = .ok (.iaload, 1) := by decide +kernel
theorem d_P_isOnDuty_6 : decode b_P_isOnDuty 6 = .ok (.aload_n 0, 1) := by decide +kernel
theorem d_P_isOnDuty_7 : decode b_P_isOnDuty 7 = .ok (.getfield 36, 3) := by decide +kernel
theorem d_P_isOnDuty_10 : decode b_P_isOnDuty 10 = .ok (.if_icmp .gt 20, 3) := by decide +kernel
theorem d_P_isOnDuty_13 : decode b_P_isOnDuty 13 = .ok (.aload_n 0, 1) := by decide +kernel
theorem d_P_isOnDuty_14 : decode b_P_isOnDuty 14 = .ok (.getfield 23, 3) := by decide +kernel
theorem d_P_isOnDuty_17 : decode b_P_isOnDuty 17 = .ok (.iload_n 1, 1) := by decide +kernel
theorem d_P_isOnDuty_18 : decode b_P_isOnDuty 18 = .ok (.iload_n 2, 1) := by decide +kernel
theorem d_P_isOnDuty_19 : decode b_P_isOnDuty 19 = .ok (.invokevirtual 67, 3) := by decide +kernel
theorem d_P_isOnDuty_22 : decode b_P_isOnDuty 22 = .ok (.iconst (-1), 1) := by decide +kernel
theorem d_P_isOnDuty_23 : decode b_P_isOnDuty 23 = .ok (.if_icmp .eq 7, 3) := by decide +kernel
theorem d_P_isOnDuty_26 : decode b_P_isOnDuty 26 = .ok (.iconst 1, 1) := by decide +kernel
theorem d_P_isOnDuty_27 : decode b_P_isOnDuty 27 = .ok (.goto 4, 3) := by decide +kernel
theorem d_P_isOnDuty_30 : decode b_P_isOnDuty 30 = .ok (.iconst 0, 1) := by decide +kernel
theorem d_P_isOnDuty_31 : decode b_P_isOnDuty 31 = .ok (.ireturn, 1) := by decide +kernel
abbrev b_P_stationAt : ByteArray := prog_5_method_14_code
def y_P_stationAt : MethodName := ⟨"StationRows$Persons", "stationAt", "(II)I"⟩
theorem d_P_stationAt_0 : decode b_P_stationAt 0 = .ok (.aload_n 0, 1) := by decide +kernel
theorem d_P_stationAt_1 : decode b_P_stationAt 1 = .ok (.getfield 27, 3) := by decide +kernel
theorem d_P_stationAt_4 : decode b_P_stationAt 4 = .ok (.iload_n 1, 1) := by decide +kernel
theorem d_P_stationAt_5 : decode b_P_stationAt 5 = .ok (.iload_n 2, 1) := by decide +kernel
theorem d_P_stationAt_6 : decode b_P_stationAt 6 = .ok (.invokevirtual 67, 3) := by decide +kernel
theorem d_P_stationAt_9 : decode b_P_stationAt 9 = .ok (.istore_n 3, 1) := by decide +kernel
theorem d_P_stationAt_10 : decode b_P_stationAt 10 = .ok (.iload_n 3, 1) := by decide +kernel
theorem d_P_stationAt_11 : decode b_P_stationAt 11 = .ok (.iconst (-1), 1) := by decide +kernel
theorem d_P_stationAt_12 : decode b_P_stationAt 12 = .ok (.if_icmp .ne 12, 3) := by decide +kernel
theorem d_P_stationAt_15 : decode b_P_stationAt 15 = .ok (.aload_n 0, 1) := by decide +kernel
theorem d_P_stationAt_16 : decode b_P_stationAt 16 = .ok (.getfield 9, 3) := by decide +kernel
theorem d_P_stationAt_19 : decode b_P_stationAt 19 = .ok (.iload_n 1, 1) := by decide +kernel
theorem d_P_stationAt_20 : decode b_P_stationAt 20 = .ok (.iaload, 1) := by decide +kernel
theorem d_P_stationAt_21 : decode b_P_stationAt 21 = .ok (.goto 13, 3) := by decide +kernel
theorem d_P_stationAt_24 : decode b_P_stationAt 24 = .ok (.aload_n 0, 1) := by decide +kernel
theorem d_P_stationAt_25 : decode b_P_stationAt 25 = .ok (.getfield 30, 3) := by decide +kernel
theorem d_P_stationAt_28 : decode b_P_stationAt 28 = .ok (.iload_n 1, 1) := by decide +kernel
theorem d_P_stationAt_29 : decode b_P_stationAt 29 = .ok (.iconst 3, 1) := by decide +kernel
theorem d_P_stationAt_30 : decode b_P_stationAt 30 = .ok (.imul, 1) := by decide +kernel
theorem d_P_stationAt_31 : decode b_P_stationAt 31 = .ok (.iload_n 3, 1) := by decide +kernel
theorem d_P_stationAt_32 : decode b_P_stationAt 32 = .ok (.iadd, 1) := by decide +kernel
theorem d_P_stationAt_33 : decode b_P_stationAt 33 = .ok (.iaload, 1) := by decide +kernel
theorem d_P_stationAt_34 : decode b_P_stationAt 34 = .ok (.ireturn, 1) := by decide +kernel
abbrev b_P_insertIntoRow : ByteArray := prog_5_method_15_code
def y_P_insertIntoRow : MethodName := ⟨"StationRows$Persons", "insertIntoRow", "(I)V"⟩
theorem d_P_insertIntoRow_0 : decode b_P_insertIntoRow 0 = .ok (.aload_n 0, 1) := by decide +kernel
theorem d_P_insertIntoRow_1 : decode b_P_insertIntoRow 1 = .ok (.getfield 47, 3) := by decide +kernel
theorem d_P_insertIntoRow_4 : decode b_P_insertIntoRow 4 = .ok (.istore_n 2, 1) := by decide +kernel
theorem d_P_insertIntoRow_5 : decode b_P_insertIntoRow 5 = .ok (.iload_n 2, 1) := by decide +kernel
theorem d_P_insertIntoRow_6 : decode b_P_insertIntoRow 6 = .ok (.ifCond .le 45, 3) := by decide +kernel
theorem d_P_insertIntoRow_9 : decode b_P_insertIntoRow 9 = .ok (.aload_n 0, 1) := by decide +kernel
theorem d_P_insertIntoRow_10 : decode b_P_insertIntoRow 10 = .ok (.getfield 15, 3) := by decide +kernel
theorem d_P_insertIntoRow_13 : decode b_P_insertIntoRow 13 = .ok (.aload_n 0, 1) := by decide +kernel
theorem d_P_insertIntoRow_14 : decode b_P_insertIntoRow 14 = .ok (.getfield 33, 3) := by decide +kernel
theorem d_P_insertIntoRow_17 : decode b_P_insertIntoRow 17 = .ok (.iload_n 2, 1) := by decide +kernel
theorem d_P_insertIntoRow_18 : decode b_P_insertIntoRow 18 = .ok (.iconst 1, 1) := by decide +kernel
theorem d_P_insertIntoRow_19 : decode b_P_insertIntoRow 19 = .ok (.isub, 1) := by decide +kernel
theorem d_P_insertIntoRow_20 : decode b_P_insertIntoRow 20 = .ok (.iaload, 1) := by decide +kernel
theorem d_P_insertIntoRow_21 : decode b_P_insertIntoRow 21 = .ok (.iaload, 1) := by decide +kernel
theorem d_P_insertIntoRow_22 : decode b_P_insertIntoRow 22 = .ok (.aload_n 0, 1) := by decide +kernel
theorem d_P_insertIntoRow_23 : decode b_P_insertIntoRow 23 = .ok (.getfield 15, 3) := by decide +kernel
theorem d_P_insertIntoRow_26 : decode b_P_insertIntoRow 26 = .ok (.iload_n 1, 1) := by decide +kernel
theorem d_P_insertIntoRow_27 : decode b_P_insertIntoRow 27 = .ok (.iaload, 1) := by decide +kernel
theorem d_P_insertIntoRow_28 : decode b_P_insertIntoRow 28 = .ok (.if_icmp .le 23, 3) := by decide +kernel
theorem d_P_insertIntoRow_31 : decode b_P_insertIntoRow 31 = .ok (.aload_n 0, 1) := by decide +kernel
theorem d_P_insertIntoRow_32 : decode b_P_insertIntoRow 32 = .ok (.getfield 33, 3) := by decide +kernel
theorem d_P_insertIntoRow_35 : decode b_P_insertIntoRow 35 = .ok (.iload_n 2, 1) := by decide +kernel
theorem d_P_insertIntoRow_36 : decode b_P_insertIntoRow 36 = .ok (.aload_n 0, 1) := by decide +kernel
theorem d_P_insertIntoRow_37 : decode b_P_insertIntoRow 37 = .ok (.getfield 33, 3) := by decide +kernel
theorem d_P_insertIntoRow_40 : decode b_P_insertIntoRow 40 = .ok (.iload_n 2, 1) := by decide +kernel
theorem d_P_insertIntoRow_41 : decode b_P_insertIntoRow 41 = .ok (.iconst 1, 1) := by decide +kernel
theorem d_P_insertIntoRow_42 : decode b_P_insertIntoRow 42 = .ok (.isub, 1) := by decide +kernel
theorem d_P_insertIntoRow_43 : decode b_P_insertIntoRow 43 = .ok (.iaload, 1) := by decide +kernel
theorem d_P_insertIntoRow_44 : decode b_P_insertIntoRow 44 = .ok (.iastore, 1) := by decide +kernel
theorem d_P_insertIntoRow_45 : decode b_P_insertIntoRow 45 = .ok (.iinc 2 (-1), 3) := by decide +kernel
theorem d_P_insertIntoRow_48 : decode b_P_insertIntoRow 48 = .ok (.goto (-43), 3) := by decide +kernel
theorem d_P_insertIntoRow_51 : decode b_P_insertIntoRow 51 = .ok (.aload_n 0, 1) := by decide +kernel
theorem d_P_insertIntoRow_52 : decode b_P_insertIntoRow 52 = .ok (.getfield 33, 3) := by decide +kernel
theorem d_P_insertIntoRow_55 : decode b_P_insertIntoRow 55 = .ok (.iload_n 2, 1) := by decide +kernel
theorem d_P_insertIntoRow_56 : decode b_P_insertIntoRow 56 = .ok (.iload_n 1, 1) := by decide +kernel
theorem d_P_insertIntoRow_57 : decode b_P_insertIntoRow 57 = .ok (.iastore, 1) := by decide +kernel
theorem d_P_insertIntoRow_58 : decode b_P_insertIntoRow 58 = .ok (.aload_n 0, 1) := by decide +kernel
theorem d_P_insertIntoRow_59 : decode b_P_insertIntoRow 59 = .ok (.dup, 1) := by decide +kernel
theorem d_P_insertIntoRow_60 : decode b_P_insertIntoRow 60 = .ok (.getfield 47, 3) := by decide +kernel
theorem d_P_insertIntoRow_63 : decode b_P_insertIntoRow 63 = .ok (.iconst 1, 1) := by decide +kernel
theorem d_P_insertIntoRow_64 : decode b_P_insertIntoRow 64 = .ok (.iadd, 1) := by decide +kernel
theorem d_P_insertIntoRow_65 : decode b_P_insertIntoRow 65 = .ok (.putfield 47, 3) := by decide +kernel
theorem d_P_insertIntoRow_68 : decode b_P_insertIntoRow 68 = .ok (.return_, 1) := by decide +kernel
abbrev b_St_init : ByteArray := prog_6_method_1_code
def y_St_init : MethodName := ⟨"StationRows$Stations", "<init>", "()V"⟩
theorem d_St_init_0 : decode b_St_init 0 = .ok (.aload_n 0, 1) := by decide +kernel
theorem d_St_init_1 : decode b_St_init 1 = .ok (.invokespecial 3, 3) := by decide +kernel
theorem d_St_init_4 : decode b_St_init 4 = .ok (.aload_n 0, 1) := by decide +kernel
theorem d_St_init_5 : decode b_St_init 5 = .ok (.bipush 12, 2) := by decide +kernel
theorem d_St_init_7 : decode b_St_init 7 = .ok (.newarray .int, 2) := by decide +kernel
theorem d_St_init_9 : decode b_St_init 9 = .ok (.putfield 9, 3) := by decide +kernel
theorem d_St_init_12 : decode b_St_init 12 = .ok (.aload_n 0, 1) := by decide +kernel
theorem d_St_init_13 : decode b_St_init 13 = .ok (.bipush 12, 2) := by decide +kernel
theorem d_St_init_15 : decode b_St_init 15 = .ok (.newarray .int, 2) := by decide +kernel
theorem d_St_init_17 : decode b_St_init 17 = .ok (.putfield 15, 3) := by decide +kernel
theorem d_St_init_20 : decode b_St_init 20 = .ok (.aload_n 0, 1) := by decide +kernel
theorem d_St_init_21 : decode b_St_init 21 = .ok (.bipush 12, 2) := by decide +kernel
theorem d_St_init_23 : decode b_St_init 23 = .ok (.newarray .int, 2) := by decide +kernel
theorem d_St_init_25 : decode b_St_init 25 = .ok (.putfield 18, 3) := by decide +kernel
theorem d_St_init_28 : decode b_St_init 28 = .ok (.return_, 1) := by decide +kernel
abbrev b_St_count : ByteArray := prog_6_method_2_code
def y_St_count : MethodName := ⟨"StationRows$Stations", "count", "()I"⟩
theorem d_St_count_0 : decode b_St_count 0 = .ok (.aload_n 0, 1) := by decide +kernel
theorem d_St_count_1 : decode b_St_count 1 = .ok (.getfield 21, 3) := by decide +kernel
theorem d_St_count_4 : decode b_St_count 4 = .ok (.ireturn, 1) := by decide +kernel
abbrev b_St_add : ByteArray := prog_6_method_3_code
def y_St_add : MethodName := ⟨"StationRows$Stations", "add", "(III)I"⟩
theorem d_St_add_0 : decode b_St_add 0 = .ok (.aload_n 0, 1) := by decide +kernel
theorem d_St_add_1 : decode b_St_add 1 = .ok (.getfield 9, 3) := by decide +kernel
theorem d_St_add_4 : decode b_St_add 4 = .ok (.aload_n 0, 1) := by decide +kernel
theorem d_St_add_5 : decode b_St_add 5 = .ok (.getfield 21, 3) := by decide +kernel
theorem d_St_add_8 : decode b_St_add 8 = .ok (.iload_n 1, 1) := by decide +kernel
theorem d_St_add_9 : decode b_St_add 9 = .ok (.iastore, 1) := by decide +kernel
theorem d_St_add_10 : decode b_St_add 10 = .ok (.aload_n 0, 1) := by decide +kernel
theorem d_St_add_11 : decode b_St_add 11 = .ok (.getfield 15, 3) := by decide +kernel
theorem d_St_add_14 : decode b_St_add 14 = .ok (.aload_n 0, 1) := by decide +kernel
theorem d_St_add_15 : decode b_St_add 15 = .ok (.getfield 21, 3) := by decide +kernel
theorem d_St_add_18 : decode b_St_add 18 = .ok (.iload_n 2, 1) := by decide +kernel
theorem d_St_add_19 : decode b_St_add 19 = .ok (.iastore, 1) := by decide +kernel
theorem d_St_add_20 : decode b_St_add 20 = .ok (.aload_n 0, 1) := by decide +kernel
theorem d_St_add_21 : decode b_St_add 21 = .ok (.getfield 18, 3) := by decide +kernel
theorem d_St_add_24 : decode b_St_add 24 = .ok (.aload_n 0, 1) := by decide +kernel
theorem d_St_add_25 : decode b_St_add 25 = .ok (.getfield 21, 3) := by decide +kernel
theorem d_St_add_28 : decode b_St_add 28 = .ok (.iload_n 3, 1) := by decide +kernel
theorem d_St_add_29 : decode b_St_add 29 = .ok (.iastore, 1) := by decide +kernel
theorem d_St_add_30 : decode b_St_add 30 = .ok (.aload_n 0, 1) := by decide +kernel
theorem d_St_add_31 : decode b_St_add 31 = .ok (.dup, 1) := by decide +kernel
theorem d_St_add_32 : decode b_St_add 32 = .ok (.getfield 21, 3) := by decide +kernel
theorem d_St_add_35 : decode b_St_add 35 = .ok (.dup_x1, 1) := by decide +kernel
theorem d_St_add_36 : decode b_St_add 36 = .ok (.iconst 1, 1) := by decide +kernel
theorem d_St_add_37 : decode b_St_add 37 = .ok (.iadd, 1) := by decide +kernel
theorem d_St_add_38 : decode b_St_add 38 = .ok (.putfield 21, 3) := by decide +kernel
theorem d_St_add_41 : decode b_St_add 41 = .ok (.ireturn, 1) := by decide +kernel
abbrev b_St_doorsOf : ByteArray := prog_6_method_4_code
def y_St_doorsOf : MethodName := ⟨"StationRows$Stations", "doorsOf", "(I)I"⟩
theorem d_St_doorsOf_0 : decode b_St_doorsOf 0 = .ok (.aload_n 0, 1) := by decide +kernel
theorem d_St_doorsOf_1 : decode b_St_doorsOf 1 = .ok (.getfield 9, 3) := by decide +kernel
theorem d_St_doorsOf_4 : decode b_St_doorsOf 4 = .ok (.iload_n 1, 1) := by decide +kernel
theorem d_St_doorsOf_5 : decode b_St_doorsOf 5 = .ok (.iaload, 1) := by decide +kernel
theorem d_St_doorsOf_6 : decode b_St_doorsOf 6 = .ok (.ireturn, 1) := by decide +kernel
abbrev b_St_isThere : ByteArray := prog_6_method_5_code
def y_St_isThere : MethodName := ⟨"StationRows$Stations", "isThere", "(II)Z"⟩
theorem d_St_isThere_0 : decode b_St_isThere 0 = .ok (.aload_n 0, 1) := by decide +kernel
theorem d_St_isThere_1 : decode b_St_isThere 1 = .ok (.getfield 15, 3) := by decide +kernel
theorem d_St_isThere_4 : decode b_St_isThere 4 = .ok (.iload_n 1, 1) := by decide +kernel
theorem d_St_isThere_5 : decode b_St_isThere 5 = .ok (.iaload, 1) := by decide +kernel
theorem d_St_isThere_6 : decode b_St_isThere 6 = .ok (.iload_n 2, 1) := by decide +kernel
theorem d_St_isThere_7 : decode b_St_isThere 7 = .ok (.if_icmp .gt 17, 3) := by decide +kernel
theorem d_St_isThere_10 : decode b_St_isThere 10 = .ok (.iload_n 2, 1) := by decide +kernel
theorem d_St_isThere_11 : decode b_St_isThere 11 = .ok (.aload_n 0, 1) := by decide +kernel
theorem d_St_isThere_12 : decode b_St_isThere 12 = .ok (.getfield 18, 3) := by decide +kernel
theorem d_St_isThere_15 : decode b_St_isThere 15 = .ok (.iload_n 1, 1) := by decide +kernel
theorem d_St_isThere_16 : decode b_St_isThere 16 = .ok (.iaload, 1) := by decide +kernel
theorem d_St_isThere_17 : decode b_St_isThere 17 = .ok (.if_icmp .ge 7, 3) := by decide +kernel
theorem d_St_isThere_20 : decode b_St_isThere 20 = .ok (.iconst 1, 1) := by decide +kernel
theorem d_St_isThere_21 : decode b_St_isThere 21 = .ok (.goto 4, 3) := by decide +kernel
theorem d_St_isThere_24 : decode b_St_isThere 24 = .ok (.iconst 0, 1) := by decide +kernel
theorem d_St_isThere_25 : decode b_St_isThere 25 = .ok (.ireturn, 1) := by decide +kernel
abbrev b_T_init : ByteArray := prog_7_method_1_code
def y_T_init : MethodName := ⟨"StationRows$Times", "<init>", "(I[I[I[I)V"⟩
theorem d_T_init_0 : decode b_T_init 0 = .ok (.aload_n 0, 1) := by decide +kernel
theorem d_T_init_1 : decode b_T_init 1 = .ok (.invokespecial 3, 3) := by decide +kernel
theorem d_T_init_4 : decode b_T_init 4 = .ok (.aload_n 0, 1) := by decide +kernel
theorem d_T_init_5 : decode b_T_init 5 = .ok (.iload_n 1, 1) := by decide +kernel
theorem d_T_init_6 : decode b_T_init 6 = .ok (.putfield 9, 3) := by decide +kernel
theorem d_T_init_9 : decode b_T_init 9 = .ok (.aload_n 0, 1) := by decide +kernel
theorem d_T_init_10 : decode b_T_init 10 = .ok (.aload_n 2, 1) := by decide +kernel
theorem d_T_init_11 : decode b_T_init 11 = .ok (.putfield 15, 3) := by decide +kernel
theorem d_T_init_14 : decode b_T_init 14 = .ok (.aload_n 0, 1) := by decide +kernel
theorem d_T_init_15 : decode b_T_init 15 = .ok (.aload_n 3, 1) := by decide +kernel
theorem d_T_init_16 : decode b_T_init 16 = .ok (.putfield 19, 3) := by decide +kernel
theorem d_T_init_19 : decode b_T_init 19 = .ok (.aload_n 0, 1) := by decide +kernel
theorem d_T_init_20 : decode b_T_init 20 = .ok (.aload 4, 2) := by decide +kernel
theorem d_T_init_22 : decode b_T_init 22 = .ok (.putfield 22, 3) := by decide +kernel
theorem d_T_init_25 : decode b_T_init 25 = .ok (.return_, 1) := by decide +kernel
abbrev b_T_countOf : ByteArray := prog_7_method_2_code
def y_T_countOf : MethodName := ⟨"StationRows$Times", "countOf", "(I)I"⟩
theorem d_T_countOf_0 : decode b_T_countOf 0 = .ok (.aload_n 0, 1) := by decide +kernel
theorem d_T_countOf_1 : decode b_T_countOf 1 = .ok (.getfield 15, 3) := by decide +kernel
theorem d_T_countOf_4 : decode b_T_countOf 4 = .ok (.iload_n 1, 1) := by decide +kernel
theorem d_T_countOf_5 : decode b_T_countOf 5 = .ok (.iaload, 1) := by decide +kernel
theorem d_T_countOf_6 : decode b_T_countOf 6 = .ok (.ireturn, 1) := by decide +kernel
abbrev b_T_hasRoom : ByteArray := prog_7_method_3_code
def y_T_hasRoom : MethodName := ⟨"StationRows$Times", "hasRoom", "(I)Z"⟩
theorem d_T_hasRoom_0 : decode b_T_hasRoom 0 = .ok (.aload_n 0, 1) := by decide +kernel
theorem d_T_hasRoom_1 : decode b_T_hasRoom 1 = .ok (.getfield 15, 3) := by decide +kernel
theorem d_T_hasRoom_4 : decode b_T_hasRoom 4 = .ok (.iload_n 1, 1) := by decide +kernel
theorem d_T_hasRoom_5 : decode b_T_hasRoom 5 = .ok (.iaload, 1) := by decide +kernel
theorem d_T_hasRoom_6 : decode b_T_hasRoom 6 = .ok (.aload_n 0, 1) := by decide +kernel
theorem d_T_hasRoom_7 : decode b_T_hasRoom 7 = .ok (.getfield 9, 3) := by decide +kernel
theorem d_T_hasRoom_10 : decode b_T_hasRoom 10 = .ok (.if_icmp .ge 7, 3) := by decide +kernel
theorem d_T_hasRoom_13 : decode b_T_hasRoom 13 = .ok (.iconst 1, 1) := by decide +kernel
theorem d_T_hasRoom_14 : decode b_T_hasRoom 14 = .ok (.goto 4, 3) := by decide +kernel
theorem d_T_hasRoom_17 : decode b_T_hasRoom 17 = .ok (.iconst 0, 1) := by decide +kernel
theorem d_T_hasRoom_18 : decode b_T_hasRoom 18 = .ok (.ireturn, 1) := by decide +kernel
abbrev b_T_meets : ByteArray := prog_7_method_4_code
def y_T_meets : MethodName := ⟨"StationRows$Times", "meets", "(III)Z"⟩
theorem d_T_meets_0 : decode b_T_meets 0 = .ok (.iload_n 1, 1) := by decide +kernel
theorem d_T_meets_1 : decode b_T_meets 1 = .ok (.aload_n 0, 1) := by decide +kernel
theorem d_T_meets_2 : decode b_T_meets 2 = .ok (.getfield 9, 3) := by decide +kernel
theorem d_T_meets_5 : decode b_T_meets 5 = .ok (.imul, 1) := by decide +kernel
theorem d_T_meets_6 : decode b_T_meets 6 = .ok (.istore 4, 2) := by decide +kernel
theorem d_T_meets_8 : decode b_T_meets 8 = .ok (.iload 4, 2) := by decide +kernel
theorem d_T_meets_10 : decode b_T_meets 10 = .ok (.istore 5, 2) := by decide +kernel
theorem d_T_meets_12 : decode b_T_meets 12 = .ok (.iload 5, 2) := by decide +kernel
theorem d_T_meets_14 : decode b_T_meets 14 = .ok (.iload 4, 2) := by decide +kernel
theorem d_T_meets_16 : decode b_T_meets 16 = .ok (.aload_n 0, 1) := by decide +kernel
theorem d_T_meets_17 : decode b_T_meets 17 = .ok (.getfield 15, 3) := by decide +kernel
theorem d_T_meets_20 : decode b_T_meets 20 = .ok (.iload_n 1, 1) := by decide +kernel
theorem d_T_meets_21 : decode b_T_meets 21 = .ok (.iaload, 1) := by decide +kernel
theorem d_T_meets_22 : decode b_T_meets 22 = .ok (.iadd, 1) := by decide +kernel
theorem d_T_meets_23 : decode b_T_meets 23 = .ok (.if_icmp .ge 33, 3) := by decide +kernel
theorem d_T_meets_26 : decode b_T_meets 26 = .ok (.iload_n 2, 1) := by decide +kernel
theorem d_T_meets_27 : decode b_T_meets 27 = .ok (.aload_n 0, 1) := by decide +kernel
theorem d_T_meets_28 : decode b_T_meets 28 = .ok (.getfield 22, 3) := by decide +kernel
theorem d_T_meets_31 : decode b_T_meets 31 = .ok (.iload 5, 2) := by decide +kernel
theorem d_T_meets_33 : decode b_T_meets 33 = .ok (.iaload, 1) := by decide +kernel
theorem d_T_meets_34 : decode b_T_meets 34 = .ok (.if_icmp .ge 16, 3) := by decide +kernel
theorem d_T_meets_37 : decode b_T_meets 37 = .ok (.aload_n 0, 1) := by decide +kernel
theorem d_T_meets_38 : decode b_T_meets 38 = .ok (.getfield 19, 3) := by decide +kernel
theorem d_T_meets_41 : decode b_T_meets 41 = .ok (.iload 5, 2) := by decide +kernel
theorem d_T_meets_43 : decode b_T_meets 43 = .ok (.iaload, 1) := by decide +kernel
theorem d_T_meets_44 : decode b_T_meets 44 = .ok (.iload_n 3, 1) := by decide +kernel
theorem d_T_meets_45 : decode b_T_meets 45 = .ok (.if_icmp .ge 5, 3) := by decide +kernel
theorem d_T_meets_48 : decode b_T_meets 48 = .ok (.iconst 1, 1) := by decide +kernel
theorem d_T_meets_49 : decode b_T_meets 49 = .ok (.ireturn, 1) := by decide +kernel
theorem d_T_meets_50 : decode b_T_meets 50 = .ok (.iinc 5 1, 3) := by decide +kernel
theorem d_T_meets_53 : decode b_T_meets 53 = .ok (.goto (-41), 3) := by decide +kernel
theorem d_T_meets_56 : decode b_T_meets 56 = .ok (.iconst 0, 1) := by decide +kernel
theorem d_T_meets_57 : decode b_T_meets 57 = .ok (.ireturn, 1) := by decide +kernel
abbrev b_T_add : ByteArray := prog_7_method_5_code
def y_T_add : MethodName := ⟨"StationRows$Times", "add", "(III)V"⟩
theorem d_T_add_0 : decode b_T_add 0 = .ok (.iload_n 1, 1) := by decide +kernel
theorem d_T_add_1 : decode b_T_add 1 = .ok (.aload_n 0, 1) := by decide +kernel
theorem d_T_add_2 : decode b_T_add 2 = .ok (.getfield 9, 3) := by decide +kernel
theorem d_T_add_5 : decode b_T_add 5 = .ok (.imul, 1) := by decide +kernel
theorem d_T_add_6 : decode b_T_add 6 = .ok (.aload_n 0, 1) := by decide +kernel
theorem d_T_add_7 : decode b_T_add 7 = .ok (.getfield 15, 3) := by decide +kernel
theorem d_T_add_10 : decode b_T_add 10 = .ok (.iload_n 1, 1) := by decide +kernel
theorem d_T_add_11 : decode b_T_add 11 = .ok (.iaload, 1) := by decide +kernel
theorem d_T_add_12 : decode b_T_add 12 = .ok (.iadd, 1) := by decide +kernel
theorem d_T_add_13 : decode b_T_add 13 = .ok (.istore 4, 2) := by decide +kernel
theorem d_T_add_15 : decode b_T_add 15 = .ok (.aload_n 0, 1) := by decide +kernel
theorem d_T_add_16 : decode b_T_add 16 = .ok (.getfield 19, 3) := by decide +kernel
theorem d_T_add_19 : decode b_T_add 19 = .ok (.iload 4, 2) := by decide +kernel
theorem d_T_add_21 : decode b_T_add 21 = .ok (.iload_n 2, 1) := by decide +kernel
theorem d_T_add_22 : decode b_T_add 22 = .ok (.iastore, 1) := by decide +kernel
theorem d_T_add_23 : decode b_T_add 23 = .ok (.aload_n 0, 1) := by decide +kernel
theorem d_T_add_24 : decode b_T_add 24 = .ok (.getfield 22, 3) := by decide +kernel
theorem d_T_add_27 : decode b_T_add 27 = .ok (.iload 4, 2) := by decide +kernel
theorem d_T_add_29 : decode b_T_add 29 = .ok (.iload_n 3, 1) := by decide +kernel
theorem d_T_add_30 : decode b_T_add 30 = .ok (.iastore, 1) := by decide +kernel
theorem d_T_add_31 : decode b_T_add 31 = .ok (.aload_n 0, 1) := by decide +kernel
theorem d_T_add_32 : decode b_T_add 32 = .ok (.getfield 15, 3) := by decide +kernel
theorem d_T_add_35 : decode b_T_add 35 = .ok (.iload_n 1, 1) := by decide +kernel
theorem d_T_add_36 : decode b_T_add 36 = .ok (.dup2, 1) := by decide +kernel
theorem d_T_add_37 : decode b_T_add 37 = .ok (.iaload, 1) := by decide +kernel
theorem d_T_add_38 : decode b_T_add 38 = .ok (.iconst 1, 1) := by decide +kernel
theorem d_T_add_39 : decode b_T_add 39 = .ok (.iadd, 1) := by decide +kernel
theorem d_T_add_40 : decode b_T_add 40 = .ok (.iastore, 1) := by decide +kernel
theorem d_T_add_41 : decode b_T_add 41 = .ok (.return_, 1) := by decide +kernel
abbrev b_T_indexAt : ByteArray := prog_7_method_6_code
def y_T_indexAt : MethodName := ⟨"StationRows$Times", "indexAt", "(II)I"⟩
theorem d_T_indexAt_0 : decode b_T_indexAt 0 = .ok (.iload_n 1, 1) := by decide +kernel
theorem d_T_indexAt_1 : decode b_T_indexAt 1 = .ok (.aload_n 0, 1) := by decide +kernel
theorem d_T_indexAt_2 : decode b_T_indexAt 2 = .ok (.getfield 9, 3) := by decide +kernel
theorem d_T_indexAt_5 : decode b_T_indexAt 5 = .ok (.imul, 1) := by decide +kernel
theorem d_T_indexAt_6 : decode b_T_indexAt 6 = .ok (.istore_n 3, 1) := by decide +kernel
theorem d_T_indexAt_7 : decode b_T_indexAt 7 = .ok (.iconst 0, 1) := by decide +kernel
theorem d_T_indexAt_8 : decode b_T_indexAt 8 = .ok (.istore 4, 2) := by decide +kernel
theorem d_T_indexAt_10 : decode b_T_indexAt 10 = .ok (.iload 4, 2) := by decide +kernel
theorem d_T_indexAt_12 : decode b_T_indexAt 12 = .ok (.aload_n 0, 1) := by decide +kernel
theorem d_T_indexAt_13 : decode b_T_indexAt 13 = .ok (.getfield 15, 3) := by decide +kernel
theorem d_T_indexAt_16 : decode b_T_indexAt 16 = .ok (.iload_n 1, 1) := by decide +kernel
theorem d_T_indexAt_17 : decode b_T_indexAt 17 = .ok (.iaload, 1) := by decide +kernel
theorem d_T_indexAt_18 : decode b_T_indexAt 18 = .ok (.if_icmp .ge 38, 3) := by decide +kernel
theorem d_T_indexAt_21 : decode b_T_indexAt 21 = .ok (.aload_n 0, 1) := by decide +kernel
theorem d_T_indexAt_22 : decode b_T_indexAt 22 = .ok (.getfield 19, 3) := by decide +kernel
theorem d_T_indexAt_25 : decode b_T_indexAt 25 = .ok (.iload_n 3, 1) := by decide +kernel
theorem d_T_indexAt_26 : decode b_T_indexAt 26 = .ok (.iload 4, 2) := by decide +kernel
theorem d_T_indexAt_28 : decode b_T_indexAt 28 = .ok (.iadd, 1) := by decide +kernel
theorem d_T_indexAt_29 : decode b_T_indexAt 29 = .ok (.iaload, 1) := by decide +kernel
theorem d_T_indexAt_30 : decode b_T_indexAt 30 = .ok (.iload_n 2, 1) := by decide +kernel
theorem d_T_indexAt_31 : decode b_T_indexAt 31 = .ok (.if_icmp .gt 19, 3) := by decide +kernel
theorem d_T_indexAt_34 : decode b_T_indexAt 34 = .ok (.iload_n 2, 1) := by decide +kernel
theorem d_T_indexAt_35 : decode b_T_indexAt 35 = .ok (.aload_n 0, 1) := by decide +kernel
theorem d_T_indexAt_36 : decode b_T_indexAt 36 = .ok (.getfield 22, 3) := by decide +kernel
theorem d_T_indexAt_39 : decode b_T_indexAt 39 = .ok (.iload_n 3, 1) := by decide +kernel
theorem d_T_indexAt_40 : decode b_T_indexAt 40 = .ok (.iload 4, 2) := by decide +kernel
theorem d_T_indexAt_42 : decode b_T_indexAt 42 = .ok (.iadd, 1) := by decide +kernel
theorem d_T_indexAt_43 : decode b_T_indexAt 43 = .ok (.iaload, 1) := by decide +kernel
theorem d_T_indexAt_44 : decode b_T_indexAt 44 = .ok (.if_icmp .ge 6, 3) := by decide +kernel
theorem d_T_indexAt_47 : decode b_T_indexAt 47 = .ok (.iload 4, 2) := by decide +kernel
theorem d_T_indexAt_49 : decode b_T_indexAt 49 = .ok (.ireturn, 1) := by decide +kernel
theorem d_T_indexAt_50 : decode b_T_indexAt 50 = .ok (.iinc 4 1, 3) := by decide +kernel
theorem d_T_indexAt_53 : decode b_T_indexAt 53 = .ok (.goto (-43), 3) := by decide +kernel
theorem d_T_indexAt_56 : decode b_T_indexAt 56 = .ok (.iconst (-1), 1) := by decide +kernel
theorem d_T_indexAt_57 : decode b_T_indexAt 57 = .ok (.ireturn, 1) := by decide +kernel
abbrev b_V_init : ByteArray := prog_8_method_1_code
def y_V_init : MethodName := ⟨"StationRows$Vehicles", "<init>", "()V"⟩
theorem d_V_init_0 : decode b_V_init 0 = .ok (.aload_n 0, 1) := by decide +kernel
theorem d_V_init_1 : decode b_V_init 1 = .ok (.invokespecial 3, 3) := by decide +kernel
theorem d_V_init_4 : decode b_V_init 4 = .ok (.aload_n 0, 1) := by decide +kernel
theorem d_V_init_5 : decode b_V_init 5 = .ok (.bipush 30, 2) := by decide +kernel
theorem d_V_init_7 : decode b_V_init 7 = .ok (.newarray .int, 2) := by decide +kernel
theorem d_V_init_9 : decode b_V_init 9 = .ok (.putfield 9, 3) := by decide +kernel
theorem d_V_init_12 : decode b_V_init 12 = .ok (.aload_n 0, 1) := by decide +kernel
theorem d_V_init_13 : decode b_V_init 13 = .ok (.bipush 30, 2) := by decide +kernel
theorem d_V_init_15 : decode b_V_init 15 = .ok (.newarray .int, 2) := by decide +kernel
theorem d_V_init_17 : decode b_V_init 17 = .ok (.putfield 15, 3) := by decide +kernel
theorem d_V_init_20 : decode b_V_init 20 = .ok (.aload_n 0, 1) := by decide +kernel
theorem d_V_init_21 : decode b_V_init 21 = .ok (.bipush 30, 2) := by decide +kernel
theorem d_V_init_23 : decode b_V_init 23 = .ok (.newarray .int, 2) := by decide +kernel
theorem d_V_init_25 : decode b_V_init 25 = .ok (.putfield 18, 3) := by decide +kernel
theorem d_V_init_28 : decode b_V_init 28 = .ok (.aload_n 0, 1) := by decide +kernel
theorem d_V_init_29 : decode b_V_init 29 = .ok (.new 21, 3) := by decide +kernel
theorem d_V_init_32 : decode b_V_init 32 = .ok (.dup, 1) := by decide +kernel
theorem d_V_init_33 : decode b_V_init 33 = .ok (.iconst 4, 1) := by decide +kernel
theorem d_V_init_34 : decode b_V_init 34 = .ok (.bipush 30, 2) := by decide +kernel
theorem d_V_init_36 : decode b_V_init 36 = .ok (.newarray .int, 2) := by decide +kernel
theorem d_V_init_38 : decode b_V_init 38 = .ok (.bipush 120, 2) := by decide +kernel
theorem d_V_init_40 : decode b_V_init 40 = .ok (.newarray .int, 2) := by decide +kernel
theorem d_V_init_42 : decode b_V_init 42 = .ok (.bipush 120, 2) := by decide +kernel
theorem d_V_init_44 : decode b_V_init 44 = .ok (.newarray .int, 2) := by decide +kernel
theorem d_V_init_46 : decode b_V_init 46 = .ok (.invokespecial 23, 3) := by decide +kernel
theorem d_V_init_49 : decode b_V_init 49 = .ok (.putfield 26, 3) := by decide +kernel
theorem d_V_init_52 : decode b_V_init 52 = .ok (.aload_n 0, 1) := by decide +kernel
theorem d_V_init_53 : decode b_V_init 53 = .ok (.bipush 30, 2) := by decide +kernel
theorem d_V_init_55 : decode b_V_init 55 = .ok (.newarray .int, 2) := by decide +kernel
theorem d_V_init_57 : decode b_V_init 57 = .ok (.putfield 30, 3) := by decide +kernel
theorem d_V_init_60 : decode b_V_init 60 = .ok (.aload_n 0, 1) := by decide +kernel
theorem d_V_init_61 : decode b_V_init 61 = .ok (.bipush 30, 2) := by decide +kernel
theorem d_V_init_63 : decode b_V_init 63 = .ok (.newarray .int, 2) := by decide +kernel
theorem d_V_init_65 : decode b_V_init 65 = .ok (.putfield 33, 3) := by decide +kernel
theorem d_V_init_68 : decode b_V_init 68 = .ok (.return_, 1) := by decide +kernel
abbrev b_V_count : ByteArray := prog_8_method_2_code
def y_V_count : MethodName := ⟨"StationRows$Vehicles", "count", "()I"⟩
theorem d_V_count_0 : decode b_V_count 0 = .ok (.aload_n 0, 1) := by decide +kernel
theorem d_V_count_1 : decode b_V_count 1 = .ok (.getfield 36, 3) := by decide +kernel
theorem d_V_count_4 : decode b_V_count 4 = .ok (.ireturn, 1) := by decide +kernel
abbrev b_V_outs : ByteArray := prog_8_method_3_code
def y_V_outs : MethodName := ⟨"StationRows$Vehicles", "outs", "()LStationRows$Times;"⟩
theorem d_V_outs_0 : decode b_V_outs 0 = .ok (.aload_n 0, 1) := by decide +kernel
theorem d_V_outs_1 : decode b_V_outs 1 = .ok (.getfield 26, 3) := by decide +kernel
theorem d_V_outs_4 : decode b_V_outs 4 = .ok (.areturn, 1) := by decide +kernel
abbrev b_V_add : ByteArray := prog_8_method_4_code
def y_V_add : MethodName := ⟨"StationRows$Vehicles", "add", "(III)I"⟩
theorem d_V_add_0 : decode b_V_add 0 = .ok (.aload_n 0, 1) := by decide +kernel
theorem d_V_add_1 : decode b_V_add 1 = .ok (.getfield 9, 3) := by decide +kernel
theorem d_V_add_4 : decode b_V_add 4 = .ok (.aload_n 0, 1) := by decide +kernel
theorem d_V_add_5 : decode b_V_add 5 = .ok (.getfield 36, 3) := by decide +kernel
theorem d_V_add_8 : decode b_V_add 8 = .ok (.iload_n 1, 1) := by decide +kernel
theorem d_V_add_9 : decode b_V_add 9 = .ok (.iastore, 1) := by decide +kernel
theorem d_V_add_10 : decode b_V_add 10 = .ok (.aload_n 0, 1) := by decide +kernel
theorem d_V_add_11 : decode b_V_add 11 = .ok (.getfield 15, 3) := by decide +kernel
theorem d_V_add_14 : decode b_V_add 14 = .ok (.aload_n 0, 1) := by decide +kernel
theorem d_V_add_15 : decode b_V_add 15 = .ok (.getfield 36, 3) := by decide +kernel
theorem d_V_add_18 : decode b_V_add 18 = .ok (.iload_n 2, 1) := by decide +kernel
theorem d_V_add_19 : decode b_V_add 19 = .ok (.iastore, 1) := by decide +kernel
theorem d_V_add_20 : decode b_V_add 20 = .ok (.aload_n 0, 1) := by decide +kernel
theorem d_V_add_21 : decode b_V_add 21 = .ok (.getfield 18, 3) := by decide +kernel
theorem d_V_add_24 : decode b_V_add 24 = .ok (.aload_n 0, 1) := by decide +kernel
theorem d_V_add_25 : decode b_V_add 25 = .ok (.getfield 36, 3) := by decide +kernel
theorem d_V_add_28 : decode b_V_add 28 = .ok (.iload_n 3, 1) := by decide +kernel
theorem d_V_add_29 : decode b_V_add 29 = .ok (.iastore, 1) := by decide +kernel
theorem d_V_add_30 : decode b_V_add 30 = .ok (.aload_n 0, 1) := by decide +kernel
theorem d_V_add_31 : decode b_V_add 31 = .ok (.dup, 1) := by decide +kernel
theorem d_V_add_32 : decode b_V_add 32 = .ok (.getfield 36, 3) := by decide +kernel
theorem d_V_add_35 : decode b_V_add 35 = .ok (.dup_x1, 1) := by decide +kernel
theorem d_V_add_36 : decode b_V_add 36 = .ok (.iconst 1, 1) := by decide +kernel
theorem d_V_add_37 : decode b_V_add 37 = .ok (.iadd, 1) := by decide +kernel
theorem d_V_add_38 : decode b_V_add 38 = .ok (.putfield 36, 3) := by decide +kernel
theorem d_V_add_41 : decode b_V_add 41 = .ok (.ireturn, 1) := by decide +kernel
abbrev b_V_stationOf : ByteArray := prog_8_method_5_code
def y_V_stationOf : MethodName := ⟨"StationRows$Vehicles", "stationOf", "(I)I"⟩
theorem d_V_stationOf_0 : decode b_V_stationOf 0 = .ok (.aload_n 0, 1) := by decide +kernel
theorem d_V_stationOf_1 : decode b_V_stationOf 1 = .ok (.getfield 9, 3) := by decide +kernel
theorem d_V_stationOf_4 : decode b_V_stationOf 4 = .ok (.iload_n 1, 1) := by decide +kernel
theorem d_V_stationOf_5 : decode b_V_stationOf 5 = .ok (.iaload, 1) := by decide +kernel
theorem d_V_stationOf_6 : decode b_V_stationOf 6 = .ok (.ireturn, 1) := by decide +kernel
abbrev b_V_countOf : ByteArray := prog_8_method_6_code
def y_V_countOf : MethodName := ⟨"StationRows$Vehicles", "countOf", "(I)I"⟩
theorem d_V_countOf_0 : decode b_V_countOf 0 = .ok (.iconst 0, 1) := by decide +kernel
theorem d_V_countOf_1 : decode b_V_countOf 1 = .ok (.istore_n 2, 1) := by decide +kernel
theorem d_V_countOf_2 : decode b_V_countOf 2 = .ok (.iconst 0, 1) := by decide +kernel
theorem d_V_countOf_3 : decode b_V_countOf 3 = .ok (.istore_n 3, 1) := by decide +kernel
theorem d_V_countOf_4 : decode b_V_countOf 4 = .ok (.iload_n 3, 1) := by decide +kernel
theorem d_V_countOf_5 : decode b_V_countOf 5 = .ok (.aload_n 0, 1) := by decide +kernel
theorem d_V_countOf_6 : decode b_V_countOf 6 = .ok (.getfield 36, 3) := by decide +kernel
theorem d_V_countOf_9 : decode b_V_countOf 9 = .ok (.if_icmp .ge 22, 3) := by decide +kernel
theorem d_V_countOf_12 : decode b_V_countOf 12 = .ok (.aload_n 0, 1) := by decide +kernel
theorem d_V_countOf_13 : decode b_V_countOf 13 = .ok (.getfield 9, 3) := by decide +kernel
theorem d_V_countOf_16 : decode b_V_countOf 16 = .ok (.iload_n 3, 1) := by decide +kernel
theorem d_V_countOf_17 : decode b_V_countOf 17 = .ok (.iaload, 1) := by decide +kernel
theorem d_V_countOf_18 : decode b_V_countOf 18 = .ok (.iload_n 1, 1) := by decide +kernel
theorem d_V_countOf_19 : decode b_V_countOf 19 = .ok (.if_icmp .ne 6, 3) := by decide +kernel
theorem d_V_countOf_22 : decode b_V_countOf 22 = .ok (.iinc 2 1, 3) := by decide +kernel
theorem d_V_countOf_25 : decode b_V_countOf 25 = .ok (.iinc 3 1, 3) := by decide +kernel
theorem d_V_countOf_28 : decode b_V_countOf 28 = .ok (.goto (-24), 3) := by decide +kernel
theorem d_V_countOf_31 : decode b_V_countOf 31 = .ok (.iload_n 2, 1) := by decide +kernel
theorem d_V_countOf_32 : decode b_V_countOf 32 = .ok (.ireturn, 1) := by decide +kernel
abbrev b_V_isOut : ByteArray := prog_8_method_7_code
def y_V_isOut : MethodName := ⟨"StationRows$Vehicles", "isOut", "(II)Z"⟩
theorem d_V_isOut_0 : decode b_V_isOut 0 = .ok (.aload_n 0, 1) := by decide +kernel
theorem d_V_isOut_1 : decode b_V_isOut 1 = .ok (.getfield 26, 3) := by decide +kernel
theorem d_V_isOut_4 : decode b_V_isOut 4 = .ok (.iload_n 1, 1) := by decide +kernel
theorem d_V_isOut_5 : decode b_V_isOut 5 = .ok (.iload_n 2, 1) := by decide +kernel
theorem d_V_isOut_6 : decode b_V_isOut 6 = .ok (.invokevirtual 40, 3) := by decide +kernel
theorem d_V_isOut_9 : decode b_V_isOut 9 = .ok (.iconst (-1), 1) := by decide +kernel
theorem d_V_isOut_10 : decode b_V_isOut 10 = .ok (.if_icmp .eq 7, 3) := by decide +kernel
theorem d_V_isOut_13 : decode b_V_isOut 13 = .ok (.iconst 1, 1) := by decide +kernel
theorem d_V_isOut_14 : decode b_V_isOut 14 = .ok (.goto 4, 3) := by decide +kernel
theorem d_V_isOut_17 : decode b_V_isOut 17 = .ok (.iconst 0, 1) := by decide +kernel
theorem d_V_isOut_18 : decode b_V_isOut 18 = .ok (.ireturn, 1) := by decide +kernel
abbrev b_V_standsFor : ByteArray := prog_8_method_8_code
def y_V_standsFor : MethodName := ⟨"StationRows$Vehicles", "standsFor", "(I)I"⟩
theorem d_V_standsFor_0 : decode b_V_standsFor 0 = .ok (.aload_n 0, 1) := by decide +kernel
theorem d_V_standsFor_1 : decode b_V_standsFor 1 = .ok (.getfield 30, 3) := by decide +kernel
theorem d_V_standsFor_4 : decode b_V_standsFor 4 = .ok (.iload_n 1, 1) := by decide +kernel
theorem d_V_standsFor_5 : decode b_V_standsFor 5 = .ok (.iaload, 1) := by decide +kernel
theorem d_V_standsFor_6 : decode b_V_standsFor 6 = .ok (.ireturn, 1) := by decide +kernel
abbrev b_V_spareOf : ByteArray := prog_8_method_9_code
def y_V_spareOf : MethodName := ⟨"StationRows$Vehicles", "spareOf", "(I)I"⟩
theorem d_V_spareOf_0 : decode b_V_spareOf 0 = .ok (.aload_n 0, 1) := by decide +kernel
theorem d_V_spareOf_1 : decode b_V_spareOf 1 = .ok (.getfield 33, 3) := by decide +kernel
theorem d_V_spareOf_4 : decode b_V_spareOf 4 = .ok (.iload_n 1, 1) := by decide +kernel
theorem d_V_spareOf_5 : decode b_V_spareOf 5 = .ok (.iaload, 1) := by decide +kernel
theorem d_V_spareOf_6 : decode b_V_spareOf 6 = .ok (.ireturn, 1) := by decide +kernel
abbrev b_V_assignSpares : ByteArray := prog_8_method_10_code
def y_V_assignSpares : MethodName := ⟨"StationRows$Vehicles", "assignSpares", "(LStationRows$Stations;I)V"⟩
theorem d_V_assignSpares_0 : decode b_V_assignSpares 0 = .ok (.aload_n 0, 1) := by decide +kernel
theorem d_V_assignSpares_1 : decode b_V_assignSpares 1 = .ok (.getfield 30, 3) := by decide +kernel
theorem d_V_assignSpares_4 : decode b_V_assignSpares 4 = .ok (.iconst (-1), 1) := by decide +kernel
theorem d_V_assignSpares_5 : decode b_V_assignSpares 5 = .ok (.invokestatic 44, 3) := by decide +kernel
theorem d_V_assignSpares_8 : decode b_V_assignSpares 8 = .ok (.aload_n 0, 1) := by decide +kernel
theorem d_V_assignSpares_9 : decode b_V_assignSpares 9 = .ok (.getfield 33, 3) := by decide +kernel
theorem d_V_assignSpares_12 : decode b_V_assignSpares 12 = .ok (.iconst (-1), 1) := by decide +kernel
theorem d_V_assignSpares_13 : decode b_V_assignSpares 13 = .ok (.invokestatic 44, 3) := by decide +kernel
theorem d_V_assignSpares_16 : decode b_V_assignSpares 16 = .ok (.iconst 0, 1) := by decide +kernel
theorem d_V_assignSpares_17 : decode b_V_assignSpares 17 = .ok (.istore_n 3, 1) := by decide +kernel
theorem d_V_assignSpares_18 : decode b_V_assignSpares 18 = .ok (.iload_n 3, 1) := by decide +kernel
theorem d_V_assignSpares_19 : decode b_V_assignSpares 19 = .ok (.aload_n 0, 1) := by decide +kernel
theorem d_V_assignSpares_20 : decode b_V_assignSpares 20 = .ok (.getfield 36, 3) := by decide +kernel
theorem d_V_assignSpares_23 : decode b_V_assignSpares 23 = .ok (.if_icmp .ge 65, 3) := by decide +kernel
theorem d_V_assignSpares_26 : decode b_V_assignSpares 26 = .ok (.aload_n 0, 1) := by decide +kernel
theorem d_V_assignSpares_27 : decode b_V_assignSpares 27 = .ok (.iload_n 3, 1) := by decide +kernel
theorem d_V_assignSpares_28 : decode b_V_assignSpares 28 = .ok (.invokevirtual 50, 3) := by decide +kernel
theorem d_V_assignSpares_31 : decode b_V_assignSpares 31 = .ok (.ifCond .ne 51, 3) := by decide +kernel
theorem d_V_assignSpares_34 : decode b_V_assignSpares 34 = .ok (.aload_n 0, 1) := by decide +kernel
theorem d_V_assignSpares_35 : decode b_V_assignSpares 35 = .ok (.iload_n 3, 1) := by decide +kernel
theorem d_V_assignSpares_36 : decode b_V_assignSpares 36 = .ok (.iload_n 2, 1) := by decide +kernel
theorem d_V_assignSpares_37 : decode b_V_assignSpares 37 = .ok (.invokevirtual 54, 3) := by decide +kernel
theorem d_V_assignSpares_40 : decode b_V_assignSpares 40 = .ok (.ifCond .ne 6, 3) := by decide +kernel
theorem d_V_assignSpares_43 : decode b_V_assignSpares 43 = .ok (.goto 39, 3) := by decide +kernel
theorem d_V_assignSpares_46 : decode b_V_assignSpares 46 = .ok (.aload_n 0, 1) := by decide +kernel
theorem d_V_assignSpares_47 : decode b_V_assignSpares 47 = .ok (.aload_n 0, 1) := by decide +kernel
theorem d_V_assignSpares_48 : decode b_V_assignSpares 48 = .ok (.getfield 15, 3) := by decide +kernel
theorem d_V_assignSpares_51 : decode b_V_assignSpares 51 = .ok (.iload_n 3, 1) := by decide +kernel
theorem d_V_assignSpares_52 : decode b_V_assignSpares 52 = .ok (.iaload, 1) := by decide +kernel
theorem d_V_assignSpares_53 : decode b_V_assignSpares 53 = .ok (.aload_n 1, 1) := by decide +kernel
theorem d_V_assignSpares_54 : decode b_V_assignSpares 54 = .ok (.iload_n 2, 1) := by decide +kernel
theorem d_V_assignSpares_55 : decode b_V_assignSpares 55 = .ok (.invokevirtual 58, 3) := by decide +kernel
theorem d_V_assignSpares_58 : decode b_V_assignSpares 58 = .ok (.istore 4, 2) := by decide +kernel
theorem d_V_assignSpares_60 : decode b_V_assignSpares 60 = .ok (.iload 4, 2) := by decide +kernel
theorem d_V_assignSpares_62 : decode b_V_assignSpares 62 = .ok (.iconst (-1), 1) := by decide +kernel
theorem d_V_assignSpares_63 : decode b_V_assignSpares 63 = .ok (.if_icmp .eq 19, 3) := by decide +kernel
theorem d_V_assignSpares_66 : decode b_V_assignSpares 66 = .ok (.aload_n 0, 1) := by decide +kernel
theorem d_V_assignSpares_67 : decode b_V_assignSpares 67 = .ok (.getfield 30, 3) := by decide +kernel
theorem d_V_assignSpares_70 : decode b_V_assignSpares 70 = .ok (.iload 4, 2) := by decide +kernel
theorem d_V_assignSpares_72 : decode b_V_assignSpares 72 = .ok (.iload_n 3, 1) := by decide +kernel
theorem d_V_assignSpares_73 : decode b_V_assignSpares 73 = .ok (.iastore, 1) := by decide +kernel
theorem d_V_assignSpares_74 : decode b_V_assignSpares 74 = .ok (.aload_n 0, 1) := by decide +kernel
theorem d_V_assignSpares_75 : decode b_V_assignSpares 75 = .ok (.getfield 33, 3) := by decide +kernel
theorem d_V_assignSpares_78 : decode b_V_assignSpares 78 = .ok (.iload_n 3, 1) := by decide +kernel
theorem d_V_assignSpares_79 : decode b_V_assignSpares 79 = .ok (.iload 4, 2) := by decide +kernel
theorem d_V_assignSpares_81 : decode b_V_assignSpares 81 = .ok (.iastore, 1) := by decide +kernel
theorem d_V_assignSpares_82 : decode b_V_assignSpares 82 = .ok (.iinc 3 1, 3) := by decide +kernel
theorem d_V_assignSpares_85 : decode b_V_assignSpares 85 = .ok (.goto (-67), 3) := by decide +kernel
theorem d_V_assignSpares_88 : decode b_V_assignSpares 88 = .ok (.return_, 1) := by decide +kernel
abbrev b_V_takenBefore : ByteArray := prog_8_method_11_code
def y_V_takenBefore : MethodName := ⟨"StationRows$Vehicles", "takenBefore", "(III)I"⟩
theorem d_V_takenBefore_0 : decode b_V_takenBefore 0 = .ok (.iconst 0, 1) := by decide +kernel
theorem d_V_takenBefore_1 : decode b_V_takenBefore 1 = .ok (.istore 4, 2) := by decide +kernel
theorem d_V_takenBefore_3 : decode b_V_takenBefore 3 = .ok (.iconst 0, 1) := by decide +kernel
theorem d_V_takenBefore_4 : decode b_V_takenBefore 4 = .ok (.istore 5, 2) := by decide +kernel
theorem d_V_takenBefore_6 : decode b_V_takenBefore 6 = .ok (.iload 5, 2) := by decide +kernel
theorem d_V_takenBefore_8 : decode b_V_takenBefore 8 = .ok (.iload_n 1, 1) := by decide +kernel
theorem d_V_takenBefore_9 : decode b_V_takenBefore 9 = .ok (.if_icmp .ge 41, 3) := by decide +kernel
theorem d_V_takenBefore_12 : decode b_V_takenBefore 12 = .ok (.aload_n 0, 1) := by decide +kernel
theorem d_V_takenBefore_13 : decode b_V_takenBefore 13 = .ok (.getfield 9, 3) := by decide +kernel
theorem d_V_takenBefore_16 : decode b_V_takenBefore 16 = .ok (.iload 5, 2) := by decide +kernel
theorem d_V_takenBefore_18 : decode b_V_takenBefore 18 = .ok (.iaload, 1) := by decide +kernel
theorem d_V_takenBefore_19 : decode b_V_takenBefore 19 = .ok (.aload_n 0, 1) := by decide +kernel
theorem d_V_takenBefore_20 : decode b_V_takenBefore 20 = .ok (.getfield 9, 3) := by decide +kernel
theorem d_V_takenBefore_23 : decode b_V_takenBefore 23 = .ok (.iload_n 1, 1) := by decide +kernel
theorem d_V_takenBefore_24 : decode b_V_takenBefore 24 = .ok (.iaload, 1) := by decide +kernel
theorem d_V_takenBefore_25 : decode b_V_takenBefore 25 = .ok (.if_icmp .ne 19, 3) := by decide +kernel
theorem d_V_takenBefore_28 : decode b_V_takenBefore 28 = .ok (.iload 4, 2) := by decide +kernel
theorem d_V_takenBefore_30 : decode b_V_takenBefore 30 = .ok (.aload_n 0, 1) := by decide +kernel
theorem d_V_takenBefore_31 : decode b_V_takenBefore 31 = .ok (.iload 5, 2) := by decide +kernel
theorem d_V_takenBefore_33 : decode b_V_takenBefore 33 = .ok (.iload_n 2, 1) := by decide +kernel
theorem d_V_takenBefore_34 : decode b_V_takenBefore 34 = .ok (.iload_n 3, 1) := by decide +kernel
theorem d_V_takenBefore_35 : decode b_V_takenBefore 35 = .ok (.iload 4, 2) := by decide +kernel
theorem d_V_takenBefore_37 : decode b_V_takenBefore 37 = .ok (.isub, 1) := by decide +kernel
theorem d_V_takenBefore_38 : decode b_V_takenBefore 38 = .ok (.invokevirtual 62, 3) := by decide +kernel
theorem d_V_takenBefore_41 : decode b_V_takenBefore 41 = .ok (.iadd, 1) := by decide +kernel
theorem d_V_takenBefore_42 : decode b_V_takenBefore 42 = .ok (.istore 4, 2) := by decide +kernel
theorem d_V_takenBefore_44 : decode b_V_takenBefore 44 = .ok (.iinc 5 1, 3) := by decide +kernel
theorem d_V_takenBefore_47 : decode b_V_takenBefore 47 = .ok (.goto (-41), 3) := by decide +kernel
theorem d_V_takenBefore_50 : decode b_V_takenBefore 50 = .ok (.iload 4, 2) := by decide +kernel
theorem d_V_takenBefore_52 : decode b_V_takenBefore 52 = .ok (.ireturn, 1) := by decide +kernel
abbrev b_V_takenBy : ByteArray := prog_8_method_12_code
def y_V_takenBy : MethodName := ⟨"StationRows$Vehicles", "takenBy", "(III)I"⟩
theorem d_V_takenBy_0 : decode b_V_takenBy 0 = .ok (.aload_n 0, 1) := by decide +kernel
theorem d_V_takenBy_1 : decode b_V_takenBy 1 = .ok (.iload_n 1, 1) := by decide +kernel
theorem d_V_takenBy_2 : decode b_V_takenBy 2 = .ok (.iload_n 2, 1) := by decide +kernel
theorem d_V_takenBy_3 : decode b_V_takenBy 3 = .ok (.invokevirtual 66, 3) := by decide +kernel
theorem d_V_takenBy_6 : decode b_V_takenBy 6 = .ok (.istore 4, 2) := by decide +kernel
theorem d_V_takenBy_8 : decode b_V_takenBy 8 = .ok (.iload 4, 2) := by decide +kernel
theorem d_V_takenBy_10 : decode b_V_takenBy 10 = .ok (.iload_n 3, 1) := by decide +kernel
theorem d_V_takenBy_11 : decode b_V_takenBy 11 = .ok (.if_icmp .gt 8, 3) := by decide +kernel
theorem d_V_takenBy_14 : decode b_V_takenBy 14 = .ok (.iload 4, 2) := by decide +kernel
theorem d_V_takenBy_16 : decode b_V_takenBy 16 = .ok (.goto 4, 3) := by decide +kernel
theorem d_V_takenBy_19 : decode b_V_takenBy 19 = .ok (.iconst 0, 1) := by decide +kernel
theorem d_V_takenBy_20 : decode b_V_takenBy 20 = .ok (.ireturn, 1) := by decide +kernel
abbrev b_V_isSpare : ByteArray := prog_8_method_13_code
def y_V_isSpare : MethodName := ⟨"StationRows$Vehicles", "isSpare", "(I)Z"⟩
theorem d_V_isSpare_0 : decode b_V_isSpare 0 = .ok (.aload_n 0, 1) := by decide +kernel
theorem d_V_isSpare_1 : decode b_V_isSpare 1 = .ok (.getfield 18, 3) := by decide +kernel
theorem d_V_isSpare_4 : decode b_V_isSpare 4 = .ok (.iload_n 1, 1) := by decide +kernel
theorem d_V_isSpare_5 : decode b_V_isSpare 5 = .ok (.iaload, 1) := by decide +kernel
theorem d_V_isSpare_6 : decode b_V_isSpare 6 = .ok (.ifCond .ne 7, 3) := by decide +kernel
theorem d_V_isSpare_9 : decode b_V_isSpare 9 = .ok (.iconst 1, 1) := by decide +kernel
theorem d_V_isSpare_10 : decode b_V_isSpare 10 = .ok (.goto 4, 3) := by decide +kernel
theorem d_V_isSpare_13 : decode b_V_isSpare 13 = .ok (.iconst 0, 1) := by decide +kernel
theorem d_V_isSpare_14 : decode b_V_isSpare 14 = .ok (.ireturn, 1) := by decide +kernel
abbrev b_V_lowestFreeSpare : ByteArray := prog_8_method_14_code
def y_V_lowestFreeSpare : MethodName := ⟨"StationRows$Vehicles", "lowestFreeSpare", "(ILStationRows$Stations;I)I"⟩
theorem d_V_lowestFreeSpare_0 : decode b_V_lowestFreeSpare 0 = .ok (.iconst 0, 1) := by decide +kernel
theorem d_V_lowestFreeSpare_1 : decode b_V_lowestFreeSpare 1 = .ok (.istore 4, 2) := by decide +kernel
theorem d_V_lowestFreeSpare_3 : decode b_V_lowestFreeSpare 3 = .ok (.iload 4, 2) := by decide +kernel
theorem d_V_lowestFreeSpare_5 : decode b_V_lowestFreeSpare 5 = .ok (.aload_n 0, 1) := by decide +kernel
theorem d_V_lowestFreeSpare_6 : decode b_V_lowestFreeSpare 6 = .ok (.getfield 36, 3) := by decide +kernel
theorem d_V_lowestFreeSpare_9 : decode b_V_lowestFreeSpare 9 = .ok (.if_icmp .ge 68, 3) := by decide +kernel
theorem d_V_lowestFreeSpare_12 : decode b_V_lowestFreeSpare 12 = .ok (.aload_n 0, 1) := by decide +kernel
theorem d_V_lowestFreeSpare_13 : decode b_V_lowestFreeSpare 13 = .ok (.iload 4, 2) := by decide +kernel
theorem d_V_lowestFreeSpare_15 : decode b_V_lowestFreeSpare 15 = .ok (.invokevirtual 50, 3) := by decide +kernel
theorem d_V_lowestFreeSpare_18 : decode b_V_lowestFreeSpare 18 = .ok (.ifCond .eq 53, 3) := by decide +kernel
theorem d_V_lowestFreeSpare_21 : decode b_V_lowestFreeSpare 21 = .ok (.aload_n 0, 1) := by decide +kernel
theorem d_V_lowestFreeSpare_22 : decode b_V_lowestFreeSpare 22 = .ok (.getfield 15, 3) := by decide +kernel
theorem d_V_lowestFreeSpare_25 : decode b_V_lowestFreeSpare 25 = .ok (.iload 4, 2) := by decide +kernel
theorem d_V_lowestFreeSpare_27 : decode b_V_lowestFreeSpare 27 = .ok (.iaload, 1) := by decide +kernel
theorem d_V_lowestFreeSpare_28 : decode b_V_lowestFreeSpare 28 = .ok (.iload_n 1, 1) := by decide +kernel
theorem d_V_lowestFreeSpare_29 : decode b_V_lowestFreeSpare 29 = .ok (.if_icmp .ne 42, 3) := by decide +kernel
theorem d_V_lowestFreeSpare_32 : decode b_V_lowestFreeSpare 32 = .ok (.aload_n 0, 1) := by decide +kernel
theorem d_V_lowestFreeSpare_33 : decode b_V_lowestFreeSpare 33 = .ok (.getfield 30, 3) := by decide +kernel
theorem d_V_lowestFreeSpare_36 : decode b_V_lowestFreeSpare 36 = .ok (.iload 4, 2) := by decide +kernel
theorem d_V_lowestFreeSpare_38 : decode b_V_lowestFreeSpare 38 = .ok (.iaload, 1) := by decide +kernel
theorem d_V_lowestFreeSpare_39 : decode b_V_lowestFreeSpare 39 = .ok (.iconst (-1), 1) := by decide +kernel
theorem d_V_lowestFreeSpare_40 : decode b_V_lowestFreeSpare 40 = .ok (.if_icmp .ne 31, 3) := by decide +kernel
theorem d_V_lowestFreeSpare_43 : decode b_V_lowestFreeSpare 43 = .ok (.aload_n 2, 1) := by decide +kernel
theorem d_V_lowestFreeSpare_44 : decode b_V_lowestFreeSpare 44 = .ok (.aload_n 0, 1) := by decide +kernel
theorem d_V_lowestFreeSpare_45 : decode b_V_lowestFreeSpare 45 = .ok (.getfield 9, 3) := by decide +kernel
theorem d_V_lowestFreeSpare_48 : decode b_V_lowestFreeSpare 48 = .ok (.iload 4, 2) := by decide +kernel
theorem d_V_lowestFreeSpare_50 : decode b_V_lowestFreeSpare 50 = .ok (.iaload, 1) := by decide +kernel
theorem d_V_lowestFreeSpare_51 : decode b_V_lowestFreeSpare 51 = .ok (.iload_n 3, 1) := by decide +kernel
theorem d_V_lowestFreeSpare_52 : decode b_V_lowestFreeSpare 52 = .ok (.invokevirtual 69, 3) := by decide +kernel
theorem d_V_lowestFreeSpare_55 : decode b_V_lowestFreeSpare 55 = .ok (.ifCond .eq 16, 3) := by decide +kernel
theorem d_V_lowestFreeSpare_58 : decode b_V_lowestFreeSpare 58 = .ok (.aload_n 0, 1) := by decide +kernel
theorem d_V_lowestFreeSpare_59 : decode b_V_lowestFreeSpare 59 = .ok (.iload 4, 2) := by decide +kernel
theorem d_V_lowestFreeSpare_61 : decode b_V_lowestFreeSpare 61 = .ok (.iload_n 3, 1) := by decide +kernel
theorem d_V_lowestFreeSpare_62 : decode b_V_lowestFreeSpare 62 = .ok (.invokevirtual 54, 3) := by decide +kernel
theorem d_V_lowestFreeSpare_65 : decode b_V_lowestFreeSpare 65 = .ok (.ifCond .ne 6, 3) := by decide +kernel
theorem d_V_lowestFreeSpare_68 : decode b_V_lowestFreeSpare 68 = .ok (.iload 4, 2) := by decide +kernel
theorem d_V_lowestFreeSpare_70 : decode b_V_lowestFreeSpare 70 = .ok (.ireturn, 1) := by decide +kernel
theorem d_V_lowestFreeSpare_71 : decode b_V_lowestFreeSpare 71 = .ok (.iinc 4 1, 3) := by decide +kernel
theorem d_V_lowestFreeSpare_74 : decode b_V_lowestFreeSpare 74 = .ok (.goto (-71), 3) := by decide +kernel
theorem d_V_lowestFreeSpare_77 : decode b_V_lowestFreeSpare 77 = .ok (.iconst (-1), 1) := by decide +kernel
theorem d_V_lowestFreeSpare_78 : decode b_V_lowestFreeSpare 78 = .ok (.ireturn, 1) := by decide +kernel
abbrev b_V_wantedBy : ByteArray := prog_8_method_15_code
def y_V_wantedBy : MethodName := ⟨"StationRows$Vehicles", "wantedBy", "(II)I"⟩
theorem d_V_wantedBy_0 : decode b_V_wantedBy 0 = .ok (.aload_n 0, 1) := by decide +kernel
theorem d_V_wantedBy_1 : decode b_V_wantedBy 1 = .ok (.iload_n 1, 1) := by decide +kernel
theorem d_V_wantedBy_2 : decode b_V_wantedBy 2 = .ok (.iload_n 2, 1) := by decide +kernel
theorem d_V_wantedBy_3 : decode b_V_wantedBy 3 = .ok (.invokevirtual 54, 3) := by decide +kernel
theorem d_V_wantedBy_6 : decode b_V_wantedBy 6 = .ok (.ifCond .eq 5, 3) := by decide +kernel
theorem d_V_wantedBy_9 : decode b_V_wantedBy 9 = .ok (.iconst 0, 1) := by decide +kernel
theorem d_V_wantedBy_10 : decode b_V_wantedBy 10 = .ok (.ireturn, 1) := by decide +kernel
theorem d_V_wantedBy_11 : decode b_V_wantedBy 11 = .ok (.aload_n 0, 1) := by decide +kernel
theorem d_V_wantedBy_12 : decode b_V_wantedBy 12 = .ok (.getfield 30, 3) := by decide +kernel
theorem d_V_wantedBy_15 : decode b_V_wantedBy 15 = .ok (.iload_n 1, 1) := by decide +kernel
theorem d_V_wantedBy_16 : decode b_V_wantedBy 16 = .ok (.iaload, 1) := by decide +kernel
theorem d_V_wantedBy_17 : decode b_V_wantedBy 17 = .ok (.istore_n 3, 1) := by decide +kernel
theorem d_V_wantedBy_18 : decode b_V_wantedBy 18 = .ok (.iload_n 3, 1) := by decide +kernel
theorem d_V_wantedBy_19 : decode b_V_wantedBy 19 = .ok (.iconst (-1), 1) := by decide +kernel
theorem d_V_wantedBy_20 : decode b_V_wantedBy 20 = .ok (.if_icmp .ne 12, 3) := by decide +kernel
theorem d_V_wantedBy_23 : decode b_V_wantedBy 23 = .ok (.aload_n 0, 1) := by decide +kernel
theorem d_V_wantedBy_24 : decode b_V_wantedBy 24 = .ok (.getfield 18, 3) := by decide +kernel
theorem d_V_wantedBy_27 : decode b_V_wantedBy 27 = .ok (.iload_n 1, 1) := by decide +kernel
theorem d_V_wantedBy_28 : decode b_V_wantedBy 28 = .ok (.iaload, 1) := by decide +kernel
theorem d_V_wantedBy_29 : decode b_V_wantedBy 29 = .ok (.goto 9, 3) := by decide +kernel
theorem d_V_wantedBy_32 : decode b_V_wantedBy 32 = .ok (.aload_n 0, 1) := by decide +kernel
theorem d_V_wantedBy_33 : decode b_V_wantedBy 33 = .ok (.getfield 18, 3) := by decide +kernel
theorem d_V_wantedBy_36 : decode b_V_wantedBy 36 = .ok (.iload_n 3, 1) := by decide +kernel
theorem d_V_wantedBy_37 : decode b_V_wantedBy 37 = .ok (.iaload, 1) := by decide +kernel
theorem d_V_wantedBy_38 : decode b_V_wantedBy 38 = .ok (.ireturn, 1) := by decide +kernel
abbrev b_S_init : ByteArray := prog_1_method_1_code
def y_S_init : MethodName := ⟨"StationRows", "<init>", "()V"⟩
theorem d_S_init_0 : decode b_S_init 0 = .ok (.aload_n 0, 1) := by decide +kernel
theorem d_S_init_1 : decode b_S_init 1 = .ok (.invokespecial 1, 3) := by decide +kernel
theorem d_S_init_4 : decode b_S_init 4 = .ok (.aload_n 0, 1) := by decide +kernel
theorem d_S_init_5 : decode b_S_init 5 = .ok (.new 7, 3) := by decide +kernel
theorem d_S_init_8 : decode b_S_init 8 = .ok (.dup, 1) := by decide +kernel
theorem d_S_init_9 : decode b_S_init 9 = .ok (.invokespecial 9, 3) := by decide +kernel
theorem d_S_init_12 : decode b_S_init 12 = .ok (.putfield 10, 3) := by decide +kernel
theorem d_S_init_15 : decode b_S_init 15 = .ok (.aload_n 0, 1) := by decide +kernel
theorem d_S_init_16 : decode b_S_init 16 = .ok (.new 16, 3) := by decide +kernel
theorem d_S_init_19 : decode b_S_init 19 = .ok (.dup, 1) := by decide +kernel
theorem d_S_init_20 : decode b_S_init 20 = .ok (.invokespecial 18, 3) := by decide +kernel
theorem d_S_init_23 : decode b_S_init 23 = .ok (.putfield 19, 3) := by decide +kernel
theorem d_S_init_26 : decode b_S_init 26 = .ok (.aload_n 0, 1) := by decide +kernel
theorem d_S_init_27 : decode b_S_init 27 = .ok (.new 23, 3) := by decide +kernel
theorem d_S_init_30 : decode b_S_init 30 = .ok (.dup, 1) := by decide +kernel
theorem d_S_init_31 : decode b_S_init 31 = .ok (.invokespecial 25, 3) := by decide +kernel
theorem d_S_init_34 : decode b_S_init 34 = .ok (.putfield 26, 3) := by decide +kernel
theorem d_S_init_37 : decode b_S_init 37 = .ok (.aload_n 0, 1) := by decide +kernel
theorem d_S_init_38 : decode b_S_init 38 = .ok (.new 30, 3) := by decide +kernel
theorem d_S_init_41 : decode b_S_init 41 = .ok (.dup, 1) := by decide +kernel
theorem d_S_init_42 : decode b_S_init 42 = .ok (.invokespecial 32, 3) := by decide +kernel
theorem d_S_init_45 : decode b_S_init 45 = .ok (.putfield 33, 3) := by decide +kernel
theorem d_S_init_48 : decode b_S_init 48 = .ok (.aload_n 0, 1) := by decide +kernel
theorem d_S_init_49 : decode b_S_init 49 = .ok (.new 37, 3) := by decide +kernel
theorem d_S_init_52 : decode b_S_init 52 = .ok (.dup, 1) := by decide +kernel
theorem d_S_init_53 : decode b_S_init 53 = .ok (.invokespecial 39, 3) := by decide +kernel
theorem d_S_init_56 : decode b_S_init 56 = .ok (.putfield 40, 3) := by decide +kernel
theorem d_S_init_59 : decode b_S_init 59 = .ok (.aload_n 0, 1) := by decide +kernel
theorem d_S_init_60 : decode b_S_init 60 = .ok (.new 44, 3) := by decide +kernel
theorem d_S_init_63 : decode b_S_init 63 = .ok (.dup, 1) := by decide +kernel
theorem d_S_init_64 : decode b_S_init 64 = .ok (.invokespecial 46, 3) := by decide +kernel
theorem d_S_init_67 : decode b_S_init 67 = .ok (.putfield 47, 3) := by decide +kernel
theorem d_S_init_70 : decode b_S_init 70 = .ok (.return_, 1) := by decide +kernel
abbrev b_S_station : ByteArray := prog_1_method_2_code
def y_S_station : MethodName := ⟨"StationRows", "station", "(I)I"⟩
theorem d_S_station_0 : decode b_S_station 0 = .ok (.iload_n 1, 1) := by decide +kernel
theorem d_S_station_1 : decode b_S_station 1 = .ok (.iconst 1, 1) := by decide +kernel
theorem d_S_station_2 : decode b_S_station 2 = .ok (.bipush 6, 2) := by decide +kernel
theorem d_S_station_4 : decode b_S_station 4 = .ok (.invokestatic 51, 3) := by decide +kernel
theorem d_S_station_7 : decode b_S_station 7 = .ok (.aload_n 0, 1) := by decide +kernel
theorem d_S_station_8 : decode b_S_station 8 = .ok (.getfield 10, 3) := by decide +kernel
theorem d_S_station_11 : decode b_S_station 11 = .ok (.invokevirtual 55, 3) := by decide +kernel
theorem d_S_station_14 : decode b_S_station 14 = .ok (.bipush 12, 2) := by decide +kernel
theorem d_S_station_16 : decode b_S_station 16 = .ok (.if_icmp .ge 7, 3) := by decide +kernel
theorem d_S_station_19 : decode b_S_station 19 = .ok (.iconst 1, 1) := by decide +kernel
theorem d_S_station_20 : decode b_S_station 20 = .ok (.goto 4, 3) := by decide +kernel
theorem d_S_station_23 : decode b_S_station 23 = .ok (.iconst 0, 1) := by decide +kernel
theorem d_S_station_24 : decode b_S_station 24 = .ok (.invokestatic 59, 3) := by decide +kernel
theorem d_S_station_27 : decode b_S_station 27 = .ok (.aload_n 0, 1) := by decide +kernel
theorem d_S_station_28 : decode b_S_station 28 = .ok (.getfield 10, 3) := by decide +kernel
theorem d_S_station_31 : decode b_S_station 31 = .ok (.iload_n 1, 1) := by decide +kernel
theorem d_S_station_32 : decode b_S_station 32 = .ok (.iconst 0, 1) := by decide +kernel
theorem d_S_station_33 : decode b_S_station 33 = .ok (.ldc 63, 2) := by decide +kernel
theorem d_S_station_35 : decode b_S_station 35 = .ok (.invokevirtual 64, 3) := by decide +kernel
theorem d_S_station_38 : decode b_S_station 38 = .ok (.ireturn, 1) := by decide +kernel
abbrev b_S_temporary : ByteArray := prog_1_method_3_code
def y_S_temporary : MethodName := ⟨"StationRows", "temporary", "(III)I"⟩
theorem d_S_temporary_0 : decode b_S_temporary 0 = .ok (.iload_n 1, 1) := by decide +kernel
theorem d_S_temporary_1 : decode b_S_temporary 1 = .ok (.iconst 1, 1) := by decide +kernel
theorem d_S_temporary_2 : decode b_S_temporary 2 = .ok (.bipush 6, 2) := by decide +kernel
theorem d_S_temporary_4 : decode b_S_temporary 4 = .ok (.invokestatic 51, 3) := by decide +kernel
theorem d_S_temporary_7 : decode b_S_temporary 7 = .ok (.iload_n 2, 1) := by decide +kernel
theorem d_S_temporary_8 : decode b_S_temporary 8 = .ok (.iload_n 3, 1) := by decide +kernel
theorem d_S_temporary_9 : decode b_S_temporary 9 = .ok (.invokestatic 68, 3) := by decide +kernel
theorem d_S_temporary_12 : decode b_S_temporary 12 = .ok (.aload_n 0, 1) := by decide +kernel
theorem d_S_temporary_13 : decode b_S_temporary 13 = .ok (.getfield 10, 3) := by decide +kernel
theorem d_S_temporary_16 : decode b_S_temporary 16 = .ok (.invokevirtual 55, 3) := by decide +kernel
theorem d_S_temporary_19 : decode b_S_temporary 19 = .ok (.bipush 12, 2) := by decide +kernel
theorem d_S_temporary_21 : decode b_S_temporary 21 = .ok (.if_icmp .ge 7, 3) := by decide +kernel
theorem d_S_temporary_24 : decode b_S_temporary 24 = .ok (.iconst 1, 1) := by decide +kernel
theorem d_S_temporary_25 : decode b_S_temporary 25 = .ok (.goto 4, 3) := by decide +kernel
theorem d_S_temporary_28 : decode b_S_temporary 28 = .ok (.iconst 0, 1) := by decide +kernel
theorem d_S_temporary_29 : decode b_S_temporary 29 = .ok (.invokestatic 59, 3) := by decide +kernel
theorem d_S_temporary_32 : decode b_S_temporary 32 = .ok (.aload_n 0, 1) := by decide +kernel
theorem d_S_temporary_33 : decode b_S_temporary 33 = .ok (.getfield 10, 3) := by decide +kernel
theorem d_S_temporary_36 : decode b_S_temporary 36 = .ok (.iload_n 1, 1) := by decide +kernel
theorem d_S_temporary_37 : decode b_S_temporary 37 = .ok (.iload_n 2, 1) := by decide +kernel
theorem d_S_temporary_38 : decode b_S_temporary 38 = .ok (.iload_n 3, 1) := by decide +kernel
theorem d_S_temporary_39 : decode b_S_temporary 39 = .ok (.invokevirtual 64, 3) := by decide +kernel
theorem d_S_temporary_42 : decode b_S_temporary 42 = .ok (.ireturn, 1) := by decide +kernel
abbrev b_S_vehicle : ByteArray := prog_1_method_4_code
def y_S_vehicle : MethodName := ⟨"StationRows", "vehicle", "(III)I"⟩
theorem d_S_vehicle_0 : decode b_S_vehicle 0 = .ok (.iload_n 1, 1) := by decide +kernel
theorem d_S_vehicle_1 : decode b_S_vehicle 1 = .ok (.aload_n 0, 1) := by decide +kernel
theorem d_S_vehicle_2 : decode b_S_vehicle 2 = .ok (.getfield 10, 3) := by decide +kernel
theorem d_S_vehicle_5 : decode b_S_vehicle 5 = .ok (.invokevirtual 55, 3) := by decide +kernel
theorem d_S_vehicle_8 : decode b_S_vehicle 8 = .ok (.invokestatic 72, 3) := by decide +kernel
theorem d_S_vehicle_11 : decode b_S_vehicle 11 = .ok (.iload_n 2, 1) := by decide +kernel
theorem d_S_vehicle_12 : decode b_S_vehicle 12 = .ok (.iconst 0, 1) := by decide +kernel
theorem d_S_vehicle_13 : decode b_S_vehicle 13 = .ok (.bipush 9, 2) := by decide +kernel
theorem d_S_vehicle_15 : decode b_S_vehicle 15 = .ok (.invokestatic 51, 3) := by decide +kernel
theorem d_S_vehicle_18 : decode b_S_vehicle 18 = .ok (.iload_n 3, 1) := by decide +kernel
theorem d_S_vehicle_19 : decode b_S_vehicle 19 = .ok (.iconst 0, 1) := by decide +kernel
theorem d_S_vehicle_20 : decode b_S_vehicle 20 = .ok (.bipush 9, 2) := by decide +kernel
theorem d_S_vehicle_22 : decode b_S_vehicle 22 = .ok (.invokestatic 51, 3) := by decide +kernel
theorem d_S_vehicle_25 : decode b_S_vehicle 25 = .ok (.aload_n 0, 1) := by decide +kernel
theorem d_S_vehicle_26 : decode b_S_vehicle 26 = .ok (.getfield 19, 3) := by decide +kernel
theorem d_S_vehicle_29 : decode b_S_vehicle 29 = .ok (.invokevirtual 75, 3) := by decide +kernel
theorem d_S_vehicle_32 : decode b_S_vehicle 32 = .ok (.bipush 30, 2) := by decide +kernel
theorem d_S_vehicle_34 : decode b_S_vehicle 34 = .ok (.if_icmp .ge 7, 3) := by decide +kernel
theorem d_S_vehicle_37 : decode b_S_vehicle 37 = .ok (.iconst 1, 1) := by decide +kernel
theorem d_S_vehicle_38 : decode b_S_vehicle 38 = .ok (.goto 4, 3) := by decide +kernel
theorem d_S_vehicle_41 : decode b_S_vehicle 41 = .ok (.iconst 0, 1) := by decide +kernel
theorem d_S_vehicle_42 : decode b_S_vehicle 42 = .ok (.invokestatic 59, 3) := by decide +kernel
theorem d_S_vehicle_45 : decode b_S_vehicle 45 = .ok (.aload_n 0, 1) := by decide +kernel
theorem d_S_vehicle_46 : decode b_S_vehicle 46 = .ok (.getfield 19, 3) := by decide +kernel
theorem d_S_vehicle_49 : decode b_S_vehicle 49 = .ok (.iload_n 1, 1) := by decide +kernel
theorem d_S_vehicle_50 : decode b_S_vehicle 50 = .ok (.invokevirtual 76, 3) := by decide +kernel
theorem d_S_vehicle_53 : decode b_S_vehicle 53 = .ok (.aload_n 0, 1) := by decide +kernel
theorem d_S_vehicle_54 : decode b_S_vehicle 54 = .ok (.getfield 10, 3) := by decide +kernel
theorem d_S_vehicle_57 : decode b_S_vehicle 57 = .ok (.iload_n 1, 1) := by decide +kernel
theorem d_S_vehicle_58 : decode b_S_vehicle 58 = .ok (.invokevirtual 80, 3) := by decide +kernel
theorem d_S_vehicle_61 : decode b_S_vehicle 61 = .ok (.if_icmp .ge 7, 3) := by decide +kernel
theorem d_S_vehicle_64 : decode b_S_vehicle 64 = .ok (.iconst 1, 1) := by decide +kernel
theorem d_S_vehicle_65 : decode b_S_vehicle 65 = .ok (.goto 4, 3) := by decide +kernel
theorem d_S_vehicle_68 : decode b_S_vehicle 68 = .ok (.iconst 0, 1) := by decide +kernel
theorem d_S_vehicle_69 : decode b_S_vehicle 69 = .ok (.invokestatic 59, 3) := by decide +kernel
theorem d_S_vehicle_72 : decode b_S_vehicle 72 = .ok (.aload_n 0, 1) := by decide +kernel
theorem d_S_vehicle_73 : decode b_S_vehicle 73 = .ok (.getfield 19, 3) := by decide +kernel
theorem d_S_vehicle_76 : decode b_S_vehicle 76 = .ok (.iload_n 1, 1) := by decide +kernel
theorem d_S_vehicle_77 : decode b_S_vehicle 77 = .ok (.iload_n 2, 1) := by decide +kernel
theorem d_S_vehicle_78 : decode b_S_vehicle 78 = .ok (.iload_n 3, 1) := by decide +kernel
theorem d_S_vehicle_79 : decode b_S_vehicle 79 = .ok (.invokevirtual 83, 3) := by decide +kernel
theorem d_S_vehicle_82 : decode b_S_vehicle 82 = .ok (.ireturn, 1) := by decide +kernel
abbrev b_S_out : ByteArray := prog_1_method_5_code
def y_S_out : MethodName := ⟨"StationRows", "out", "(III)V"⟩
theorem d_S_out_0 : decode b_S_out 0 = .ok (.iload_n 1, 1) := by decide +kernel
theorem d_S_out_1 : decode b_S_out 1 = .ok (.aload_n 0, 1) := by decide +kernel
theorem d_S_out_2 : decode b_S_out 2 = .ok (.getfield 19, 3) := by decide +kernel
theorem d_S_out_5 : decode b_S_out 5 = .ok (.invokevirtual 75, 3) := by decide +kernel
theorem d_S_out_8 : decode b_S_out 8 = .ok (.invokestatic 72, 3) := by decide +kernel
theorem d_S_out_11 : decode b_S_out 11 = .ok (.iload_n 2, 1) := by decide +kernel
theorem d_S_out_12 : decode b_S_out 12 = .ok (.iload_n 3, 1) := by decide +kernel
theorem d_S_out_13 : decode b_S_out 13 = .ok (.invokestatic 68, 3) := by decide +kernel
theorem d_S_out_16 : decode b_S_out 16 = .ok (.aload_n 0, 1) := by decide +kernel
theorem d_S_out_17 : decode b_S_out 17 = .ok (.getfield 19, 3) := by decide +kernel
theorem d_S_out_20 : decode b_S_out 20 = .ok (.invokevirtual 84, 3) := by decide +kernel
theorem d_S_out_23 : decode b_S_out 23 = .ok (.iload_n 1, 1) := by decide +kernel
theorem d_S_out_24 : decode b_S_out 24 = .ok (.iload_n 2, 1) := by decide +kernel
theorem d_S_out_25 : decode b_S_out 25 = .ok (.iload_n 3, 1) := by decide +kernel
theorem d_S_out_26 : decode b_S_out 26 = .ok (.invokestatic 88, 3) := by decide +kernel
theorem d_S_out_29 : decode b_S_out 29 = .ok (.return_, 1) := by decide +kernel
abbrev b_S_person : ByteArray := prog_1_method_6_code
def y_S_person : MethodName := ⟨"StationRows", "person", "(II)I"⟩
theorem d_S_person_0 : decode b_S_person 0 = .ok (.iload_n 1, 1) := by decide +kernel
theorem d_S_person_1 : decode b_S_person 1 = .ok (.aload_n 0, 1) := by decide +kernel
theorem d_S_person_2 : decode b_S_person 2 = .ok (.getfield 10, 3) := by decide +kernel
theorem d_S_person_5 : decode b_S_person 5 = .ok (.invokevirtual 55, 3) := by decide +kernel
theorem d_S_person_8 : decode b_S_person 8 = .ok (.invokestatic 72, 3) := by decide +kernel
theorem d_S_person_11 : decode b_S_person 11 = .ok (.iload_n 2, 1) := by decide +kernel
theorem d_S_person_12 : decode b_S_person 12 = .ok (.iconst 0, 1) := by decide +kernel
theorem d_S_person_13 : decode b_S_person 13 = .ok (.bipush 120, 2) := by decide +kernel
theorem d_S_person_15 : decode b_S_person 15 = .ok (.invokestatic 51, 3) := by decide +kernel
theorem d_S_person_18 : decode b_S_person 18 = .ok (.aload_n 0, 1) := by decide +kernel
theorem d_S_person_19 : decode b_S_person 19 = .ok (.getfield 26, 3) := by decide +kernel
theorem d_S_person_22 : decode b_S_person 22 = .ok (.invokevirtual 92, 3) := by decide +kernel
theorem d_S_person_25 : decode b_S_person 25 = .ok (.bipush 60, 2) := by decide +kernel
theorem d_S_person_27 : decode b_S_person 27 = .ok (.if_icmp .ge 7, 3) := by decide +kernel
theorem d_S_person_30 : decode b_S_person 30 = .ok (.iconst 1, 1) := by decide +kernel
theorem d_S_person_31 : decode b_S_person 31 = .ok (.goto 4, 3) := by decide +kernel
theorem d_S_person_34 : decode b_S_person 34 = .ok (.iconst 0, 1) := by decide +kernel
theorem d_S_person_35 : decode b_S_person 35 = .ok (.invokestatic 59, 3) := by decide +kernel
theorem d_S_person_38 : decode b_S_person 38 = .ok (.aload_n 0, 1) := by decide +kernel
theorem d_S_person_39 : decode b_S_person 39 = .ok (.getfield 26, 3) := by decide +kernel
theorem d_S_person_42 : decode b_S_person 42 = .ok (.iload_n 1, 1) := by decide +kernel
theorem d_S_person_43 : decode b_S_person 43 = .ok (.iload_n 2, 1) := by decide +kernel
theorem d_S_person_44 : decode b_S_person 44 = .ok (.invokevirtual 93, 3) := by decide +kernel
theorem d_S_person_47 : decode b_S_person 47 = .ok (.ireturn, 1) := by decide +kernel
abbrev b_S_duty : ByteArray := prog_1_method_7_code
def y_S_duty : MethodName := ⟨"StationRows", "duty", "(III)V"⟩
theorem d_S_duty_0 : decode b_S_duty 0 = .ok (.iload_n 1, 1) := by decide +kernel
theorem d_S_duty_1 : decode b_S_duty 1 = .ok (.aload_n 0, 1) := by decide +kernel
theorem d_S_duty_2 : decode b_S_duty 2 = .ok (.getfield 26, 3) := by decide +kernel
theorem d_S_duty_5 : decode b_S_duty 5 = .ok (.invokevirtual 92, 3) := by decide +kernel
theorem d_S_duty_8 : decode b_S_duty 8 = .ok (.invokestatic 72, 3) := by decide +kernel
theorem d_S_duty_11 : decode b_S_duty 11 = .ok (.iload_n 2, 1) := by decide +kernel
theorem d_S_duty_12 : decode b_S_duty 12 = .ok (.iload_n 3, 1) := by decide +kernel
theorem d_S_duty_13 : decode b_S_duty 13 = .ok (.invokestatic 68, 3) := by decide +kernel
theorem d_S_duty_16 : decode b_S_duty 16 = .ok (.aload_n 0, 1) := by decide +kernel
theorem d_S_duty_17 : decode b_S_duty 17 = .ok (.getfield 26, 3) := by decide +kernel
theorem d_S_duty_20 : decode b_S_duty 20 = .ok (.invokevirtual 96, 3) := by decide +kernel
theorem d_S_duty_23 : decode b_S_duty 23 = .ok (.iload_n 1, 1) := by decide +kernel
theorem d_S_duty_24 : decode b_S_duty 24 = .ok (.iload_n 2, 1) := by decide +kernel
theorem d_S_duty_25 : decode b_S_duty 25 = .ok (.iload_n 3, 1) := by decide +kernel
theorem d_S_duty_26 : decode b_S_duty 26 = .ok (.invokestatic 88, 3) := by decide +kernel
theorem d_S_duty_29 : decode b_S_duty 29 = .ok (.return_, 1) := by decide +kernel
abbrev b_S_move : ByteArray := prog_1_method_8_code
def y_S_move : MethodName := ⟨"StationRows", "move", "(IIII)V"⟩
theorem d_S_move_0 : decode b_S_move 0 = .ok (.iload_n 1, 1) := by decide +kernel
theorem d_S_move_1 : decode b_S_move 1 = .ok (.aload_n 0, 1) := by decide +kernel
theorem d_S_move_2 : decode b_S_move 2 = .ok (.getfield 26, 3) := by decide +kernel
theorem d_S_move_5 : decode b_S_move 5 = .ok (.invokevirtual 92, 3) := by decide +kernel
theorem d_S_move_8 : decode b_S_move 8 = .ok (.invokestatic 72, 3) := by decide +kernel
theorem d_S_move_11 : decode b_S_move 11 = .ok (.iload_n 2, 1) := by decide +kernel
theorem d_S_move_12 : decode b_S_move 12 = .ok (.aload_n 0, 1) := by decide +kernel
theorem d_S_move_13 : decode b_S_move 13 = .ok (.getfield 10, 3) := by decide +kernel
theorem d_S_move_16 : decode b_S_move 16 = .ok (.invokevirtual 55, 3) := by decide +kernel
theorem d_S_move_19 : decode b_S_move 19 = .ok (.invokestatic 72, 3) := by decide +kernel
theorem d_S_move_22 : decode b_S_move 22 = .ok (.iload_n 3, 1) := by decide +kernel
theorem d_S_move_23 : decode b_S_move 23 = .ok (.iload 4, 2) := by decide +kernel
theorem d_S_move_25 : decode b_S_move 25 = .ok (.invokestatic 68, 3) := by decide +kernel
theorem d_S_move_28 : decode b_S_move 28 = .ok (.aload_n 0, 1) := by decide +kernel
theorem d_S_move_29 : decode b_S_move 29 = .ok (.getfield 26, 3) := by decide +kernel
theorem d_S_move_32 : decode b_S_move 32 = .ok (.iload_n 1, 1) := by decide +kernel
theorem d_S_move_33 : decode b_S_move 33 = .ok (.invokevirtual 99, 3) := by decide +kernel
theorem d_S_move_36 : decode b_S_move 36 = .ok (.iload_n 2, 1) := by decide +kernel
theorem d_S_move_37 : decode b_S_move 37 = .ok (.if_icmp .eq 7, 3) := by decide +kernel
theorem d_S_move_40 : decode b_S_move 40 = .ok (.iconst 1, 1) := by decide +kernel
theorem d_S_move_41 : decode b_S_move 41 = .ok (.goto 4, 3) := by decide +kernel
theorem d_S_move_44 : decode b_S_move 44 = .ok (.iconst 0, 1) := by decide +kernel
theorem d_S_move_45 : decode b_S_move 45 = .ok (.invokestatic 102, 3) := by decide +kernel
theorem d_S_move_48 : decode b_S_move 48 = .ok (.aload_n 0, 1) := by decide +kernel
theorem d_S_move_49 : decode b_S_move 49 = .ok (.getfield 26, 3) := by decide +kernel
theorem d_S_move_52 : decode b_S_move 52 = .ok (.invokevirtual 105, 3) := by decide +kernel
theorem d_S_move_55 : decode b_S_move 55 = .ok (.iload_n 1, 1) := by decide +kernel
theorem d_S_move_56 : decode b_S_move 56 = .ok (.iload_n 3, 1) := by decide +kernel
theorem d_S_move_57 : decode b_S_move 57 = .ok (.iload 4, 2) := by decide +kernel
theorem d_S_move_59 : decode b_S_move 59 = .ok (.invokestatic 88, 3) := by decide +kernel
theorem d_S_move_62 : decode b_S_move 62 = .ok (.aload_n 0, 1) := by decide +kernel
theorem d_S_move_63 : decode b_S_move 63 = .ok (.getfield 26, 3) := by decide +kernel
theorem d_S_move_66 : decode b_S_move 66 = .ok (.iload_n 1, 1) := by decide +kernel
theorem d_S_move_67 : decode b_S_move 67 = .ok (.iload_n 2, 1) := by decide +kernel
theorem d_S_move_68 : decode b_S_move 68 = .ok (.invokevirtual 108, 3) := by decide +kernel
theorem d_S_move_71 : decode b_S_move 71 = .ok (.return_, 1) := by decide +kernel
abbrev b_S_limit : ByteArray := prog_1_method_9_code
def y_S_limit : MethodName := ⟨"StationRows", "limit", "(I)I"⟩
theorem d_S_limit_0 : decode b_S_limit 0 = .ok (.iload_n 1, 1) := by decide +kernel
theorem d_S_limit_1 : decode b_S_limit 1 = .ok (.iconst 0, 1) := by decide +kernel
theorem d_S_limit_2 : decode b_S_limit 2 = .ok (.bipush 120, 2) := by decide +kernel
theorem d_S_limit_4 : decode b_S_limit 4 = .ok (.invokestatic 51, 3) := by decide +kernel
theorem d_S_limit_7 : decode b_S_limit 7 = .ok (.aload_n 0, 1) := by decide +kernel
theorem d_S_limit_8 : decode b_S_limit 8 = .ok (.getfield 26, 3) := by decide +kernel
theorem d_S_limit_11 : decode b_S_limit 11 = .ok (.iload_n 1, 1) := by decide +kernel
theorem d_S_limit_12 : decode b_S_limit 12 = .ok (.invokevirtual 111, 3) := by decide +kernel
theorem d_S_limit_15 : decode b_S_limit 15 = .ok (.ireturn, 1) := by decide +kernel
abbrev b_S_on : ByteArray := prog_1_method_10_code
def y_S_on : MethodName := ⟨"StationRows", "on", "(II)I"⟩
theorem d_S_on_0 : decode b_S_on 0 = .ok (.iload_n 1, 1) := by decide +kernel
theorem d_S_on_1 : decode b_S_on 1 = .ok (.aload_n 0, 1) := by decide +kernel
theorem d_S_on_2 : decode b_S_on 2 = .ok (.getfield 10, 3) := by decide +kernel
theorem d_S_on_5 : decode b_S_on 5 = .ok (.invokevirtual 55, 3) := by decide +kernel
theorem d_S_on_8 : decode b_S_on 8 = .ok (.invokestatic 72, 3) := by decide +kernel
theorem d_S_on_11 : decode b_S_on 11 = .ok (.iload_n 2, 1) := by decide +kernel
theorem d_S_on_12 : decode b_S_on 12 = .ok (.invokestatic 114, 3) := by decide +kernel
theorem d_S_on_15 : decode b_S_on 15 = .ok (.aload_n 0, 1) := by decide +kernel
theorem d_S_on_16 : decode b_S_on 16 = .ok (.iload_n 1, 1) := by decide +kernel
theorem d_S_on_17 : decode b_S_on 17 = .ok (.iload_n 2, 1) := by decide +kernel
theorem d_S_on_18 : decode b_S_on 18 = .ok (.invokevirtual 118, 3) := by decide +kernel
theorem d_S_on_21 : decode b_S_on 21 = .ok (.ireturn, 1) := by decide +kernel
abbrev b_S_at : ByteArray := prog_1_method_11_code
def y_S_at : MethodName := ⟨"StationRows", "at", "(III)I"⟩
theorem d_S_at_0 : decode b_S_at 0 = .ok (.iload_n 1, 1) := by decide +kernel
theorem d_S_at_1 : decode b_S_at 1 = .ok (.aload_n 0, 1) := by decide +kernel
theorem d_S_at_2 : decode b_S_at 2 = .ok (.getfield 10, 3) := by decide +kernel
theorem d_S_at_5 : decode b_S_at 5 = .ok (.invokevirtual 55, 3) := by decide +kernel
theorem d_S_at_8 : decode b_S_at 8 = .ok (.invokestatic 72, 3) := by decide +kernel
theorem d_S_at_11 : decode b_S_at 11 = .ok (.iload_n 2, 1) := by decide +kernel
theorem d_S_at_12 : decode b_S_at 12 = .ok (.invokestatic 114, 3) := by decide +kernel
theorem d_S_at_15 : decode b_S_at 15 = .ok (.iload_n 3, 1) := by decide +kernel
theorem d_S_at_16 : decode b_S_at 16 = .ok (.invokestatic 121, 3) := by decide +kernel
theorem d_S_at_19 : decode b_S_at 19 = .ok (.iload_n 3, 1) := by decide +kernel
theorem d_S_at_20 : decode b_S_at 20 = .ok (.aload_n 0, 1) := by decide +kernel
theorem d_S_at_21 : decode b_S_at 21 = .ok (.iload_n 1, 1) := by decide +kernel
theorem d_S_at_22 : decode b_S_at 22 = .ok (.iload_n 2, 1) := by decide +kernel
theorem d_S_at_23 : decode b_S_at 23 = .ok (.invokevirtual 118, 3) := by decide +kernel
theorem d_S_at_26 : decode b_S_at 26 = .ok (.if_icmp .ge 14, 3) := by decide +kernel
theorem d_S_at_29 : decode b_S_at 29 = .ok (.aload_n 0, 1) := by decide +kernel
theorem d_S_at_30 : decode b_S_at 30 = .ok (.getfield 26, 3) := by decide +kernel
theorem d_S_at_33 : decode b_S_at 33 = .ok (.iload_n 3, 1) := by decide +kernel
theorem d_S_at_34 : decode b_S_at 34 = .ok (.invokevirtual 124, 3) := by decide +kernel
theorem d_S_at_37 : decode b_S_at 37 = .ok (.goto 4, 3) := by decide +kernel
theorem d_S_at_40 : decode b_S_at 40 = .ok (.iconst (-1), 1) := by decide +kernel
theorem d_S_at_41 : decode b_S_at 41 = .ok (.ireturn, 1) := by decide +kernel
abbrev b_S_vehicleAt : ByteArray := prog_1_method_12_code
def y_S_vehicleAt : MethodName := ⟨"StationRows", "vehicleAt", "(III)I"⟩
theorem d_S_vehicleAt_0 : decode b_S_vehicleAt 0 = .ok (.iload_n 1, 1) := by decide +kernel
theorem d_S_vehicleAt_1 : decode b_S_vehicleAt 1 = .ok (.aload_n 0, 1) := by decide +kernel
theorem d_S_vehicleAt_2 : decode b_S_vehicleAt 2 = .ok (.getfield 19, 3) := by decide +kernel
theorem d_S_vehicleAt_5 : decode b_S_vehicleAt 5 = .ok (.invokevirtual 75, 3) := by decide +kernel
theorem d_S_vehicleAt_8 : decode b_S_vehicleAt 8 = .ok (.invokestatic 72, 3) := by decide +kernel
theorem d_S_vehicleAt_11 : decode b_S_vehicleAt 11 = .ok (.iload_n 3, 1) := by decide +kernel
theorem d_S_vehicleAt_12 : decode b_S_vehicleAt 12 = .ok (.bipush 7, 2) := by decide +kernel
theorem d_S_vehicleAt_14 : decode b_S_vehicleAt 14 = .ok (.invokestatic 72, 3) := by decide +kernel
theorem d_S_vehicleAt_17 : decode b_S_vehicleAt 17 = .ok (.iload_n 2, 1) := by decide +kernel
theorem d_S_vehicleAt_18 : decode b_S_vehicleAt 18 = .ok (.invokestatic 114, 3) := by decide +kernel
theorem d_S_vehicleAt_21 : decode b_S_vehicleAt 21 = .ok (.aload_n 0, 1) := by decide +kernel
theorem d_S_vehicleAt_22 : decode b_S_vehicleAt 22 = .ok (.getfield 19, 3) := by decide +kernel
theorem d_S_vehicleAt_25 : decode b_S_vehicleAt 25 = .ok (.aload_n 0, 1) := by decide +kernel
theorem d_S_vehicleAt_26 : decode b_S_vehicleAt 26 = .ok (.getfield 10, 3) := by decide +kernel
theorem d_S_vehicleAt_29 : decode b_S_vehicleAt 29 = .ok (.iload_n 2, 1) := by decide +kernel
theorem d_S_vehicleAt_30 : decode b_S_vehicleAt 30 = .ok (.invokevirtual 127, 3) := by decide +kernel
theorem d_S_vehicleAt_33 : decode b_S_vehicleAt 33 = .ok (.iload_n 3, 1) := by decide +kernel
theorem d_S_vehicleAt_34 : decode b_S_vehicleAt 34 = .ok (.tableswitch 62 4 6 #[26, 35, 44], 26) := by decide +kernel
theorem d_S_vehicleAt_60 : decode b_S_vehicleAt 60 = .ok (.aload_n 0, 1) := by decide +kernel
theorem d_S_vehicleAt_61 : decode b_S_vehicleAt 61 = .ok (.getfield 19, 3) := by decide +kernel
theorem d_S_vehicleAt_64 : decode b_S_vehicleAt 64 = .ok (.iload_n 1, 1) := by decide +kernel
theorem d_S_vehicleAt_65 : decode b_S_vehicleAt 65 = .ok (.invokevirtual 131, 3) := by decide +kernel
theorem d_S_vehicleAt_68 : decode b_S_vehicleAt 68 = .ok (.ireturn, 1) := by decide +kernel
theorem d_S_vehicleAt_69 : decode b_S_vehicleAt 69 = .ok (.aload_n 0, 1) := by decide +kernel
theorem d_S_vehicleAt_70 : decode b_S_vehicleAt 70 = .ok (.getfield 19, 3) := by decide +kernel
theorem d_S_vehicleAt_73 : decode b_S_vehicleAt 73 = .ok (.iload_n 1, 1) := by decide +kernel
theorem d_S_vehicleAt_74 : decode b_S_vehicleAt 74 = .ok (.invokevirtual 134, 3) := by decide +kernel
theorem d_S_vehicleAt_77 : decode b_S_vehicleAt 77 = .ok (.ireturn, 1) := by decide +kernel
theorem d_S_vehicleAt_78 : decode b_S_vehicleAt 78 = .ok (.aload_n 0, 1) := by decide +kernel
theorem d_S_vehicleAt_79 : decode b_S_vehicleAt 79 = .ok (.getfield 19, 3) := by decide +kernel
theorem d_S_vehicleAt_82 : decode b_S_vehicleAt 82 = .ok (.iload_n 1, 1) := by decide +kernel
theorem d_S_vehicleAt_83 : decode b_S_vehicleAt 83 = .ok (.iload_n 2, 1) := by decide +kernel
theorem d_S_vehicleAt_84 : decode b_S_vehicleAt 84 = .ok (.invokevirtual 137, 3) := by decide +kernel
theorem d_S_vehicleAt_87 : decode b_S_vehicleAt 87 = .ok (.ifCond .eq 7, 3) := by decide +kernel
theorem d_S_vehicleAt_90 : decode b_S_vehicleAt 90 = .ok (.iconst 1, 1) := by decide +kernel
theorem d_S_vehicleAt_91 : decode b_S_vehicleAt 91 = .ok (.goto 4, 3) := by decide +kernel
theorem d_S_vehicleAt_94 : decode b_S_vehicleAt 94 = .ok (.iconst 0, 1) := by decide +kernel
theorem d_S_vehicleAt_95 : decode b_S_vehicleAt 95 = .ok (.ireturn, 1) := by decide +kernel
theorem d_S_vehicleAt_96 : decode b_S_vehicleAt 96 = .ok (.aload_n 0, 1) := by decide +kernel
theorem d_S_vehicleAt_97 : decode b_S_vehicleAt 97 = .ok (.iload_n 1, 1) := by decide +kernel
theorem d_S_vehicleAt_98 : decode b_S_vehicleAt 98 = .ok (.iload_n 2, 1) := by decide +kernel
theorem d_S_vehicleAt_99 : decode b_S_vehicleAt 99 = .ok (.iload_n 3, 1) := by decide +kernel
theorem d_S_vehicleAt_100 : decode b_S_vehicleAt 100 = .ok (.invokevirtual 141, 3) := by decide +kernel
theorem d_S_vehicleAt_103 : decode b_S_vehicleAt 103 = .ok (.ireturn, 1) := by decide +kernel
abbrev b_S_need : ByteArray := prog_1_method_13_code
def y_S_need : MethodName := ⟨"StationRows", "need", "(III)V"⟩
theorem d_S_need_0 : decode b_S_need 0 = .ok (.iload_n 1, 1) := by decide +kernel
theorem d_S_need_1 : decode b_S_need 1 = .ok (.aload_n 0, 1) := by decide +kernel
theorem d_S_need_2 : decode b_S_need 2 = .ok (.getfield 10, 3) := by decide +kernel
theorem d_S_need_5 : decode b_S_need 5 = .ok (.invokevirtual 55, 3) := by decide +kernel
theorem d_S_need_8 : decode b_S_need 8 = .ok (.invokestatic 72, 3) := by decide +kernel
theorem d_S_need_11 : decode b_S_need 11 = .ok (.iload_n 2, 1) := by decide +kernel
theorem d_S_need_12 : decode b_S_need 12 = .ok (.iconst 0, 1) := by decide +kernel
theorem d_S_need_13 : decode b_S_need 13 = .ok (.bipush 23, 2) := by decide +kernel
theorem d_S_need_15 : decode b_S_need 15 = .ok (.invokestatic 51, 3) := by decide +kernel
theorem d_S_need_18 : decode b_S_need 18 = .ok (.iload_n 3, 1) := by decide +kernel
theorem d_S_need_19 : decode b_S_need 19 = .ok (.iconst 0, 1) := by decide +kernel
theorem d_S_need_20 : decode b_S_need 20 = .ok (.bipush 60, 2) := by decide +kernel
theorem d_S_need_22 : decode b_S_need 22 = .ok (.invokestatic 51, 3) := by decide +kernel
theorem d_S_need_25 : decode b_S_need 25 = .ok (.aload_n 0, 1) := by decide +kernel
theorem d_S_need_26 : decode b_S_need 26 = .ok (.getfield 33, 3) := by decide +kernel
theorem d_S_need_29 : decode b_S_need 29 = .ok (.iload_n 1, 1) := by decide +kernel
theorem d_S_need_30 : decode b_S_need 30 = .ok (.iload_n 2, 1) := by decide +kernel
theorem d_S_need_31 : decode b_S_need 31 = .ok (.iload_n 3, 1) := by decide +kernel
theorem d_S_need_32 : decode b_S_need 32 = .ok (.invokevirtual 144, 3) := by decide +kernel
theorem d_S_need_35 : decode b_S_need 35 = .ok (.return_, 1) := by decide +kernel
abbrev b_S_lacks : ByteArray := prog_1_method_14_code
def y_S_lacks : MethodName := ⟨"StationRows", "lacks", "(II)I"⟩
theorem d_S_lacks_0 : decode b_S_lacks 0 = .ok (.iload_n 1, 1) := by decide +kernel
theorem d_S_lacks_1 : decode b_S_lacks 1 = .ok (.aload_n 0, 1) := by decide +kernel
theorem d_S_lacks_2 : decode b_S_lacks 2 = .ok (.getfield 10, 3) := by decide +kernel
theorem d_S_lacks_5 : decode b_S_lacks 5 = .ok (.invokevirtual 55, 3) := by decide +kernel
theorem d_S_lacks_8 : decode b_S_lacks 8 = .ok (.invokestatic 72, 3) := by decide +kernel
theorem d_S_lacks_11 : decode b_S_lacks 11 = .ok (.iload_n 2, 1) := by decide +kernel
theorem d_S_lacks_12 : decode b_S_lacks 12 = .ok (.invokestatic 114, 3) := by decide +kernel
theorem d_S_lacks_15 : decode b_S_lacks 15 = .ok (.aload_n 0, 1) := by decide +kernel
theorem d_S_lacks_16 : decode b_S_lacks 16 = .ok (.getfield 10, 3) := by decide +kernel
theorem d_S_lacks_19 : decode b_S_lacks 19 = .ok (.iload_n 1, 1) := by decide +kernel
theorem d_S_lacks_20 : decode b_S_lacks 20 = .ok (.iload_n 2, 1) := by decide +kernel
theorem d_S_lacks_21 : decode b_S_lacks 21 = .ok (.invokevirtual 147, 3) := by decide +kernel
theorem d_S_lacks_24 : decode b_S_lacks 24 = .ok (.ifCond .ne 5, 3) := by decide +kernel
theorem d_S_lacks_27 : decode b_S_lacks 27 = .ok (.iconst 0, 1) := by decide +kernel
theorem d_S_lacks_28 : decode b_S_lacks 28 = .ok (.ireturn, 1) := by decide +kernel
theorem d_S_lacks_29 : decode b_S_lacks 29 = .ok (.iconst 0, 1) := by decide +kernel
theorem d_S_lacks_30 : decode b_S_lacks 30 = .ok (.aload_n 0, 1) := by decide +kernel
theorem d_S_lacks_31 : decode b_S_lacks 31 = .ok (.getfield 33, 3) := by decide +kernel
theorem d_S_lacks_34 : decode b_S_lacks 34 = .ok (.iload_n 1, 1) := by decide +kernel
theorem d_S_lacks_35 : decode b_S_lacks 35 = .ok (.iload_n 2, 1) := by decide +kernel
theorem d_S_lacks_36 : decode b_S_lacks 36 = .ok (.invokevirtual 150, 3) := by decide +kernel
theorem d_S_lacks_39 : decode b_S_lacks 39 = .ok (.aload_n 0, 1) := by decide +kernel
theorem d_S_lacks_40 : decode b_S_lacks 40 = .ok (.iload_n 1, 1) := by decide +kernel
theorem d_S_lacks_41 : decode b_S_lacks 41 = .ok (.iload_n 2, 1) := by decide +kernel
theorem d_S_lacks_42 : decode b_S_lacks 42 = .ok (.invokevirtual 118, 3) := by decide +kernel
theorem d_S_lacks_45 : decode b_S_lacks 45 = .ok (.isub, 1) := by decide +kernel
theorem d_S_lacks_46 : decode b_S_lacks 46 = .ok (.invokestatic 153, 3) := by decide +kernel
theorem d_S_lacks_49 : decode b_S_lacks 49 = .ok (.ireturn, 1) := by decide +kernel
abbrev b_S_period : ByteArray := prog_1_method_15_code
def y_S_period : MethodName := ⟨"StationRows", "period", "(III)V"⟩
theorem d_S_period_0 : decode b_S_period 0 = .ok (.iload_n 1, 1) := by decide +kernel
theorem d_S_period_1 : decode b_S_period 1 = .ok (.aload_n 0, 1) := by decide +kernel
theorem d_S_period_2 : decode b_S_period 2 = .ok (.getfield 10, 3) := by decide +kernel
theorem d_S_period_5 : decode b_S_period 5 = .ok (.invokevirtual 55, 3) := by decide +kernel
theorem d_S_period_8 : decode b_S_period 8 = .ok (.invokestatic 72, 3) := by decide +kernel
theorem d_S_period_11 : decode b_S_period 11 = .ok (.iload_n 2, 1) := by decide +kernel
theorem d_S_period_12 : decode b_S_period 12 = .ok (.iconst 5, 1) := by decide +kernel
theorem d_S_period_13 : decode b_S_period 13 = .ok (.invokestatic 72, 3) := by decide +kernel
theorem d_S_period_16 : decode b_S_period 16 = .ok (.iload_n 3, 1) := by decide +kernel
theorem d_S_period_17 : decode b_S_period 17 = .ok (.iconst 0, 1) := by decide +kernel
theorem d_S_period_18 : decode b_S_period 18 = .ok (.sipush 9999, 3) := by decide +kernel
theorem d_S_period_21 : decode b_S_period 21 = .ok (.invokestatic 51, 3) := by decide +kernel
theorem d_S_period_24 : decode b_S_period 24 = .ok (.aload_n 0, 1) := by decide +kernel
theorem d_S_period_25 : decode b_S_period 25 = .ok (.getfield 40, 3) := by decide +kernel
theorem d_S_period_28 : decode b_S_period 28 = .ok (.iload_n 1, 1) := by decide +kernel
theorem d_S_period_29 : decode b_S_period 29 = .ok (.iload_n 2, 1) := by decide +kernel
theorem d_S_period_30 : decode b_S_period 30 = .ok (.iload_n 3, 1) := by decide +kernel
theorem d_S_period_31 : decode b_S_period 31 = .ok (.invokevirtual 158, 3) := by decide +kernel
theorem d_S_period_34 : decode b_S_period 34 = .ok (.return_, 1) := by decide +kernel
abbrev b_S_check : ByteArray := prog_1_method_16_code
def y_S_check : MethodName := ⟨"StationRows", "check", "(III)V"⟩
theorem d_S_check_0 : decode b_S_check 0 = .ok (.iload_n 1, 1) := by decide +kernel
theorem d_S_check_1 : decode b_S_check 1 = .ok (.aload_n 0, 1) := by decide +kernel
theorem d_S_check_2 : decode b_S_check 2 = .ok (.getfield 10, 3) := by decide +kernel
theorem d_S_check_5 : decode b_S_check 5 = .ok (.invokevirtual 55, 3) := by decide +kernel
theorem d_S_check_8 : decode b_S_check 8 = .ok (.invokestatic 72, 3) := by decide +kernel
theorem d_S_check_11 : decode b_S_check 11 = .ok (.iload_n 2, 1) := by decide +kernel
theorem d_S_check_12 : decode b_S_check 12 = .ok (.iconst 5, 1) := by decide +kernel
theorem d_S_check_13 : decode b_S_check 13 = .ok (.invokestatic 72, 3) := by decide +kernel
theorem d_S_check_16 : decode b_S_check 16 = .ok (.iload_n 3, 1) := by decide +kernel
theorem d_S_check_17 : decode b_S_check 17 = .ok (.invokestatic 114, 3) := by decide +kernel
theorem d_S_check_20 : decode b_S_check 20 = .ok (.aload_n 0, 1) := by decide +kernel
theorem d_S_check_21 : decode b_S_check 21 = .ok (.getfield 40, 3) := by decide +kernel
theorem d_S_check_24 : decode b_S_check 24 = .ok (.invokevirtual 161, 3) := by decide +kernel
theorem d_S_check_27 : decode b_S_check 27 = .ok (.sipush 200, 3) := by decide +kernel
theorem d_S_check_30 : decode b_S_check 30 = .ok (.if_icmp .ge 7, 3) := by decide +kernel
theorem d_S_check_33 : decode b_S_check 33 = .ok (.iconst 1, 1) := by decide +kernel
theorem d_S_check_34 : decode b_S_check 34 = .ok (.goto 4, 3) := by decide +kernel
theorem d_S_check_37 : decode b_S_check 37 = .ok (.iconst 0, 1) := by decide +kernel
theorem d_S_check_38 : decode b_S_check 38 = .ok (.invokestatic 59, 3) := by decide +kernel
theorem d_S_check_41 : decode b_S_check 41 = .ok (.aload_n 0, 1) := by decide +kernel
theorem d_S_check_42 : decode b_S_check 42 = .ok (.getfield 40, 3) := by decide +kernel
theorem d_S_check_45 : decode b_S_check 45 = .ok (.iload_n 1, 1) := by decide +kernel
theorem d_S_check_46 : decode b_S_check 46 = .ok (.iload_n 2, 1) := by decide +kernel
theorem d_S_check_47 : decode b_S_check 47 = .ok (.iload_n 3, 1) := by decide +kernel
theorem d_S_check_48 : decode b_S_check 48 = .ok (.invokevirtual 164, 3) := by decide +kernel
theorem d_S_check_51 : decode b_S_check 51 = .ok (.return_, 1) := by decide +kernel
abbrev b_S_missing : ByteArray := prog_1_method_17_code
def y_S_missing : MethodName := ⟨"StationRows", "missing", "(II)I"⟩
theorem d_S_missing_0 : decode b_S_missing 0 = .ok (.iload_n 1, 1) := by decide +kernel
theorem d_S_missing_1 : decode b_S_missing 1 = .ok (.invokestatic 114, 3) := by decide +kernel
theorem d_S_missing_4 : decode b_S_missing 4 = .ok (.iload_n 2, 1) := by decide +kernel
theorem d_S_missing_5 : decode b_S_missing 5 = .ok (.invokestatic 121, 3) := by decide +kernel
theorem d_S_missing_8 : decode b_S_missing 8 = .ok (.aload_n 0, 1) := by decide +kernel
theorem d_S_missing_9 : decode b_S_missing 9 = .ok (.getfield 40, 3) := by decide +kernel
theorem d_S_missing_12 : decode b_S_missing 12 = .ok (.iload_n 1, 1) := by decide +kernel
theorem d_S_missing_13 : decode b_S_missing 13 = .ok (.invokevirtual 167, 3) := by decide +kernel
theorem d_S_missing_16 : decode b_S_missing 16 = .ok (.iconst 0, 1) := by decide +kernel
theorem d_S_missing_17 : decode b_S_missing 17 = .ok (.istore_n 3, 1) := by decide +kernel
theorem d_S_missing_18 : decode b_S_missing 18 = .ok (.iconst 0, 1) := by decide +kernel
theorem d_S_missing_19 : decode b_S_missing 19 = .ok (.istore 4, 2) := by decide +kernel
theorem d_S_missing_21 : decode b_S_missing 21 = .ok (.iload 4, 2) := by decide +kernel
theorem d_S_missing_23 : decode b_S_missing 23 = .ok (.aload_n 0, 1) := by decide +kernel
theorem d_S_missing_24 : decode b_S_missing 24 = .ok (.getfield 10, 3) := by decide +kernel
theorem d_S_missing_27 : decode b_S_missing 27 = .ok (.invokevirtual 55, 3) := by decide +kernel
theorem d_S_missing_30 : decode b_S_missing 30 = .ok (.if_icmp .ge 75, 3) := by decide +kernel
theorem d_S_missing_33 : decode b_S_missing 33 = .ok (.aload_n 0, 1) := by decide +kernel
theorem d_S_missing_34 : decode b_S_missing 34 = .ok (.getfield 10, 3) := by decide +kernel
theorem d_S_missing_37 : decode b_S_missing 37 = .ok (.iload 4, 2) := by decide +kernel
theorem d_S_missing_39 : decode b_S_missing 39 = .ok (.iload_n 1, 1) := by decide +kernel
theorem d_S_missing_40 : decode b_S_missing 40 = .ok (.invokevirtual 147, 3) := by decide +kernel
theorem d_S_missing_43 : decode b_S_missing 43 = .ok (.ifCond .ne 6, 3) := by decide +kernel
theorem d_S_missing_46 : decode b_S_missing 46 = .ok (.goto 53, 3) := by decide +kernel
theorem d_S_missing_49 : decode b_S_missing 49 = .ok (.iconst 0, 1) := by decide +kernel
theorem d_S_missing_50 : decode b_S_missing 50 = .ok (.istore 5, 2) := by decide +kernel
theorem d_S_missing_52 : decode b_S_missing 52 = .ok (.iload 5, 2) := by decide +kernel
theorem d_S_missing_54 : decode b_S_missing 54 = .ok (.iconst 5, 1) := by decide +kernel
theorem d_S_missing_55 : decode b_S_missing 55 = .ok (.if_icmp .ge 44, 3) := by decide +kernel
theorem d_S_missing_58 : decode b_S_missing 58 = .ok (.aload_n 0, 1) := by decide +kernel
theorem d_S_missing_59 : decode b_S_missing 59 = .ok (.getfield 40, 3) := by decide +kernel
theorem d_S_missing_62 : decode b_S_missing 62 = .ok (.iload 4, 2) := by decide +kernel
theorem d_S_missing_64 : decode b_S_missing 64 = .ok (.iload 5, 2) := by decide +kernel
theorem d_S_missing_66 : decode b_S_missing 66 = .ok (.iload_n 1, 1) := by decide +kernel
theorem d_S_missing_67 : decode b_S_missing 67 = .ok (.invokevirtual 170, 3) := by decide +kernel
theorem d_S_missing_70 : decode b_S_missing 70 = .ok (.ifCond .ne 6, 3) := by decide +kernel
theorem d_S_missing_73 : decode b_S_missing 73 = .ok (.goto 20, 3) := by decide +kernel
theorem d_S_missing_76 : decode b_S_missing 76 = .ok (.iload_n 3, 1) := by decide +kernel
theorem d_S_missing_77 : decode b_S_missing 77 = .ok (.iload_n 2, 1) := by decide +kernel
theorem d_S_missing_78 : decode b_S_missing 78 = .ok (.if_icmp .ne 12, 3) := by decide +kernel
theorem d_S_missing_81 : decode b_S_missing 81 = .ok (.bipush 10, 2) := by decide +kernel
theorem d_S_missing_83 : decode b_S_missing 83 = .ok (.iload 4, 2) := by decide +kernel
theorem d_S_missing_85 : decode b_S_missing 85 = .ok (.imul, 1) := by decide +kernel
theorem d_S_missing_86 : decode b_S_missing 86 = .ok (.iload 5, 2) := by decide +kernel
theorem d_S_missing_88 : decode b_S_missing 88 = .ok (.iadd, 1) := by decide +kernel
theorem d_S_missing_89 : decode b_S_missing 89 = .ok (.ireturn, 1) := by decide +kernel
theorem d_S_missing_90 : decode b_S_missing 90 = .ok (.iinc 3 1, 3) := by decide +kernel
theorem d_S_missing_93 : decode b_S_missing 93 = .ok (.iinc 5 1, 3) := by decide +kernel
theorem d_S_missing_96 : decode b_S_missing 96 = .ok (.goto (-44), 3) := by decide +kernel
theorem d_S_missing_99 : decode b_S_missing 99 = .ok (.iinc 4 1, 3) := by decide +kernel
theorem d_S_missing_102 : decode b_S_missing 102 = .ok (.goto (-81), 3) := by decide +kernel
theorem d_S_missing_105 : decode b_S_missing 105 = .ok (.iconst (-1), 1) := by decide +kernel
theorem d_S_missing_106 : decode b_S_missing 106 = .ok (.ireturn, 1) := by decide +kernel
abbrev b_S_key : ByteArray := prog_1_method_18_code
def y_S_key : MethodName := ⟨"StationRows", "key", "(IIZ)V"⟩
theorem d_S_key_0 : decode b_S_key 0 = .ok (.iload_n 1, 1) := by decide +kernel
theorem d_S_key_1 : decode b_S_key 1 = .ok (.aload_n 0, 1) := by decide +kernel
theorem d_S_key_2 : decode b_S_key 2 = .ok (.getfield 10, 3) := by decide +kernel
theorem d_S_key_5 : decode b_S_key 5 = .ok (.invokevirtual 55, 3) := by decide +kernel
theorem d_S_key_8 : decode b_S_key 8 = .ok (.invokestatic 72, 3) := by decide +kernel
theorem d_S_key_11 : decode b_S_key 11 = .ok (.iload_n 2, 1) := by decide +kernel
theorem d_S_key_12 : decode b_S_key 12 = .ok (.iconst 0, 1) := by decide +kernel
theorem d_S_key_13 : decode b_S_key 13 = .ok (.bipush 99, 2) := by decide +kernel
theorem d_S_key_15 : decode b_S_key 15 = .ok (.invokestatic 51, 3) := by decide +kernel
theorem d_S_key_18 : decode b_S_key 18 = .ok (.aload_n 0, 1) := by decide +kernel
theorem d_S_key_19 : decode b_S_key 19 = .ok (.getfield 47, 3) := by decide +kernel
theorem d_S_key_22 : decode b_S_key 22 = .ok (.iload_n 2, 1) := by decide +kernel
theorem d_S_key_23 : decode b_S_key 23 = .ok (.iload_n 1, 1) := by decide +kernel
theorem d_S_key_24 : decode b_S_key 24 = .ok (.invokevirtual 174, 3) := by decide +kernel
theorem d_S_key_27 : decode b_S_key 27 = .ok (.iload_n 3, 1) := by decide +kernel
theorem d_S_key_28 : decode b_S_key 28 = .ok (.if_icmp .eq 7, 3) := by decide +kernel
theorem d_S_key_31 : decode b_S_key 31 = .ok (.iconst 1, 1) := by decide +kernel
theorem d_S_key_32 : decode b_S_key 32 = .ok (.goto 4, 3) := by decide +kernel
theorem d_S_key_35 : decode b_S_key 35 = .ok (.iconst 0, 1) := by decide +kernel
theorem d_S_key_36 : decode b_S_key 36 = .ok (.invokestatic 102, 3) := by decide +kernel
theorem d_S_key_39 : decode b_S_key 39 = .ok (.aload_n 0, 1) := by decide +kernel
theorem d_S_key_40 : decode b_S_key 40 = .ok (.getfield 47, 3) := by decide +kernel
theorem d_S_key_43 : decode b_S_key 43 = .ok (.iload_n 2, 1) := by decide +kernel
theorem d_S_key_44 : decode b_S_key 44 = .ok (.iload_n 1, 1) := by decide +kernel
theorem d_S_key_45 : decode b_S_key 45 = .ok (.invokevirtual 177, 3) := by decide +kernel
theorem d_S_key_48 : decode b_S_key 48 = .ok (.return_, 1) := by decide +kernel
abbrev b_S_holder : ByteArray := prog_1_method_19_code
def y_S_holder : MethodName := ⟨"StationRows", "holder", "(II)I"⟩
theorem d_S_holder_0 : decode b_S_holder 0 = .ok (.iload_n 1, 1) := by decide +kernel
theorem d_S_holder_1 : decode b_S_holder 1 = .ok (.iconst 0, 1) := by decide +kernel
theorem d_S_holder_2 : decode b_S_holder 2 = .ok (.bipush 99, 2) := by decide +kernel
theorem d_S_holder_4 : decode b_S_holder 4 = .ok (.invokestatic 51, 3) := by decide +kernel
theorem d_S_holder_7 : decode b_S_holder 7 = .ok (.iload_n 2, 1) := by decide +kernel
theorem d_S_holder_8 : decode b_S_holder 8 = .ok (.invokestatic 121, 3) := by decide +kernel
theorem d_S_holder_11 : decode b_S_holder 11 = .ok (.aload_n 0, 1) := by decide +kernel
theorem d_S_holder_12 : decode b_S_holder 12 = .ok (.getfield 47, 3) := by decide +kernel
theorem d_S_holder_15 : decode b_S_holder 15 = .ok (.iload_n 1, 1) := by decide +kernel
theorem d_S_holder_16 : decode b_S_holder 16 = .ok (.iload_n 2, 1) := by decide +kernel
theorem d_S_holder_17 : decode b_S_holder 17 = .ok (.invokevirtual 180, 3) := by decide +kernel
theorem d_S_holder_20 : decode b_S_holder 20 = .ok (.ireturn, 1) := by decide +kernel
abbrev b_S_twice : ByteArray := prog_1_method_20_code
def y_S_twice : MethodName := ⟨"StationRows", "twice", "()I"⟩
theorem d_S_twice_0 : decode b_S_twice 0 = .ok (.aload_n 0, 1) := by decide +kernel
theorem d_S_twice_1 : decode b_S_twice 1 = .ok (.getfield 47, 3) := by decide +kernel
theorem d_S_twice_4 : decode b_S_twice 4 = .ok (.invokevirtual 183, 3) := by decide +kernel
theorem d_S_twice_7 : decode b_S_twice 7 = .ok (.ireturn, 1) := by decide +kernel
abbrev b_S_requireKnown : ByteArray := prog_1_method_21_code
def y_S_requireKnown : MethodName := ⟨"StationRows", "requireKnown", "(II)V"⟩
theorem d_S_requireKnown_0 : decode b_S_requireKnown 0 = .ok (.iload_n 0, 1) := by decide +kernel
theorem d_S_requireKnown_1 : decode b_S_requireKnown 1 = .ok (.ifCond .lt 8, 3) := by decide +kernel
theorem d_S_requireKnown_4 : decode b_S_requireKnown 4 = .ok (.iload_n 0, 1) := by decide +kernel
theorem d_S_requireKnown_5 : decode b_S_requireKnown 5 = .ok (.iload_n 1, 1) := by decide +kernel
theorem d_S_requireKnown_6 : decode b_S_requireKnown 6 = .ok (.if_icmp .lt 13, 3) := by decide +kernel
theorem d_S_requireKnown_9 : decode b_S_requireKnown 9 = .ok (.new 186, 3) := by decide +kernel
theorem d_S_requireKnown_12 : decode b_S_requireKnown 12 = .ok (.dup, 1) := by decide +kernel
theorem d_S_requireKnown_13 : decode b_S_requireKnown 13 = .ok (.ldc 188, 2) := by decide +kernel
theorem d_S_requireKnown_15 : decode b_S_requireKnown 15 = .ok (.invokespecial 190, 3) := by decide +kernel
theorem d_S_requireKnown_18 : decode b_S_requireKnown 18 = .ok (.athrow, 1) := by decide +kernel
theorem d_S_requireKnown_19 : decode b_S_requireKnown 19 = .ok (.return_, 1) := by decide +kernel
abbrev b_S_requireRange : ByteArray := prog_1_method_22_code
def y_S_requireRange : MethodName := ⟨"StationRows", "requireRange", "(III)V"⟩
theorem d_S_requireRange_0 : decode b_S_requireRange 0 = .ok (.iload_n 0, 1) := by decide +kernel
theorem d_S_requireRange_1 : decode b_S_requireRange 1 = .ok (.iload_n 1, 1) := by decide +kernel
theorem d_S_requireRange_2 : decode b_S_requireRange 2 = .ok (.if_icmp .lt 8, 3) := by decide +kernel
theorem d_S_requireRange_5 : decode b_S_requireRange 5 = .ok (.iload_n 0, 1) := by decide +kernel
theorem d_S_requireRange_6 : decode b_S_requireRange 6 = .ok (.iload_n 2, 1) := by decide +kernel
theorem d_S_requireRange_7 : decode b_S_requireRange 7 = .ok (.if_icmp .le 13, 3) := by decide +kernel
theorem d_S_requireRange_10 : decode b_S_requireRange 10 = .ok (.new 193, 3) := by decide +kernel
theorem d_S_requireRange_13 : decode b_S_requireRange 13 = .ok (.dup, 1) := by decide +kernel
theorem d_S_requireRange_14 : decode b_S_requireRange 14 = .ok (.ldc 195, 2) := by decide +kernel
theorem d_S_requireRange_16 : decode b_S_requireRange 16 = .ok (.invokespecial 197, 3) := by decide +kernel
theorem d_S_requireRange_19 : decode b_S_requireRange 19 = .ok (.athrow, 1) := by decide +kernel
theorem d_S_requireRange_20 : decode b_S_requireRange 20 = .ok (.return_, 1) := by decide +kernel
abbrev b_S_requireMinute : ByteArray := prog_1_method_23_code
def y_S_requireMinute : MethodName := ⟨"StationRows", "requireMinute", "(I)V"⟩
theorem d_S_requireMinute_0 : decode b_S_requireMinute 0 = .ok (.iload_n 0, 1) := by decide +kernel
theorem d_S_requireMinute_1 : decode b_S_requireMinute 1 = .ok (.iconst 0, 1) := by decide +kernel
theorem d_S_requireMinute_2 : decode b_S_requireMinute 2 = .ok (.ldc 198, 2) := by decide +kernel
theorem d_S_requireMinute_4 : decode b_S_requireMinute 4 = .ok (.invokestatic 51, 3) := by decide +kernel
theorem d_S_requireMinute_7 : decode b_S_requireMinute 7 = .ok (.return_, 1) := by decide +kernel
abbrev b_S_requirePlace : ByteArray := prog_1_method_24_code
def y_S_requirePlace : MethodName := ⟨"StationRows", "requirePlace", "(I)V"⟩
theorem d_S_requirePlace_0 : decode b_S_requirePlace 0 = .ok (.iload_n 0, 1) := by decide +kernel
theorem d_S_requirePlace_1 : decode b_S_requirePlace 1 = .ok (.ifCond .ge 13, 3) := by decide +kernel
theorem d_S_requirePlace_4 : decode b_S_requirePlace 4 = .ok (.new 193, 3) := by decide +kernel
theorem d_S_requirePlace_7 : decode b_S_requirePlace 7 = .ok (.dup, 1) := by decide +kernel
theorem d_S_requirePlace_8 : decode b_S_requirePlace 8 = .ok (.ldc 199, 2) := by decide +kernel
theorem d_S_requirePlace_10 : decode b_S_requirePlace 10 = .ok (.invokespecial 197, 3) := by decide +kernel
theorem d_S_requirePlace_13 : decode b_S_requirePlace 13 = .ok (.athrow, 1) := by decide +kernel
theorem d_S_requirePlace_14 : decode b_S_requirePlace 14 = .ok (.return_, 1) := by decide +kernel
abbrev b_S_requireTime : ByteArray := prog_1_method_25_code
def y_S_requireTime : MethodName := ⟨"StationRows", "requireTime", "(II)V"⟩
theorem d_S_requireTime_0 : decode b_S_requireTime 0 = .ok (.iload_n 0, 1) := by decide +kernel
theorem d_S_requireTime_1 : decode b_S_requireTime 1 = .ok (.invokestatic 114, 3) := by decide +kernel
theorem d_S_requireTime_4 : decode b_S_requireTime 4 = .ok (.iload_n 1, 1) := by decide +kernel
theorem d_S_requireTime_5 : decode b_S_requireTime 5 = .ok (.invokestatic 114, 3) := by decide +kernel
theorem d_S_requireTime_8 : decode b_S_requireTime 8 = .ok (.iload_n 0, 1) := by decide +kernel
theorem d_S_requireTime_9 : decode b_S_requireTime 9 = .ok (.iload_n 1, 1) := by decide +kernel
theorem d_S_requireTime_10 : decode b_S_requireTime 10 = .ok (.if_icmp .lt 13, 3) := by decide +kernel
theorem d_S_requireTime_13 : decode b_S_requireTime 13 = .ok (.new 193, 3) := by decide +kernel
theorem d_S_requireTime_16 : decode b_S_requireTime 16 = .ok (.dup, 1) := by decide +kernel
theorem d_S_requireTime_17 : decode b_S_requireTime 17 = .ok (.ldc 201, 2) := by decide +kernel
theorem d_S_requireTime_19 : decode b_S_requireTime 19 = .ok (.invokespecial 197, 3) := by decide +kernel
theorem d_S_requireTime_22 : decode b_S_requireTime 22 = .ok (.athrow, 1) := by decide +kernel
theorem d_S_requireTime_23 : decode b_S_requireTime 23 = .ok (.return_, 1) := by decide +kernel
abbrev b_S_requireState : ByteArray := prog_1_method_26_code
def y_S_requireState : MethodName := ⟨"StationRows", "requireState", "(Z)V"⟩
theorem d_S_requireState_0 : decode b_S_requireState 0 = .ok (.iload_n 0, 1) := by decide +kernel
theorem d_S_requireState_1 : decode b_S_requireState 1 = .ok (.ifCond .ne 13, 3) := by decide +kernel
theorem d_S_requireState_4 : decode b_S_requireState 4 = .ok (.new 203, 3) := by decide +kernel
theorem d_S_requireState_7 : decode b_S_requireState 7 = .ok (.dup, 1) := by decide +kernel
theorem d_S_requireState_8 : decode b_S_requireState 8 = .ok (.ldc 205, 2) := by decide +kernel
theorem d_S_requireState_10 : decode b_S_requireState 10 = .ok (.invokespecial 207, 3) := by decide +kernel
theorem d_S_requireState_13 : decode b_S_requireState 13 = .ok (.athrow, 1) := by decide +kernel
theorem d_S_requireState_14 : decode b_S_requireState 14 = .ok (.return_, 1) := by decide +kernel
abbrev b_S_requireRoom : ByteArray := prog_1_method_27_code
def y_S_requireRoom : MethodName := ⟨"StationRows", "requireRoom", "(Z)V"⟩
theorem d_S_requireRoom_0 : decode b_S_requireRoom 0 = .ok (.iload_n 0, 1) := by decide +kernel
theorem d_S_requireRoom_1 : decode b_S_requireRoom 1 = .ok (.ifCond .ne 13, 3) := by decide +kernel
theorem d_S_requireRoom_4 : decode b_S_requireRoom 4 = .ok (.new 208, 3) := by decide +kernel
theorem d_S_requireRoom_7 : decode b_S_requireRoom 7 = .ok (.dup, 1) := by decide +kernel
theorem d_S_requireRoom_8 : decode b_S_requireRoom 8 = .ok (.ldc 210, 2) := by decide +kernel
theorem d_S_requireRoom_10 : decode b_S_requireRoom 10 = .ok (.invokespecial 212, 3) := by decide +kernel
theorem d_S_requireRoom_13 : decode b_S_requireRoom 13 = .ok (.athrow, 1) := by decide +kernel
theorem d_S_requireRoom_14 : decode b_S_requireRoom 14 = .ok (.return_, 1) := by decide +kernel
abbrev b_S_addTime : ByteArray := prog_1_method_28_code
def y_S_addTime : MethodName := ⟨"StationRows", "addTime", "(LStationRows$Times;III)V"⟩
theorem d_S_addTime_0 : decode b_S_addTime 0 = .ok (.aload_n 0, 1) := by decide +kernel
theorem d_S_addTime_1 : decode b_S_addTime 1 = .ok (.iload_n 1, 1) := by decide +kernel
theorem d_S_addTime_2 : decode b_S_addTime 2 = .ok (.iload_n 2, 1) := by decide +kernel
theorem d_S_addTime_3 : decode b_S_addTime 3 = .ok (.iload_n 3, 1) := by decide +kernel
theorem d_S_addTime_4 : decode b_S_addTime 4 = .ok (.invokevirtual 213, 3) := by decide +kernel
theorem d_S_addTime_7 : decode b_S_addTime 7 = .ok (.ifCond .ne 7, 3) := by decide +kernel
theorem d_S_addTime_10 : decode b_S_addTime 10 = .ok (.iconst 1, 1) := by decide +kernel
theorem d_S_addTime_11 : decode b_S_addTime 11 = .ok (.goto 4, 3) := by decide +kernel
theorem d_S_addTime_14 : decode b_S_addTime 14 = .ok (.iconst 0, 1) := by decide +kernel
theorem d_S_addTime_15 : decode b_S_addTime 15 = .ok (.invokestatic 102, 3) := by decide +kernel
theorem d_S_addTime_18 : decode b_S_addTime 18 = .ok (.aload_n 0, 1) := by decide +kernel
theorem d_S_addTime_19 : decode b_S_addTime 19 = .ok (.iload_n 1, 1) := by decide +kernel
theorem d_S_addTime_20 : decode b_S_addTime 20 = .ok (.invokevirtual 218, 3) := by decide +kernel
theorem d_S_addTime_23 : decode b_S_addTime 23 = .ok (.invokestatic 59, 3) := by decide +kernel
theorem d_S_addTime_26 : decode b_S_addTime 26 = .ok (.aload_n 0, 1) := by decide +kernel
theorem d_S_addTime_27 : decode b_S_addTime 27 = .ok (.iload_n 1, 1) := by decide +kernel
theorem d_S_addTime_28 : decode b_S_addTime 28 = .ok (.iload_n 2, 1) := by decide +kernel
theorem d_S_addTime_29 : decode b_S_addTime 29 = .ok (.iload_n 3, 1) := by decide +kernel
theorem d_S_addTime_30 : decode b_S_addTime 30 = .ok (.invokevirtual 222, 3) := by decide +kernel
theorem d_S_addTime_33 : decode b_S_addTime 33 = .ok (.return_, 1) := by decide +kernel
abbrev b_S_gatherPersons : ByteArray := prog_1_method_29_code
def y_S_gatherPersons : MethodName := ⟨"StationRows", "gatherPersons", "(II)I"⟩
theorem d_S_gatherPersons_0 : decode b_S_gatherPersons 0 = .ok (.aload_n 0, 1) := by decide +kernel
theorem d_S_gatherPersons_1 : decode b_S_gatherPersons 1 = .ok (.getfield 26, 3) := by decide +kernel
theorem d_S_gatherPersons_4 : decode b_S_gatherPersons 4 = .ok (.iload_n 1, 1) := by decide +kernel
theorem d_S_gatherPersons_5 : decode b_S_gatherPersons 5 = .ok (.iload_n 2, 1) := by decide +kernel
theorem d_S_gatherPersons_6 : decode b_S_gatherPersons 6 = .ok (.aload_n 0, 1) := by decide +kernel
theorem d_S_gatherPersons_7 : decode b_S_gatherPersons 7 = .ok (.getfield 10, 3) := by decide +kernel
theorem d_S_gatherPersons_10 : decode b_S_gatherPersons 10 = .ok (.iload_n 1, 1) := by decide +kernel
theorem d_S_gatherPersons_11 : decode b_S_gatherPersons 11 = .ok (.iload_n 2, 1) := by decide +kernel
theorem d_S_gatherPersons_12 : decode b_S_gatherPersons 12 = .ok (.invokevirtual 147, 3) := by decide +kernel
theorem d_S_gatherPersons_15 : decode b_S_gatherPersons 15 = .ok (.invokevirtual 224, 3) := by decide +kernel
theorem d_S_gatherPersons_18 : decode b_S_gatherPersons 18 = .ok (.ireturn, 1) := by decide +kernel
abbrev b_S_tellCrew : ByteArray := prog_1_method_30_code
def y_S_tellCrew : MethodName := ⟨"StationRows", "tellCrew", "(III)I"⟩
theorem d_S_tellCrew_0 : decode b_S_tellCrew 0 = .ok (.aload_n 0, 1) := by decide +kernel
theorem d_S_tellCrew_1 : decode b_S_tellCrew 1 = .ok (.aload_n 0, 1) := by decide +kernel
theorem d_S_tellCrew_2 : decode b_S_tellCrew 2 = .ok (.getfield 19, 3) := by decide +kernel
theorem d_S_tellCrew_5 : decode b_S_tellCrew 5 = .ok (.iload_n 1, 1) := by decide +kernel
theorem d_S_tellCrew_6 : decode b_S_tellCrew 6 = .ok (.invokevirtual 228, 3) := by decide +kernel
theorem d_S_tellCrew_9 : decode b_S_tellCrew 9 = .ok (.iload_n 2, 1) := by decide +kernel
theorem d_S_tellCrew_10 : decode b_S_tellCrew 10 = .ok (.invokevirtual 118, 3) := by decide +kernel
theorem d_S_tellCrew_13 : decode b_S_tellCrew 13 = .ok (.istore 4, 2) := by decide +kernel
theorem d_S_tellCrew_15 : decode b_S_tellCrew 15 = .ok (.aload_n 0, 1) := by decide +kernel
theorem d_S_tellCrew_16 : decode b_S_tellCrew 16 = .ok (.getfield 19, 3) := by decide +kernel
theorem d_S_tellCrew_19 : decode b_S_tellCrew 19 = .ok (.iload_n 1, 1) := by decide +kernel
theorem d_S_tellCrew_20 : decode b_S_tellCrew 20 = .ok (.iload_n 2, 1) := by decide +kernel
theorem d_S_tellCrew_21 : decode b_S_tellCrew 21 = .ok (.iload 4, 2) := by decide +kernel
theorem d_S_tellCrew_23 : decode b_S_tellCrew 23 = .ok (.invokevirtual 231, 3) := by decide +kernel
theorem d_S_tellCrew_26 : decode b_S_tellCrew 26 = .ok (.istore 5, 2) := by decide +kernel
theorem d_S_tellCrew_28 : decode b_S_tellCrew 28 = .ok (.aload_n 0, 1) := by decide +kernel
theorem d_S_tellCrew_29 : decode b_S_tellCrew 29 = .ok (.getfield 19, 3) := by decide +kernel
theorem d_S_tellCrew_32 : decode b_S_tellCrew 32 = .ok (.iload_n 1, 1) := by decide +kernel
theorem d_S_tellCrew_33 : decode b_S_tellCrew 33 = .ok (.iload_n 2, 1) := by decide +kernel
theorem d_S_tellCrew_34 : decode b_S_tellCrew 34 = .ok (.iload 4, 2) := by decide +kernel
theorem d_S_tellCrew_36 : decode b_S_tellCrew 36 = .ok (.iload 5, 2) := by decide +kernel
theorem d_S_tellCrew_38 : decode b_S_tellCrew 38 = .ok (.isub, 1) := by decide +kernel
theorem d_S_tellCrew_39 : decode b_S_tellCrew 39 = .ok (.invokevirtual 234, 3) := by decide +kernel
theorem d_S_tellCrew_42 : decode b_S_tellCrew 42 = .ok (.istore 6, 2) := by decide +kernel
theorem d_S_tellCrew_44 : decode b_S_tellCrew 44 = .ok (.iload_n 3, 1) := by decide +kernel
theorem d_S_tellCrew_45 : decode b_S_tellCrew 45 = .ok (.tableswitch 87 0 3 #[31, 60, 72, 75], 31) := by decide +kernel
theorem d_S_tellCrew_76 : decode b_S_tellCrew 76 = .ok (.iload 6, 2) := by decide +kernel
theorem d_S_tellCrew_78 : decode b_S_tellCrew 78 = .ok (.ifCond .ne 7, 3) := by decide +kernel
theorem d_S_tellCrew_81 : decode b_S_tellCrew 81 = .ok (.iconst 0, 1) := by decide +kernel
theorem d_S_tellCrew_82 : decode b_S_tellCrew 82 = .ok (.goto 22, 3) := by decide +kernel
theorem d_S_tellCrew_85 : decode b_S_tellCrew 85 = .ok (.aload_n 0, 1) := by decide +kernel
theorem d_S_tellCrew_86 : decode b_S_tellCrew 86 = .ok (.getfield 26, 3) := by decide +kernel
theorem d_S_tellCrew_89 : decode b_S_tellCrew 89 = .ok (.iload 5, 2) := by decide +kernel
theorem d_S_tellCrew_91 : decode b_S_tellCrew 91 = .ok (.iload 6, 2) := by decide +kernel
theorem d_S_tellCrew_93 : decode b_S_tellCrew 93 = .ok (.invokevirtual 237, 3) := by decide +kernel
theorem d_S_tellCrew_96 : decode b_S_tellCrew 96 = .ok (.ifCond .ne 7, 3) := by decide +kernel
theorem d_S_tellCrew_99 : decode b_S_tellCrew 99 = .ok (.iconst 2, 1) := by decide +kernel
theorem d_S_tellCrew_100 : decode b_S_tellCrew 100 = .ok (.goto 4, 3) := by decide +kernel
theorem d_S_tellCrew_103 : decode b_S_tellCrew 103 = .ok (.iconst 1, 1) := by decide +kernel
theorem d_S_tellCrew_104 : decode b_S_tellCrew 104 = .ok (.ireturn, 1) := by decide +kernel
theorem d_S_tellCrew_105 : decode b_S_tellCrew 105 = .ok (.aload_n 0, 1) := by decide +kernel
theorem d_S_tellCrew_106 : decode b_S_tellCrew 106 = .ok (.getfield 26, 3) := by decide +kernel
theorem d_S_tellCrew_109 : decode b_S_tellCrew 109 = .ok (.iload 5, 2) := by decide +kernel
theorem d_S_tellCrew_111 : decode b_S_tellCrew 111 = .ok (.iload 6, 2) := by decide +kernel
theorem d_S_tellCrew_113 : decode b_S_tellCrew 113 = .ok (.invokevirtual 237, 3) := by decide +kernel
theorem d_S_tellCrew_116 : decode b_S_tellCrew 116 = .ok (.ireturn, 1) := by decide +kernel
theorem d_S_tellCrew_117 : decode b_S_tellCrew 117 = .ok (.iload 6, 2) := by decide +kernel
theorem d_S_tellCrew_119 : decode b_S_tellCrew 119 = .ok (.ireturn, 1) := by decide +kernel
theorem d_S_tellCrew_120 : decode b_S_tellCrew 120 = .ok (.aload_n 0, 1) := by decide +kernel
theorem d_S_tellCrew_121 : decode b_S_tellCrew 121 = .ok (.getfield 26, 3) := by decide +kernel
theorem d_S_tellCrew_124 : decode b_S_tellCrew 124 = .ok (.iload 5, 2) := by decide +kernel
theorem d_S_tellCrew_126 : decode b_S_tellCrew 126 = .ok (.iload 6, 2) := by decide +kernel
theorem d_S_tellCrew_128 : decode b_S_tellCrew 128 = .ok (.invokevirtual 240, 3) := by decide +kernel
theorem d_S_tellCrew_131 : decode b_S_tellCrew 131 = .ok (.ireturn, 1) := by decide +kernel
theorem d_S_tellCrew_132 : decode b_S_tellCrew 132 = .ok (.iconst (-1), 1) := by decide +kernel
theorem d_S_tellCrew_133 : decode b_S_tellCrew 133 = .ok (.ireturn, 1) := by decide +kernel
abbrev b_J_fill : ByteArray := prog_21_method_103_code
def y_J_fill : MethodName := ⟨"java/util/Arrays", "fill", "([II)V"⟩
theorem d_J_fill_0 : decode b_J_fill 0 = .ok (.iconst 0, 1) := by decide +kernel
theorem d_J_fill_1 : decode b_J_fill 1 = .ok (.istore_n 2, 1) := by decide +kernel
theorem d_J_fill_2 : decode b_J_fill 2 = .ok (.aload_n 0, 1) := by decide +kernel
theorem d_J_fill_3 : decode b_J_fill 3 = .ok (.arraylength, 1) := by decide +kernel
theorem d_J_fill_4 : decode b_J_fill 4 = .ok (.istore_n 3, 1) := by decide +kernel
theorem d_J_fill_5 : decode b_J_fill 5 = .ok (.iload_n 2, 1) := by decide +kernel
theorem d_J_fill_6 : decode b_J_fill 6 = .ok (.iload_n 3, 1) := by decide +kernel
theorem d_J_fill_7 : decode b_J_fill 7 = .ok (.if_icmp .ge 13, 3) := by decide +kernel
theorem d_J_fill_10 : decode b_J_fill 10 = .ok (.aload_n 0, 1) := by decide +kernel
theorem d_J_fill_11 : decode b_J_fill 11 = .ok (.iload_n 2, 1) := by decide +kernel
theorem d_J_fill_12 : decode b_J_fill 12 = .ok (.iload_n 1, 1) := by decide +kernel
theorem d_J_fill_13 : decode b_J_fill 13 = .ok (.iastore, 1) := by decide +kernel
theorem d_J_fill_14 : decode b_J_fill 14 = .ok (.iinc 2 1, 3) := by decide +kernel
theorem d_J_fill_17 : decode b_J_fill 17 = .ok (.goto (-12), 3) := by decide +kernel
theorem d_J_fill_20 : decode b_J_fill 20 = .ok (.return_, 1) := by decide +kernel
abbrev b_J_bitCount : ByteArray := prog_15_method_49_code
def y_J_bitCount : MethodName := ⟨"java/lang/Integer", "bitCount", "(I)I"⟩
theorem d_J_bitCount_0 : decode b_J_bitCount 0 = .ok (.iload_n 0, 1) := by decide +kernel
theorem d_J_bitCount_1 : decode b_J_bitCount 1 = .ok (.iload_n 0, 1) := by decide +kernel
theorem d_J_bitCount_2 : decode b_J_bitCount 2 = .ok (.iconst 1, 1) := by decide +kernel
theorem d_J_bitCount_3 : decode b_J_bitCount 3 = .ok (.iushr, 1) := by decide +kernel
theorem d_J_bitCount_4 : decode b_J_bitCount 4 = .ok (.ldc_w 265, 3) := by decide +kernel
theorem d_J_bitCount_7 : decode b_J_bitCount 7 = .ok (.iand, 1) := by decide +kernel
theorem d_J_bitCount_8 : decode b_J_bitCount 8 = .ok (.isub, 1) := by decide +kernel
theorem d_J_bitCount_9 : decode b_J_bitCount 9 = .ok (.istore_n 0, 1) := by decide +kernel
theorem d_J_bitCount_10 : decode b_J_bitCount 10 = .ok (.iload_n 0, 1) := by decide +kernel
theorem d_J_bitCount_11 : decode b_J_bitCount 11 = .ok (.ldc_w 266, 3) := by decide +kernel
theorem d_J_bitCount_14 : decode b_J_bitCount 14 = .ok (.iand, 1) := by decide +kernel
theorem d_J_bitCount_15 : decode b_J_bitCount 15 = .ok (.iload_n 0, 1) := by decide +kernel
theorem d_J_bitCount_16 : decode b_J_bitCount 16 = .ok (.iconst 2, 1) := by decide +kernel
theorem d_J_bitCount_17 : decode b_J_bitCount 17 = .ok (.iushr, 1) := by decide +kernel
theorem d_J_bitCount_18 : decode b_J_bitCount 18 = .ok (.ldc_w 266, 3) := by decide +kernel
theorem d_J_bitCount_21 : decode b_J_bitCount 21 = .ok (.iand, 1) := by decide +kernel
theorem d_J_bitCount_22 : decode b_J_bitCount 22 = .ok (.iadd, 1) := by decide +kernel
theorem d_J_bitCount_23 : decode b_J_bitCount 23 = .ok (.istore_n 0, 1) := by decide +kernel
theorem d_J_bitCount_24 : decode b_J_bitCount 24 = .ok (.iload_n 0, 1) := by decide +kernel
theorem d_J_bitCount_25 : decode b_J_bitCount 25 = .ok (.iload_n 0, 1) := by decide +kernel
theorem d_J_bitCount_26 : decode b_J_bitCount 26 = .ok (.iconst 4, 1) := by decide +kernel
theorem d_J_bitCount_27 : decode b_J_bitCount 27 = .ok (.iushr, 1) := by decide +kernel
theorem d_J_bitCount_28 : decode b_J_bitCount 28 = .ok (.iadd, 1) := by decide +kernel
theorem d_J_bitCount_29 : decode b_J_bitCount 29 = .ok (.ldc_w 267, 3) := by decide +kernel
theorem d_J_bitCount_32 : decode b_J_bitCount 32 = .ok (.iand, 1) := by decide +kernel
theorem d_J_bitCount_33 : decode b_J_bitCount 33 = .ok (.istore_n 0, 1) := by decide +kernel
theorem d_J_bitCount_34 : decode b_J_bitCount 34 = .ok (.iload_n 0, 1) := by decide +kernel
theorem d_J_bitCount_35 : decode b_J_bitCount 35 = .ok (.iload_n 0, 1) := by decide +kernel
theorem d_J_bitCount_36 : decode b_J_bitCount 36 = .ok (.bipush 8, 2) := by decide +kernel
theorem d_J_bitCount_38 : decode b_J_bitCount 38 = .ok (.iushr, 1) := by decide +kernel
theorem d_J_bitCount_39 : decode b_J_bitCount 39 = .ok (.iadd, 1) := by decide +kernel
theorem d_J_bitCount_40 : decode b_J_bitCount 40 = .ok (.istore_n 0, 1) := by decide +kernel
theorem d_J_bitCount_41 : decode b_J_bitCount 41 = .ok (.iload_n 0, 1) := by decide +kernel
theorem d_J_bitCount_42 : decode b_J_bitCount 42 = .ok (.iload_n 0, 1) := by decide +kernel
theorem d_J_bitCount_43 : decode b_J_bitCount 43 = .ok (.bipush 16, 2) := by decide +kernel
theorem d_J_bitCount_45 : decode b_J_bitCount 45 = .ok (.iushr, 1) := by decide +kernel
theorem d_J_bitCount_46 : decode b_J_bitCount 46 = .ok (.iadd, 1) := by decide +kernel
theorem d_J_bitCount_47 : decode b_J_bitCount 47 = .ok (.istore_n 0, 1) := by decide +kernel
theorem d_J_bitCount_48 : decode b_J_bitCount 48 = .ok (.iload_n 0, 1) := by decide +kernel
theorem d_J_bitCount_49 : decode b_J_bitCount 49 = .ok (.bipush 63, 2) := by decide +kernel
theorem d_J_bitCount_51 : decode b_J_bitCount 51 = .ok (.iand, 1) := by decide +kernel
theorem d_J_bitCount_52 : decode b_J_bitCount 52 = .ok (.ireturn, 1) := by decide +kernel