theorem dJ5_length_8abf5_0 : decode cJ5_length_8abf5 0 = .ok (.aload_n 0, 1) := by decide +kernel
theorem dJ5_length_8abf5_1 : decode cJ5_length_8abf5 1 = .ok (.getfield 79, 3) := by decide +kernel
theorem dJ5_length_8abf5_4 : decode cJ5_length_8abf5 4 = .ok (.ireturn, 1) := by decide +kernel
theorem dJ5_ensureCapacityInternal_d00df_0 : decode cJ5_ensureCapacityInternal_d00df 0 = .ok (.aload_n 0, 1) := by decide +kernel
theorem dJ5_ensureCapacityInternal_d00df_1 : decode cJ5_ensureCapacityInternal_d00df 1 = .ok (.getfield 15, 3) := by decide +kernel
theorem dJ5_ensureCapacityInternal_d00df_4 : decode cJ5_ensureCapacityInternal_d00df 4 = .ok (.arraylength, 1) := by decide +kernel
theorem dJ5_ensureCapacityInternal_d00df_5 : decode cJ5_ensureCapacityInternal_d00df 5 = .ok (.aload_n 0, 1) := by decide +kernel
theorem dJ5_ensureCapacityInternal_d00df_6 : decode cJ5_ensureCapacityInternal_d00df 6 = .ok (.getfield 22, 3) := by decide +kernel
theorem dJ5_ensureCapacityInternal_d00df_9 : decode cJ5_ensureCapacityInternal_d00df 9 = .ok (.ishr, 1) := by decide +kernel
theorem dJ5_ensureCapacityInternal_d00df_10 : decode cJ5_ensureCapacityInternal_d00df 10 = .ok (.istore_n 2, 1) := by decide +kernel
theorem dJ5_ensureCapacityInternal_d00df_11 : decode cJ5_ensureCapacityInternal_d00df 11 = .ok (.iload_n 1, 1) := by decide +kernel
theorem dJ5_ensureCapacityInternal_d00df_12 : decode cJ5_ensureCapacityInternal_d00df 12 = .ok (.iload_n 2, 1) := by decide +kernel
theorem dJ5_ensureCapacityInternal_d00df_13 : decode cJ5_ensureCapacityInternal_d00df 13 = .ok (.isub, 1) := by decide +kernel
theorem dJ5_ensureCapacityInternal_d00df_14 : decode cJ5_ensureCapacityInternal_d00df 14 = .ok (.ifCond .le 24, 3) := by decide +kernel
theorem dJ5_ensureCapacityInternal_d00df_17 : decode cJ5_ensureCapacityInternal_d00df 17 = .ok (.aload_n 0, 1) := by decide +kernel
theorem dJ5_ensureCapacityInternal_d00df_18 : decode cJ5_ensureCapacityInternal_d00df 18 = .ok (.aload_n 0, 1) := by decide +kernel
theorem dJ5_ensureCapacityInternal_d00df_19 : decode cJ5_ensureCapacityInternal_d00df 19 = .ok (.getfield 15, 3) := by decide +kernel
theorem dJ5_ensureCapacityInternal_d00df_22 : decode cJ5_ensureCapacityInternal_d00df 22 = .ok (.aload_n 0, 1) := by decide +kernel
theorem dJ5_ensureCapacityInternal_d00df_23 : decode cJ5_ensureCapacityInternal_d00df 23 = .ok (.iload_n 1, 1) := by decide +kernel
theorem dJ5_ensureCapacityInternal_d00df_24 : decode cJ5_ensureCapacityInternal_d00df 24 = .ok (.invokevirtual 104, 3) := by decide +kernel
theorem dJ5_ensureCapacityInternal_d00df_27 : decode cJ5_ensureCapacityInternal_d00df 27 = .ok (.aload_n 0, 1) := by decide +kernel
theorem dJ5_ensureCapacityInternal_d00df_28 : decode cJ5_ensureCapacityInternal_d00df 28 = .ok (.getfield 22, 3) := by decide +kernel
theorem dJ5_ensureCapacityInternal_d00df_31 : decode cJ5_ensureCapacityInternal_d00df 31 = .ok (.ishl, 1) := by decide +kernel
theorem dJ5_ensureCapacityInternal_d00df_32 : decode cJ5_ensureCapacityInternal_d00df 32 = .ok (.invokestatic 108, 3) := by decide +kernel
theorem dJ5_ensureCapacityInternal_d00df_35 : decode cJ5_ensureCapacityInternal_d00df 35 = .ok (.putfield 15, 3) := by decide +kernel
theorem dJ5_ensureCapacityInternal_d00df_38 : decode cJ5_ensureCapacityInternal_d00df 38 = .ok (.return_, 1) := by decide +kernel
theorem dJ5_newCapacity_0f7a4_0 : decode cJ5_newCapacity_0f7a4 0 = .ok (.aload_n 0, 1) := by decide +kernel
theorem dJ5_newCapacity_0f7a4_1 : decode cJ5_newCapacity_0f7a4 1 = .ok (.getfield 15, 3) := by decide +kernel
theorem dJ5_newCapacity_0f7a4_4 : decode cJ5_newCapacity_0f7a4 4 = .ok (.arraylength, 1) := by decide +kernel
theorem dJ5_newCapacity_0f7a4_5 : decode cJ5_newCapacity_0f7a4 5 = .ok (.istore_n 2, 1) := by decide +kernel
theorem dJ5_newCapacity_0f7a4_6 : decode cJ5_newCapacity_0f7a4 6 = .ok (.iload_n 1, 1) := by decide +kernel
theorem dJ5_newCapacity_0f7a4_7 : decode cJ5_newCapacity_0f7a4 7 = .ok (.aload_n 0, 1) := by decide +kernel
theorem dJ5_newCapacity_0f7a4_8 : decode cJ5_newCapacity_0f7a4 8 = .ok (.getfield 22, 3) := by decide +kernel
theorem dJ5_newCapacity_0f7a4_11 : decode cJ5_newCapacity_0f7a4 11 = .ok (.ishl, 1) := by decide +kernel
theorem dJ5_newCapacity_0f7a4_12 : decode cJ5_newCapacity_0f7a4 12 = .ok (.istore_n 3, 1) := by decide +kernel
theorem dJ5_newCapacity_0f7a4_13 : decode cJ5_newCapacity_0f7a4 13 = .ok (.iload_n 3, 1) := by decide +kernel
theorem dJ5_newCapacity_0f7a4_14 : decode cJ5_newCapacity_0f7a4 14 = .ok (.iload_n 2, 1) := by decide +kernel
theorem dJ5_newCapacity_0f7a4_15 : decode cJ5_newCapacity_0f7a4 15 = .ok (.isub, 1) := by decide +kernel
theorem dJ5_newCapacity_0f7a4_16 : decode cJ5_newCapacity_0f7a4 16 = .ok (.istore 4, 2) := by decide +kernel
theorem dJ5_newCapacity_0f7a4_18 : decode cJ5_newCapacity_0f7a4 18 = .ok (.iload_n 2, 1) := by decide +kernel
theorem dJ5_newCapacity_0f7a4_19 : decode cJ5_newCapacity_0f7a4 19 = .ok (.iload 4, 2) := by decide +kernel
theorem dJ5_newCapacity_0f7a4_21 : decode cJ5_newCapacity_0f7a4 21 = .ok (.iload_n 2, 1) := by decide +kernel
theorem dJ5_newCapacity_0f7a4_22 : decode cJ5_newCapacity_0f7a4 22 = .ok (.iconst 2, 1) := by decide +kernel
theorem dJ5_newCapacity_0f7a4_23 : decode cJ5_newCapacity_0f7a4 23 = .ok (.aload_n 0, 1) := by decide +kernel
theorem dJ5_newCapacity_0f7a4_24 : decode cJ5_newCapacity_0f7a4 24 = .ok (.getfield 22, 3) := by decide +kernel
theorem dJ5_newCapacity_0f7a4_27 : decode cJ5_newCapacity_0f7a4 27 = .ok (.ishl, 1) := by decide +kernel
theorem dJ5_newCapacity_0f7a4_28 : decode cJ5_newCapacity_0f7a4 28 = .ok (.iadd, 1) := by decide +kernel
theorem dJ5_newCapacity_0f7a4_29 : decode cJ5_newCapacity_0f7a4 29 = .ok (.invokestatic 114, 3) := by decide +kernel
theorem dJ5_newCapacity_0f7a4_32 : decode cJ5_newCapacity_0f7a4 32 = .ok (.istore 5, 2) := by decide +kernel
theorem dJ5_newCapacity_0f7a4_34 : decode cJ5_newCapacity_0f7a4 34 = .ok (.iload 5, 2) := by decide +kernel
theorem dJ5_newCapacity_0f7a4_36 : decode cJ5_newCapacity_0f7a4 36 = .ok (.ldc 39, 2) := by decide +kernel
theorem dJ5_newCapacity_0f7a4_38 : decode cJ5_newCapacity_0f7a4 38 = .ok (.if_icmp .ne 13, 3) := by decide +kernel
theorem dJ5_newCapacity_0f7a4_41 : decode cJ5_newCapacity_0f7a4 41 = .ok (.new 120, 3) := by decide +kernel
theorem dJ5_newCapacity_0f7a4_44 : decode cJ5_newCapacity_0f7a4 44 = .ok (.dup, 1) := by decide +kernel
theorem dJ5_newCapacity_0f7a4_45 : decode cJ5_newCapacity_0f7a4 45 = .ok (.ldc 122, 2) := by decide +kernel
theorem dJ5_newCapacity_0f7a4_47 : decode cJ5_newCapacity_0f7a4 47 = .ok (.invokespecial 124, 3) := by decide +kernel
theorem dJ5_newCapacity_0f7a4_50 : decode cJ5_newCapacity_0f7a4 50 = .ok (.athrow, 1) := by decide +kernel
theorem dJ5_newCapacity_0f7a4_51 : decode cJ5_newCapacity_0f7a4 51 = .ok (.iload 5, 2) := by decide +kernel
theorem dJ5_newCapacity_0f7a4_53 : decode cJ5_newCapacity_0f7a4 53 = .ok (.aload_n 0, 1) := by decide +kernel
theorem dJ5_newCapacity_0f7a4_54 : decode cJ5_newCapacity_0f7a4 54 = .ok (.getfield 22, 3) := by decide +kernel
theorem dJ5_newCapacity_0f7a4_57 : decode cJ5_newCapacity_0f7a4 57 = .ok (.ishr, 1) := by decide +kernel
theorem dJ5_newCapacity_0f7a4_58 : decode cJ5_newCapacity_0f7a4 58 = .ok (.ireturn, 1) := by decide +kernel
theorem dJ5_setLength_d00df_0 : decode cJ5_setLength_d00df 0 = .ok (.iload_n 1, 1) := by decide +kernel
theorem dJ5_setLength_d00df_1 : decode cJ5_setLength_d00df 1 = .ok (.ifCond .ge 12, 3) := by decide +kernel
theorem dJ5_setLength_d00df_4 : decode cJ5_setLength_d00df 4 = .ok (.new 129, 3) := by decide +kernel
theorem dJ5_setLength_d00df_7 : decode cJ5_setLength_d00df 7 = .ok (.dup, 1) := by decide +kernel
theorem dJ5_setLength_d00df_8 : decode cJ5_setLength_d00df 8 = .ok (.iload_n 1, 1) := by decide +kernel
theorem dJ5_setLength_d00df_9 : decode cJ5_setLength_d00df 9 = .ok (.invokespecial 131, 3) := by decide +kernel
theorem dJ5_setLength_d00df_12 : decode cJ5_setLength_d00df 12 = .ok (.athrow, 1) := by decide +kernel
theorem dJ5_setLength_d00df_13 : decode cJ5_setLength_d00df 13 = .ok (.aload_n 0, 1) := by decide +kernel
theorem dJ5_setLength_d00df_14 : decode cJ5_setLength_d00df 14 = .ok (.iload_n 1, 1) := by decide +kernel
theorem dJ5_setLength_d00df_15 : decode cJ5_setLength_d00df 15 = .ok (.invokevirtual 100, 3) := by decide +kernel
theorem dJ5_setLength_d00df_18 : decode cJ5_setLength_d00df 18 = .ok (.aload_n 0, 1) := by decide +kernel
theorem dJ5_setLength_d00df_19 : decode cJ5_setLength_d00df 19 = .ok (.getfield 79, 3) := by decide +kernel
theorem dJ5_setLength_d00df_22 : decode cJ5_setLength_d00df 22 = .ok (.iload_n 1, 1) := by decide +kernel
theorem dJ5_setLength_d00df_23 : decode cJ5_setLength_d00df 23 = .ok (.if_icmp .ge 40, 3) := by decide +kernel
theorem dJ5_setLength_d00df_26 : decode cJ5_setLength_d00df 26 = .ok (.aload_n 0, 1) := by decide +kernel
theorem dJ5_setLength_d00df_27 : decode cJ5_setLength_d00df 27 = .ok (.invokevirtual 83, 3) := by decide +kernel
theorem dJ5_setLength_d00df_30 : decode cJ5_setLength_d00df 30 = .ok (.ifCond .eq 18, 3) := by decide +kernel
theorem dJ5_setLength_d00df_33 : decode cJ5_setLength_d00df 33 = .ok (.aload_n 0, 1) := by decide +kernel
theorem dJ5_setLength_d00df_34 : decode cJ5_setLength_d00df 34 = .ok (.getfield 15, 3) := by decide +kernel
theorem dJ5_setLength_d00df_37 : decode cJ5_setLength_d00df 37 = .ok (.aload_n 0, 1) := by decide +kernel
theorem dJ5_setLength_d00df_38 : decode cJ5_setLength_d00df 38 = .ok (.getfield 79, 3) := by decide +kernel
theorem dJ5_setLength_d00df_41 : decode cJ5_setLength_d00df 41 = .ok (.iload_n 1, 1) := by decide +kernel
theorem dJ5_setLength_d00df_42 : decode cJ5_setLength_d00df 42 = .ok (.invokestatic 133, 3) := by decide +kernel
theorem dJ5_setLength_d00df_45 : decode cJ5_setLength_d00df 45 = .ok (.goto 31, 3) := by decide +kernel
theorem dJ5_setLength_d00df_48 : decode cJ5_setLength_d00df 48 = .ok (.aload_n 0, 1) := by decide +kernel
theorem dJ5_setLength_d00df_49 : decode cJ5_setLength_d00df 49 = .ok (.getfield 15, 3) := by decide +kernel
theorem dJ5_setLength_d00df_52 : decode cJ5_setLength_d00df 52 = .ok (.aload_n 0, 1) := by decide +kernel
theorem dJ5_setLength_d00df_53 : decode cJ5_setLength_d00df 53 = .ok (.getfield 79, 3) := by decide +kernel
theorem dJ5_setLength_d00df_56 : decode cJ5_setLength_d00df 56 = .ok (.iload_n 1, 1) := by decide +kernel
theorem dJ5_setLength_d00df_57 : decode cJ5_setLength_d00df 57 = .ok (.invokestatic 137, 3) := by decide +kernel
theorem dJ5_setLength_d00df_60 : decode cJ5_setLength_d00df 60 = .ok (.goto 16, 3) := by decide +kernel
theorem dJ5_setLength_d00df_63 : decode cJ5_setLength_d00df 63 = .ok (.aload_n 0, 1) := by decide +kernel
theorem dJ5_setLength_d00df_64 : decode cJ5_setLength_d00df 64 = .ok (.getfield 79, 3) := by decide +kernel
theorem dJ5_setLength_d00df_67 : decode cJ5_setLength_d00df 67 = .ok (.iload_n 1, 1) := by decide +kernel
theorem dJ5_setLength_d00df_68 : decode cJ5_setLength_d00df 68 = .ok (.if_icmp .le 8, 3) := by decide +kernel
theorem dJ5_setLength_d00df_71 : decode cJ5_setLength_d00df 71 = .ok (.aload_n 0, 1) := by decide +kernel
theorem dJ5_setLength_d00df_72 : decode cJ5_setLength_d00df 72 = .ok (.iconst 1, 1) := by decide +kernel
theorem dJ5_setLength_d00df_73 : decode cJ5_setLength_d00df 73 = .ok (.putfield 73, 3) := by decide +kernel
theorem dJ5_setLength_d00df_76 : decode cJ5_setLength_d00df 76 = .ok (.aload_n 0, 1) := by decide +kernel
theorem dJ5_setLength_d00df_77 : decode cJ5_setLength_d00df 77 = .ok (.iload_n 1, 1) := by decide +kernel
theorem dJ5_setLength_d00df_78 : decode cJ5_setLength_d00df 78 = .ok (.putfield 79, 3) := by decide +kernel
theorem dJ5_setLength_d00df_81 : decode cJ5_setLength_d00df 81 = .ok (.return_, 1) := by decide +kernel
theorem dJ5_charAt_5068e_0 : decode cJ5_charAt_5068e 0 = .ok (.aload_n 0, 1) := by decide +kernel
theorem dJ5_charAt_5068e_1 : decode cJ5_charAt_5068e 1 = .ok (.getfield 22, 3) := by decide +kernel
theorem dJ5_charAt_5068e_4 : decode cJ5_charAt_5068e 4 = .ok (.istore_n 2, 1) := by decide +kernel
theorem dJ5_charAt_5068e_5 : decode cJ5_charAt_5068e 5 = .ok (.aload_n 0, 1) := by decide +kernel
theorem dJ5_charAt_5068e_6 : decode cJ5_charAt_5068e 6 = .ok (.getfield 15, 3) := by decide +kernel
theorem dJ5_charAt_5068e_9 : decode cJ5_charAt_5068e 9 = .ok (.astore_n 3, 1) := by decide +kernel
theorem dJ5_charAt_5068e_10 : decode cJ5_charAt_5068e 10 = .ok (.aload_n 0, 1) := by decide +kernel
theorem dJ5_charAt_5068e_11 : decode cJ5_charAt_5068e 11 = .ok (.getfield 79, 3) := by decide +kernel
theorem dJ5_charAt_5068e_14 : decode cJ5_charAt_5068e 14 = .ok (.aload_n 3, 1) := by decide +kernel
theorem dJ5_charAt_5068e_15 : decode cJ5_charAt_5068e 15 = .ok (.arraylength, 1) := by decide +kernel
theorem dJ5_charAt_5068e_16 : decode cJ5_charAt_5068e 16 = .ok (.iload_n 2, 1) := by decide +kernel
theorem dJ5_charAt_5068e_17 : decode cJ5_charAt_5068e 17 = .ok (.ishr, 1) := by decide +kernel
theorem dJ5_charAt_5068e_18 : decode cJ5_charAt_5068e 18 = .ok (.invokestatic 138, 3) := by decide +kernel
theorem dJ5_charAt_5068e_21 : decode cJ5_charAt_5068e 21 = .ok (.istore 4, 2) := by decide +kernel
theorem dJ5_charAt_5068e_23 : decode cJ5_charAt_5068e 23 = .ok (.iload_n 1, 1) := by decide +kernel
theorem dJ5_charAt_5068e_24 : decode cJ5_charAt_5068e 24 = .ok (.iload 4, 2) := by decide +kernel
theorem dJ5_charAt_5068e_26 : decode cJ5_charAt_5068e 26 = .ok (.invokestatic 144, 3) := by decide +kernel
theorem dJ5_charAt_5068e_29 : decode cJ5_charAt_5068e 29 = .ok (.iload_n 2, 1) := by decide +kernel
theorem dJ5_charAt_5068e_30 : decode cJ5_charAt_5068e 30 = .ok (.ifCond .ne 12, 3) := by decide +kernel
theorem dJ5_charAt_5068e_33 : decode cJ5_charAt_5068e 33 = .ok (.aload_n 3, 1) := by decide +kernel
theorem dJ5_charAt_5068e_34 : decode cJ5_charAt_5068e 34 = .ok (.iload_n 1, 1) := by decide +kernel
theorem dJ5_charAt_5068e_35 : decode cJ5_charAt_5068e 35 = .ok (.baload, 1) := by decide +kernel
theorem dJ5_charAt_5068e_36 : decode cJ5_charAt_5068e 36 = .ok (.sipush 255, 3) := by decide +kernel
theorem dJ5_charAt_5068e_39 : decode cJ5_charAt_5068e 39 = .ok (.iand, 1) := by decide +kernel
theorem dJ5_charAt_5068e_40 : decode cJ5_charAt_5068e 40 = .ok (.i2c, 1) := by decide +kernel
theorem dJ5_charAt_5068e_41 : decode cJ5_charAt_5068e 41 = .ok (.ireturn, 1) := by decide +kernel
theorem dJ5_charAt_5068e_42 : decode cJ5_charAt_5068e 42 = .ok (.aload_n 3, 1) := by decide +kernel
theorem dJ5_charAt_5068e_43 : decode cJ5_charAt_5068e 43 = .ok (.iload_n 1, 1) := by decide +kernel
theorem dJ5_charAt_5068e_44 : decode cJ5_charAt_5068e 44 = .ok (.invokestatic 148, 3) := by decide +kernel
theorem dJ5_charAt_5068e_47 : decode cJ5_charAt_5068e 47 = .ok (.ireturn, 1) := by decide +kernel
theorem dJ5_append_3fe6f_0 : decode cJ5_append_3fe6f 0 = .ok (.aload_n 0, 1) := by decide +kernel
theorem dJ5_append_3fe6f_1 : decode cJ5_append_3fe6f 1 = .ok (.aload_n 0, 1) := by decide +kernel
theorem dJ5_append_3fe6f_2 : decode cJ5_append_3fe6f 2 = .ok (.getfield 79, 3) := by decide +kernel
theorem dJ5_append_3fe6f_5 : decode cJ5_append_3fe6f 5 = .ok (.iconst 1, 1) := by decide +kernel
theorem dJ5_append_3fe6f_6 : decode cJ5_append_3fe6f 6 = .ok (.iadd, 1) := by decide +kernel
theorem dJ5_append_3fe6f_7 : decode cJ5_append_3fe6f 7 = .ok (.invokevirtual 100, 3) := by decide +kernel
theorem dJ5_append_3fe6f_10 : decode cJ5_append_3fe6f 10 = .ok (.aload_n 0, 1) := by decide +kernel
theorem dJ5_append_3fe6f_11 : decode cJ5_append_3fe6f 11 = .ok (.invokevirtual 83, 3) := by decide +kernel
theorem dJ5_append_3fe6f_14 : decode cJ5_append_3fe6f 14 = .ok (.ifCond .eq 31, 3) := by decide +kernel
theorem dJ5_append_3fe6f_17 : decode cJ5_append_3fe6f 17 = .ok (.iload_n 1, 1) := by decide +kernel
theorem dJ5_append_3fe6f_18 : decode cJ5_append_3fe6f 18 = .ok (.invokestatic 191, 3) := by decide +kernel
theorem dJ5_append_3fe6f_21 : decode cJ5_append_3fe6f 21 = .ok (.ifCond .eq 24, 3) := by decide +kernel
theorem dJ5_append_3fe6f_24 : decode cJ5_append_3fe6f 24 = .ok (.aload_n 0, 1) := by decide +kernel
theorem dJ5_append_3fe6f_25 : decode cJ5_append_3fe6f 25 = .ok (.getfield 15, 3) := by decide +kernel
theorem dJ5_append_3fe6f_28 : decode cJ5_append_3fe6f 28 = .ok (.aload_n 0, 1) := by decide +kernel
theorem dJ5_append_3fe6f_29 : decode cJ5_append_3fe6f 29 = .ok (.dup, 1) := by decide +kernel
theorem dJ5_append_3fe6f_30 : decode cJ5_append_3fe6f 30 = .ok (.getfield 79, 3) := by decide +kernel
theorem dJ5_append_3fe6f_33 : decode cJ5_append_3fe6f 33 = .ok (.dup_x1, 1) := by decide +kernel
theorem dJ5_append_3fe6f_34 : decode cJ5_append_3fe6f 34 = .ok (.iconst 1, 1) := by decide +kernel
theorem dJ5_append_3fe6f_35 : decode cJ5_append_3fe6f 35 = .ok (.iadd, 1) := by decide +kernel
theorem dJ5_append_3fe6f_36 : decode cJ5_append_3fe6f 36 = .ok (.putfield 79, 3) := by decide +kernel
theorem dJ5_append_3fe6f_39 : decode cJ5_append_3fe6f 39 = .ok (.iload_n 1, 1) := by decide +kernel
theorem dJ5_append_3fe6f_40 : decode cJ5_append_3fe6f 40 = .ok (.i2b, 1) := by decide +kernel
theorem dJ5_append_3fe6f_41 : decode cJ5_append_3fe6f 41 = .ok (.bastore, 1) := by decide +kernel
theorem dJ5_append_3fe6f_42 : decode cJ5_append_3fe6f 42 = .ok (.goto 33, 3) := by decide +kernel
theorem dJ5_append_3fe6f_45 : decode cJ5_append_3fe6f 45 = .ok (.aload_n 0, 1) := by decide +kernel
theorem dJ5_append_3fe6f_46 : decode cJ5_append_3fe6f 46 = .ok (.invokevirtual 83, 3) := by decide +kernel
theorem dJ5_append_3fe6f_49 : decode cJ5_append_3fe6f 49 = .ok (.ifCond .eq 7, 3) := by decide +kernel
theorem dJ5_append_3fe6f_52 : decode cJ5_append_3fe6f 52 = .ok (.aload_n 0, 1) := by decide +kernel
theorem dJ5_append_3fe6f_53 : decode cJ5_append_3fe6f 53 = .ok (.invokevirtual 195, 3) := by decide +kernel
theorem dJ5_append_3fe6f_56 : decode cJ5_append_3fe6f 56 = .ok (.aload_n 0, 1) := by decide +kernel
theorem dJ5_append_3fe6f_57 : decode cJ5_append_3fe6f 57 = .ok (.getfield 15, 3) := by decide +kernel
theorem dJ5_append_3fe6f_60 : decode cJ5_append_3fe6f 60 = .ok (.aload_n 0, 1) := by decide +kernel
theorem dJ5_append_3fe6f_61 : decode cJ5_append_3fe6f 61 = .ok (.dup, 1) := by decide +kernel
theorem dJ5_append_3fe6f_62 : decode cJ5_append_3fe6f 62 = .ok (.getfield 79, 3) := by decide +kernel
theorem dJ5_append_3fe6f_65 : decode cJ5_append_3fe6f 65 = .ok (.dup_x1, 1) := by decide +kernel
theorem dJ5_append_3fe6f_66 : decode cJ5_append_3fe6f 66 = .ok (.iconst 1, 1) := by decide +kernel
theorem dJ5_append_3fe6f_67 : decode cJ5_append_3fe6f 67 = .ok (.iadd, 1) := by decide +kernel
theorem dJ5_append_3fe6f_68 : decode cJ5_append_3fe6f 68 = .ok (.putfield 79, 3) := by decide +kernel
theorem dJ5_append_3fe6f_71 : decode cJ5_append_3fe6f 71 = .ok (.iload_n 1, 1) := by decide +kernel
theorem dJ5_append_3fe6f_72 : decode cJ5_append_3fe6f 72 = .ok (.invokestatic 197, 3) := by decide +kernel
theorem dJ5_append_3fe6f_75 : decode cJ5_append_3fe6f 75 = .ok (.aload_n 0, 1) := by decide +kernel
theorem dJ5_append_3fe6f_76 : decode cJ5_append_3fe6f 76 = .ok (.areturn, 1) := by decide +kernel
theorem dJ5_append_c97b9_0 : decode cJ5_append_c97b9 0 = .ok (.aload_n 0, 1) := by decide +kernel
theorem dJ5_append_c97b9_1 : decode cJ5_append_c97b9 1 = .ok (.getfield 79, 3) := by decide +kernel
theorem dJ5_append_c97b9_4 : decode cJ5_append_c97b9 4 = .ok (.istore_n 2, 1) := by decide +kernel
theorem dJ5_append_c97b9_5 : decode cJ5_append_c97b9 5 = .ok (.iload_n 2, 1) := by decide +kernel
theorem dJ5_append_c97b9_6 : decode cJ5_append_c97b9 6 = .ok (.iload_n 1, 1) := by decide +kernel
theorem dJ5_append_c97b9_7 : decode cJ5_append_c97b9 7 = .ok (.invokestatic 245, 3) := by decide +kernel
theorem dJ5_append_c97b9_10 : decode cJ5_append_c97b9 10 = .ok (.iadd, 1) := by decide +kernel
theorem dJ5_append_c97b9_11 : decode cJ5_append_c97b9 11 = .ok (.istore_n 3, 1) := by decide +kernel
theorem dJ5_append_c97b9_12 : decode cJ5_append_c97b9 12 = .ok (.aload_n 0, 1) := by decide +kernel
theorem dJ5_append_c97b9_13 : decode cJ5_append_c97b9 13 = .ok (.iload_n 3, 1) := by decide +kernel
theorem dJ5_append_c97b9_14 : decode cJ5_append_c97b9 14 = .ok (.invokevirtual 100, 3) := by decide +kernel
theorem dJ5_append_c97b9_17 : decode cJ5_append_c97b9 17 = .ok (.aload_n 0, 1) := by decide +kernel
theorem dJ5_append_c97b9_18 : decode cJ5_append_c97b9 18 = .ok (.invokevirtual 83, 3) := by decide +kernel
theorem dJ5_append_c97b9_21 : decode cJ5_append_c97b9 21 = .ok (.ifCond .eq 16, 3) := by decide +kernel
theorem dJ5_append_c97b9_24 : decode cJ5_append_c97b9 24 = .ok (.iload_n 1, 1) := by decide +kernel
theorem dJ5_append_c97b9_25 : decode cJ5_append_c97b9 25 = .ok (.iload_n 3, 1) := by decide +kernel
theorem dJ5_append_c97b9_26 : decode cJ5_append_c97b9 26 = .ok (.aload_n 0, 1) := by decide +kernel
theorem dJ5_append_c97b9_27 : decode cJ5_append_c97b9 27 = .ok (.getfield 15, 3) := by decide +kernel
theorem dJ5_append_c97b9_30 : decode cJ5_append_c97b9 30 = .ok (.invokestatic 248, 3) := by decide +kernel
theorem dJ5_append_c97b9_33 : decode cJ5_append_c97b9 33 = .ok (.pop, 1) := by decide +kernel
theorem dJ5_append_c97b9_34 : decode cJ5_append_c97b9 34 = .ok (.goto 14, 3) := by decide +kernel
theorem dJ5_append_c97b9_37 : decode cJ5_append_c97b9 37 = .ok (.iload_n 1, 1) := by decide +kernel
theorem dJ5_append_c97b9_38 : decode cJ5_append_c97b9 38 = .ok (.iload_n 2, 1) := by decide +kernel
theorem dJ5_append_c97b9_39 : decode cJ5_append_c97b9 39 = .ok (.iload_n 3, 1) := by decide +kernel
theorem dJ5_append_c97b9_40 : decode cJ5_append_c97b9 40 = .ok (.aload_n 0, 1) := by decide +kernel
theorem dJ5_append_c97b9_41 : decode cJ5_append_c97b9 41 = .ok (.getfield 15, 3) := by decide +kernel
theorem dJ5_append_c97b9_44 : decode cJ5_append_c97b9 44 = .ok (.invokestatic 251, 3) := by decide +kernel
theorem dJ5_append_c97b9_47 : decode cJ5_append_c97b9 47 = .ok (.pop, 1) := by decide +kernel
theorem dJ5_append_c97b9_48 : decode cJ5_append_c97b9 48 = .ok (.aload_n 0, 1) := by decide +kernel
theorem dJ5_append_c97b9_49 : decode cJ5_append_c97b9 49 = .ok (.iload_n 3, 1) := by decide +kernel
theorem dJ5_append_c97b9_50 : decode cJ5_append_c97b9 50 = .ok (.putfield 79, 3) := by decide +kernel
theorem dJ5_append_c97b9_53 : decode cJ5_append_c97b9 53 = .ok (.aload_n 0, 1) := by decide +kernel
theorem dJ5_append_c97b9_54 : decode cJ5_append_c97b9 54 = .ok (.areturn, 1) := by decide +kernel
theorem dJ5_isLatin1_aae02_0 : decode cJ5_isLatin1_aae02 0 = .ok (.getstatic 18, 3) := by decide +kernel
theorem dJ5_isLatin1_aae02_3 : decode cJ5_isLatin1_aae02 3 = .ok (.ifCond .eq 14, 3) := by decide +kernel
theorem dJ5_isLatin1_aae02_6 : decode cJ5_isLatin1_aae02 6 = .ok (.aload_n 0, 1) := by decide +kernel
theorem dJ5_isLatin1_aae02_7 : decode cJ5_isLatin1_aae02 7 = .ok (.getfield 22, 3) := by decide +kernel
theorem dJ5_isLatin1_aae02_10 : decode cJ5_isLatin1_aae02 10 = .ok (.ifCond .ne 7, 3) := by decide +kernel
theorem dJ5_isLatin1_aae02_13 : decode cJ5_isLatin1_aae02 13 = .ok (.iconst 1, 1) := by decide +kernel
theorem dJ5_isLatin1_aae02_14 : decode cJ5_isLatin1_aae02 14 = .ok (.goto 4, 3) := by decide +kernel
theorem dJ5_isLatin1_aae02_17 : decode cJ5_isLatin1_aae02 17 = .ok (.iconst 0, 1) := by decide +kernel
theorem dJ5_isLatin1_aae02_18 : decode cJ5_isLatin1_aae02 18 = .ok (.ireturn, 1) := by decide +kernel
theorem dJ6_getChars_ba4f3_0 : decode cJ6_getChars_ba4f3 0 = .ok (.iload_n 1, 1) := by decide +kernel
theorem dJ6_getChars_ba4f3_1 : decode cJ6_getChars_ba4f3 1 = .ok (.istore 5, 2) := by decide +kernel
theorem dJ6_getChars_ba4f3_3 : decode cJ6_getChars_ba4f3 3 = .ok (.iload_n 0, 1) := by decide +kernel
theorem dJ6_getChars_ba4f3_4 : decode cJ6_getChars_ba4f3 4 = .ok (.ifCond .ge 7, 3) := by decide +kernel
theorem dJ6_getChars_ba4f3_7 : decode cJ6_getChars_ba4f3 7 = .ok (.iconst 1, 1) := by decide +kernel
theorem dJ6_getChars_ba4f3_8 : decode cJ6_getChars_ba4f3 8 = .ok (.goto 4, 3) := by decide +kernel
theorem dJ6_getChars_ba4f3_11 : decode cJ6_getChars_ba4f3 11 = .ok (.iconst 0, 1) := by decide +kernel
theorem dJ6_getChars_ba4f3_12 : decode cJ6_getChars_ba4f3 12 = .ok (.istore 6, 2) := by decide +kernel
theorem dJ6_getChars_ba4f3_14 : decode cJ6_getChars_ba4f3 14 = .ok (.iload 6, 2) := by decide +kernel
theorem dJ6_getChars_ba4f3_16 : decode cJ6_getChars_ba4f3 16 = .ok (.ifCond .ne 6, 3) := by decide +kernel
theorem dJ6_getChars_ba4f3_19 : decode cJ6_getChars_ba4f3 19 = .ok (.iload_n 0, 1) := by decide +kernel
theorem dJ6_getChars_ba4f3_20 : decode cJ6_getChars_ba4f3 20 = .ok (.ineg, 1) := by decide +kernel
theorem dJ6_getChars_ba4f3_21 : decode cJ6_getChars_ba4f3 21 = .ok (.istore_n 0, 1) := by decide +kernel
theorem dJ6_getChars_ba4f3_22 : decode cJ6_getChars_ba4f3 22 = .ok (.iload_n 0, 1) := by decide +kernel
theorem dJ6_getChars_ba4f3_23 : decode cJ6_getChars_ba4f3 23 = .ok (.bipush (-100), 2) := by decide +kernel
theorem dJ6_getChars_ba4f3_25 : decode cJ6_getChars_ba4f3 25 = .ok (.if_icmp .gt 47, 3) := by decide +kernel
theorem dJ6_getChars_ba4f3_28 : decode cJ6_getChars_ba4f3 28 = .ok (.iload_n 0, 1) := by decide +kernel
theorem dJ6_getChars_ba4f3_29 : decode cJ6_getChars_ba4f3 29 = .ok (.bipush 100, 2) := by decide +kernel
theorem dJ6_getChars_ba4f3_31 : decode cJ6_getChars_ba4f3 31 = .ok (.idiv, 1) := by decide +kernel
theorem dJ6_getChars_ba4f3_32 : decode cJ6_getChars_ba4f3 32 = .ok (.istore_n 3, 1) := by decide +kernel
theorem dJ6_getChars_ba4f3_33 : decode cJ6_getChars_ba4f3 33 = .ok (.iload_n 3, 1) := by decide +kernel
theorem dJ6_getChars_ba4f3_34 : decode cJ6_getChars_ba4f3 34 = .ok (.bipush 100, 2) := by decide +kernel
theorem dJ6_getChars_ba4f3_36 : decode cJ6_getChars_ba4f3 36 = .ok (.imul, 1) := by decide +kernel
theorem dJ6_getChars_ba4f3_37 : decode cJ6_getChars_ba4f3 37 = .ok (.iload_n 0, 1) := by decide +kernel
theorem dJ6_getChars_ba4f3_38 : decode cJ6_getChars_ba4f3 38 = .ok (.isub, 1) := by decide +kernel
theorem dJ6_getChars_ba4f3_39 : decode cJ6_getChars_ba4f3 39 = .ok (.istore 4, 2) := by decide +kernel
theorem dJ6_getChars_ba4f3_41 : decode cJ6_getChars_ba4f3 41 = .ok (.iload_n 3, 1) := by decide +kernel
theorem dJ6_getChars_ba4f3_42 : decode cJ6_getChars_ba4f3 42 = .ok (.istore_n 0, 1) := by decide +kernel
theorem dJ6_getChars_ba4f3_43 : decode cJ6_getChars_ba4f3 43 = .ok (.aload_n 2, 1) := by decide +kernel
theorem dJ6_getChars_ba4f3_44 : decode cJ6_getChars_ba4f3 44 = .ok (.iinc 5 (-1), 3) := by decide +kernel
theorem dJ6_getChars_ba4f3_47 : decode cJ6_getChars_ba4f3 47 = .ok (.iload 5, 2) := by decide +kernel
theorem dJ6_getChars_ba4f3_49 : decode cJ6_getChars_ba4f3 49 = .ok (.getstatic 83, 3) := by decide +kernel
theorem dJ6_getChars_ba4f3_52 : decode cJ6_getChars_ba4f3 52 = .ok (.iload 4, 2) := by decide +kernel
theorem dJ6_getChars_ba4f3_54 : decode cJ6_getChars_ba4f3 54 = .ok (.baload, 1) := by decide +kernel
theorem dJ6_getChars_ba4f3_55 : decode cJ6_getChars_ba4f3 55 = .ok (.bastore, 1) := by decide +kernel
theorem dJ6_getChars_ba4f3_56 : decode cJ6_getChars_ba4f3 56 = .ok (.aload_n 2, 1) := by decide +kernel
theorem dJ6_getChars_ba4f3_57 : decode cJ6_getChars_ba4f3 57 = .ok (.iinc 5 (-1), 3) := by decide +kernel
theorem dJ6_getChars_ba4f3_60 : decode cJ6_getChars_ba4f3 60 = .ok (.iload 5, 2) := by decide +kernel
theorem dJ6_getChars_ba4f3_62 : decode cJ6_getChars_ba4f3 62 = .ok (.getstatic 87, 3) := by decide +kernel
theorem dJ6_getChars_ba4f3_65 : decode cJ6_getChars_ba4f3 65 = .ok (.iload 4, 2) := by decide +kernel
theorem dJ6_getChars_ba4f3_67 : decode cJ6_getChars_ba4f3 67 = .ok (.baload, 1) := by decide +kernel
theorem dJ6_getChars_ba4f3_68 : decode cJ6_getChars_ba4f3 68 = .ok (.bastore, 1) := by decide +kernel
theorem dJ6_getChars_ba4f3_69 : decode cJ6_getChars_ba4f3 69 = .ok (.goto (-47), 3) := by decide +kernel
theorem dJ6_getChars_ba4f3_72 : decode cJ6_getChars_ba4f3 72 = .ok (.aload_n 2, 1) := by decide +kernel
theorem dJ6_getChars_ba4f3_73 : decode cJ6_getChars_ba4f3 73 = .ok (.iinc 5 (-1), 3) := by decide +kernel
theorem dJ6_getChars_ba4f3_76 : decode cJ6_getChars_ba4f3 76 = .ok (.iload 5, 2) := by decide +kernel
theorem dJ6_getChars_ba4f3_78 : decode cJ6_getChars_ba4f3 78 = .ok (.getstatic 83, 3) := by decide +kernel
theorem dJ6_getChars_ba4f3_81 : decode cJ6_getChars_ba4f3 81 = .ok (.iload_n 0, 1) := by decide +kernel
theorem dJ6_getChars_ba4f3_82 : decode cJ6_getChars_ba4f3 82 = .ok (.ineg, 1) := by decide +kernel
theorem dJ6_getChars_ba4f3_83 : decode cJ6_getChars_ba4f3 83 = .ok (.baload, 1) := by decide +kernel
theorem dJ6_getChars_ba4f3_84 : decode cJ6_getChars_ba4f3 84 = .ok (.bastore, 1) := by decide +kernel
theorem dJ6_getChars_ba4f3_85 : decode cJ6_getChars_ba4f3 85 = .ok (.iload_n 0, 1) := by decide +kernel
theorem dJ6_getChars_ba4f3_86 : decode cJ6_getChars_ba4f3 86 = .ok (.bipush (-9), 2) := by decide +kernel
theorem dJ6_getChars_ba4f3_88 : decode cJ6_getChars_ba4f3 88 = .ok (.if_icmp .ge 16, 3) := by decide +kernel
theorem dJ6_getChars_ba4f3_91 : decode cJ6_getChars_ba4f3 91 = .ok (.aload_n 2, 1) := by decide +kernel
theorem dJ6_getChars_ba4f3_92 : decode cJ6_getChars_ba4f3 92 = .ok (.iinc 5 (-1), 3) := by decide +kernel
theorem dJ6_getChars_ba4f3_95 : decode cJ6_getChars_ba4f3 95 = .ok (.iload 5, 2) := by decide +kernel
theorem dJ6_getChars_ba4f3_97 : decode cJ6_getChars_ba4f3 97 = .ok (.getstatic 87, 3) := by decide +kernel
theorem dJ6_getChars_ba4f3_100 : decode cJ6_getChars_ba4f3 100 = .ok (.iload_n 0, 1) := by decide +kernel
theorem dJ6_getChars_ba4f3_101 : decode cJ6_getChars_ba4f3 101 = .ok (.ineg, 1) := by decide +kernel
theorem dJ6_getChars_ba4f3_102 : decode cJ6_getChars_ba4f3 102 = .ok (.baload, 1) := by decide +kernel
theorem dJ6_getChars_ba4f3_103 : decode cJ6_getChars_ba4f3 103 = .ok (.bastore, 1) := by decide +kernel
theorem dJ6_getChars_ba4f3_104 : decode cJ6_getChars_ba4f3 104 = .ok (.iload 6, 2) := by decide +kernel
theorem dJ6_getChars_ba4f3_106 : decode cJ6_getChars_ba4f3 106 = .ok (.ifCond .eq 12, 3) := by decide +kernel
theorem dJ6_getChars_ba4f3_109 : decode cJ6_getChars_ba4f3 109 = .ok (.aload_n 2, 1) := by decide +kernel
theorem dJ6_getChars_ba4f3_110 : decode cJ6_getChars_ba4f3 110 = .ok (.iinc 5 (-1), 3) := by decide +kernel
theorem dJ6_getChars_ba4f3_113 : decode cJ6_getChars_ba4f3 113 = .ok (.iload 5, 2) := by decide +kernel
theorem dJ6_getChars_ba4f3_115 : decode cJ6_getChars_ba4f3 115 = .ok (.bipush 45, 2) := by decide +kernel
theorem dJ6_getChars_ba4f3_117 : decode cJ6_getChars_ba4f3 117 = .ok (.bastore, 1) := by decide +kernel
theorem dJ6_getChars_ba4f3_118 : decode cJ6_getChars_ba4f3 118 = .ok (.iload 5, 2) := by decide +kernel
theorem dJ6_getChars_ba4f3_120 : decode cJ6_getChars_ba4f3 120 = .ok (.ireturn, 1) := by decide +kernel
theorem dJ6_stringSize_0f7a4_0 : decode cJ6_stringSize_0f7a4 0 = .ok (.iconst 1, 1) := by decide +kernel
theorem dJ6_stringSize_0f7a4_1 : decode cJ6_stringSize_0f7a4 1 = .ok (.istore_n 1, 1) := by decide +kernel
theorem dJ6_stringSize_0f7a4_2 : decode cJ6_stringSize_0f7a4 2 = .ok (.iload_n 0, 1) := by decide +kernel
theorem dJ6_stringSize_0f7a4_3 : decode cJ6_stringSize_0f7a4 3 = .ok (.ifCond .lt 8, 3) := by decide +kernel
theorem dJ6_stringSize_0f7a4_6 : decode cJ6_stringSize_0f7a4 6 = .ok (.iconst 0, 1) := by decide +kernel
theorem dJ6_stringSize_0f7a4_7 : decode cJ6_stringSize_0f7a4 7 = .ok (.istore_n 1, 1) := by decide +kernel
theorem dJ6_stringSize_0f7a4_8 : decode cJ6_stringSize_0f7a4 8 = .ok (.iload_n 0, 1) := by decide +kernel
theorem dJ6_stringSize_0f7a4_9 : decode cJ6_stringSize_0f7a4 9 = .ok (.ineg, 1) := by decide +kernel
theorem dJ6_stringSize_0f7a4_10 : decode cJ6_stringSize_0f7a4 10 = .ok (.istore_n 0, 1) := by decide +kernel
theorem dJ6_stringSize_0f7a4_11 : decode cJ6_stringSize_0f7a4 11 = .ok (.bipush (-10), 2) := by decide +kernel
theorem dJ6_stringSize_0f7a4_13 : decode cJ6_stringSize_0f7a4 13 = .ok (.istore_n 2, 1) := by decide +kernel
theorem dJ6_stringSize_0f7a4_14 : decode cJ6_stringSize_0f7a4 14 = .ok (.iconst 1, 1) := by decide +kernel
theorem dJ6_stringSize_0f7a4_15 : decode cJ6_stringSize_0f7a4 15 = .ok (.istore_n 3, 1) := by decide +kernel
theorem dJ6_stringSize_0f7a4_16 : decode cJ6_stringSize_0f7a4 16 = .ok (.iload_n 3, 1) := by decide +kernel
theorem dJ6_stringSize_0f7a4_17 : decode cJ6_stringSize_0f7a4 17 = .ok (.bipush 10, 2) := by decide +kernel
theorem dJ6_stringSize_0f7a4_19 : decode cJ6_stringSize_0f7a4 19 = .ok (.if_icmp .ge 23, 3) := by decide +kernel
theorem dJ6_stringSize_0f7a4_22 : decode cJ6_stringSize_0f7a4 22 = .ok (.iload_n 0, 1) := by decide +kernel
theorem dJ6_stringSize_0f7a4_23 : decode cJ6_stringSize_0f7a4 23 = .ok (.iload_n 2, 1) := by decide +kernel
theorem dJ6_stringSize_0f7a4_24 : decode cJ6_stringSize_0f7a4 24 = .ok (.if_icmp .le 7, 3) := by decide +kernel
theorem dJ6_stringSize_0f7a4_27 : decode cJ6_stringSize_0f7a4 27 = .ok (.iload_n 3, 1) := by decide +kernel
theorem dJ6_stringSize_0f7a4_28 : decode cJ6_stringSize_0f7a4 28 = .ok (.iload_n 1, 1) := by decide +kernel
theorem dJ6_stringSize_0f7a4_29 : decode cJ6_stringSize_0f7a4 29 = .ok (.iadd, 1) := by decide +kernel
theorem dJ6_stringSize_0f7a4_30 : decode cJ6_stringSize_0f7a4 30 = .ok (.ireturn, 1) := by decide +kernel
theorem dJ6_stringSize_0f7a4_31 : decode cJ6_stringSize_0f7a4 31 = .ok (.bipush 10, 2) := by decide +kernel
theorem dJ6_stringSize_0f7a4_33 : decode cJ6_stringSize_0f7a4 33 = .ok (.iload_n 2, 1) := by decide +kernel
theorem dJ6_stringSize_0f7a4_34 : decode cJ6_stringSize_0f7a4 34 = .ok (.imul, 1) := by decide +kernel
theorem dJ6_stringSize_0f7a4_35 : decode cJ6_stringSize_0f7a4 35 = .ok (.istore_n 2, 1) := by decide +kernel
theorem dJ6_stringSize_0f7a4_36 : decode cJ6_stringSize_0f7a4 36 = .ok (.iinc 3 1, 3) := by decide +kernel
theorem dJ6_stringSize_0f7a4_39 : decode cJ6_stringSize_0f7a4 39 = .ok (.goto (-23), 3) := by decide +kernel
theorem dJ6_stringSize_0f7a4_42 : decode cJ6_stringSize_0f7a4 42 = .ok (.bipush 10, 2) := by decide +kernel
theorem dJ6_stringSize_0f7a4_44 : decode cJ6_stringSize_0f7a4 44 = .ok (.iload_n 1, 1) := by decide +kernel
theorem dJ6_stringSize_0f7a4_45 : decode cJ6_stringSize_0f7a4 45 = .ok (.iadd, 1) := by decide +kernel
theorem dJ6_stringSize_0f7a4_46 : decode cJ6_stringSize_0f7a4 46 = .ok (.ireturn, 1) := by decide +kernel
theorem dJ4_append_cf468_0 : decode cJ4_append_cf468 0 = .ok (.aload_n 0, 1) := by decide +kernel
theorem dJ4_append_cf468_1 : decode cJ4_append_cf468 1 = .ok (.iload_n 1, 1) := by decide +kernel
theorem dJ4_append_cf468_2 : decode cJ4_append_cf468 2 = .ok (.invokespecial 50, 3) := by decide +kernel
theorem dJ4_append_cf468_5 : decode cJ4_append_cf468 5 = .ok (.pop, 1) := by decide +kernel
theorem dJ4_append_cf468_6 : decode cJ4_append_cf468 6 = .ok (.aload_n 0, 1) := by decide +kernel
theorem dJ4_append_cf468_7 : decode cJ4_append_cf468 7 = .ok (.areturn, 1) := by decide +kernel
theorem dJ4_append_bf812_0 : decode cJ4_append_bf812 0 = .ok (.aload_n 0, 1) := by decide +kernel
theorem dJ4_append_bf812_1 : decode cJ4_append_bf812 1 = .ok (.iload_n 1, 1) := by decide +kernel
theorem dJ4_append_bf812_2 : decode cJ4_append_bf812 2 = .ok (.invokespecial 53, 3) := by decide +kernel
theorem dJ4_append_bf812_5 : decode cJ4_append_bf812 5 = .ok (.pop, 1) := by decide +kernel
theorem dJ4_append_bf812_6 : decode cJ4_append_bf812 6 = .ok (.aload_n 0, 1) := by decide +kernel
theorem dJ4_append_bf812_7 : decode cJ4_append_bf812 7 = .ok (.areturn, 1) := by decide +kernel
theorem dJ4_charAt_5068e_0 : decode cJ4_charAt_5068e 0 = .ok (.aload_n 0, 1) := by decide +kernel
theorem dJ4_charAt_5068e_1 : decode cJ4_charAt_5068e 1 = .ok (.iload_n 1, 1) := by decide +kernel
theorem dJ4_charAt_5068e_2 : decode cJ4_charAt_5068e 2 = .ok (.invokespecial 329, 3) := by decide +kernel
theorem dJ4_charAt_5068e_5 : decode cJ4_charAt_5068e 5 = .ok (.ireturn, 1) := by decide +kernel
theorem dJ4_setLength_d00df_0 : decode cJ4_setLength_d00df 0 = .ok (.aload_n 0, 1) := by decide +kernel
theorem dJ4_setLength_d00df_1 : decode cJ4_setLength_d00df 1 = .ok (.iload_n 1, 1) := by decide +kernel
theorem dJ4_setLength_d00df_2 : decode cJ4_setLength_d00df 2 = .ok (.invokespecial 333, 3) := by decide +kernel
theorem dJ4_setLength_d00df_5 : decode cJ4_setLength_d00df 5 = .ok (.return_, 1) := by decide +kernel
theorem dJ4_length_8abf5_0 : decode cJ4_length_8abf5 0 = .ok (.aload_n 0, 1) := by decide +kernel
theorem dJ4_length_8abf5_1 : decode cJ4_length_8abf5 1 = .ok (.invokespecial 343, 3) := by decide +kernel
theorem dJ4_length_8abf5_4 : decode cJ4_length_8abf5 4 = .ok (.ireturn, 1) := by decide +kernel
theorem dJ1_canEncode_fc78d_0 : decode cJ1_canEncode_fc78d 0 = .ok (.iload_n 0, 1) := by decide +kernel
theorem dJ1_canEncode_fc78d_1 : decode cJ1_canEncode_fc78d 1 = .ok (.sipush 255, 3) := by decide +kernel
theorem dJ1_canEncode_fc78d_4 : decode cJ1_canEncode_fc78d 4 = .ok (.if_icmp .gt 7, 3) := by decide +kernel
theorem dJ1_canEncode_fc78d_7 : decode cJ1_canEncode_fc78d 7 = .ok (.iconst 1, 1) := by decide +kernel
theorem dJ1_canEncode_fc78d_8 : decode cJ1_canEncode_fc78d 8 = .ok (.goto 4, 3) := by decide +kernel
theorem dJ1_canEncode_fc78d_11 : decode cJ1_canEncode_fc78d 11 = .ok (.iconst 0, 1) := by decide +kernel
theorem dJ1_canEncode_fc78d_12 : decode cJ1_canEncode_fc78d 12 = .ok (.ireturn, 1) := by decide +kernel
theorem dJ7_copyOf_9075b_0 : decode cJ7_copyOf_9075b 0 = .ok (.iload_n 1, 1) := by decide +kernel
theorem dJ7_copyOf_9075b_1 : decode cJ7_copyOf_9075b 1 = .ok (.aload_n 0, 1) := by decide +kernel
theorem dJ7_copyOf_9075b_2 : decode cJ7_copyOf_9075b 2 = .ok (.arraylength, 1) := by decide +kernel
theorem dJ7_copyOf_9075b_3 : decode cJ7_copyOf_9075b 3 = .ok (.if_icmp .ne 11, 3) := by decide +kernel
theorem dJ7_copyOf_9075b_6 : decode cJ7_copyOf_9075b 6 = .ok (.aload_n 0, 1) := by decide +kernel
theorem dJ7_copyOf_9075b_7 : decode cJ7_copyOf_9075b 7 = .ok (.invokevirtual 310, 3) := by decide +kernel
theorem dJ7_copyOf_9075b_10 : decode cJ7_copyOf_9075b 10 = .ok (.checkcast 311, 3) := by decide +kernel
theorem dJ7_copyOf_9075b_13 : decode cJ7_copyOf_9075b 13 = .ok (.areturn, 1) := by decide +kernel
theorem dJ7_copyOf_9075b_14 : decode cJ7_copyOf_9075b 14 = .ok (.iload_n 1, 1) := by decide +kernel
theorem dJ7_copyOf_9075b_15 : decode cJ7_copyOf_9075b 15 = .ok (.newarray .byte, 2) := by decide +kernel
theorem dJ7_copyOf_9075b_17 : decode cJ7_copyOf_9075b 17 = .ok (.astore_n 2, 1) := by decide +kernel
theorem dJ7_copyOf_9075b_18 : decode cJ7_copyOf_9075b 18 = .ok (.aload_n 0, 1) := by decide +kernel
theorem dJ7_copyOf_9075b_19 : decode cJ7_copyOf_9075b 19 = .ok (.iconst 0, 1) := by decide +kernel
theorem dJ7_copyOf_9075b_20 : decode cJ7_copyOf_9075b 20 = .ok (.aload_n 2, 1) := by decide +kernel
theorem dJ7_copyOf_9075b_21 : decode cJ7_copyOf_9075b 21 = .ok (.iconst 0, 1) := by decide +kernel
theorem dJ7_copyOf_9075b_22 : decode cJ7_copyOf_9075b 22 = .ok (.aload_n 0, 1) := by decide +kernel
theorem dJ7_copyOf_9075b_23 : decode cJ7_copyOf_9075b 23 = .ok (.arraylength, 1) := by decide +kernel
theorem dJ7_copyOf_9075b_24 : decode cJ7_copyOf_9075b 24 = .ok (.iload_n 1, 1) := by decide +kernel
theorem dJ7_copyOf_9075b_25 : decode cJ7_copyOf_9075b 25 = .ok (.invokestatic 304, 3) := by decide +kernel
theorem dJ7_copyOf_9075b_28 : decode cJ7_copyOf_9075b 28 = .ok (.invokestatic 150, 3) := by decide +kernel
theorem dJ7_copyOf_9075b_31 : decode cJ7_copyOf_9075b 31 = .ok (.aload_n 2, 1) := by decide +kernel
theorem dJ7_copyOf_9075b_32 : decode cJ7_copyOf_9075b 32 = .ok (.areturn, 1) := by decide +kernel
theorem dJ8_newLength_cabcc_0 : decode cJ8_newLength_cabcc 0 = .ok (.iload_n 0, 1) := by decide +kernel
theorem dJ8_newLength_cabcc_1 : decode cJ8_newLength_cabcc 1 = .ok (.iload_n 1, 1) := by decide +kernel
theorem dJ8_newLength_cabcc_2 : decode cJ8_newLength_cabcc 2 = .ok (.iload_n 2, 1) := by decide +kernel
theorem dJ8_newLength_cabcc_3 : decode cJ8_newLength_cabcc 3 = .ok (.invokestatic 194, 3) := by decide +kernel
theorem dJ8_newLength_cabcc_6 : decode cJ8_newLength_cabcc 6 = .ok (.iadd, 1) := by decide +kernel
theorem dJ8_newLength_cabcc_7 : decode cJ8_newLength_cabcc 7 = .ok (.istore_n 3, 1) := by decide +kernel
theorem dJ8_newLength_cabcc_8 : decode cJ8_newLength_cabcc 8 = .ok (.iconst 0, 1) := by decide +kernel
theorem dJ8_newLength_cabcc_9 : decode cJ8_newLength_cabcc 9 = .ok (.iload_n 3, 1) := by decide +kernel
theorem dJ8_newLength_cabcc_10 : decode cJ8_newLength_cabcc 10 = .ok (.if_icmp .ge 11, 3) := by decide +kernel
theorem dJ8_newLength_cabcc_13 : decode cJ8_newLength_cabcc 13 = .ok (.iload_n 3, 1) := by decide +kernel
theorem dJ8_newLength_cabcc_14 : decode cJ8_newLength_cabcc 14 = .ok (.ldc 200, 2) := by decide +kernel
theorem dJ8_newLength_cabcc_16 : decode cJ8_newLength_cabcc 16 = .ok (.if_icmp .gt 5, 3) := by decide +kernel
theorem dJ8_newLength_cabcc_19 : decode cJ8_newLength_cabcc 19 = .ok (.iload_n 3, 1) := by decide +kernel
theorem dJ8_newLength_cabcc_20 : decode cJ8_newLength_cabcc 20 = .ok (.ireturn, 1) := by decide +kernel
theorem dJ8_newLength_cabcc_21 : decode cJ8_newLength_cabcc 21 = .ok (.iload_n 0, 1) := by decide +kernel
theorem dJ8_newLength_cabcc_22 : decode cJ8_newLength_cabcc 22 = .ok (.iload_n 1, 1) := by decide +kernel
theorem dJ8_newLength_cabcc_23 : decode cJ8_newLength_cabcc 23 = .ok (.invokestatic 201, 3) := by decide +kernel
theorem dJ8_newLength_cabcc_26 : decode cJ8_newLength_cabcc 26 = .ok (.ireturn, 1) := by decide +kernel
theorem kb_0 : Cond.fieldLink RJ5 18 "java/lang/String" "COMPACT_STRINGS" "Z" ∈ lwG := lwG_of (tb_2 (List.mem_of_getElem? (i := 109) (by decide +kernel))) (by decide +kernel)
theorem kb_1 : Cond.fieldLink RJ5 22 "java/lang/AbstractStringBuilder" "coder" "B" ∈ lwG := lwG_of (tb_2 (List.mem_of_getElem? (i := 119) (by decide +kernel))) (by decide +kernel)
theorem kb_2 : Cond.code yJ5_isLatin1_aae02 cJ5_isLatin1_aae02 1 (some .boolean) ∈ lwG := lwG_of (tb_6 (List.mem_of_getElem? (i := 212) (by decide +kernel))) (by decide +kernel)
theorem kb_3 : Cond.initialized RJ5 ∈ lwG := lwG_of (tb_1 (List.mem_of_getElem? (i := 13) (by decide +kernel))) (by decide +kernel)
theorem kb_4 : Cond.instanceMethod yJ5_isLatin1_aae02 ∈ lwG := lwG_of (tb_6 (List.mem_of_getElem? (i := 209) (by decide +kernel))) (by decide +kernel)
theorem kb_5 : Cond.code yJ9_max_7cf53 cJ9_max_7cf53 2 (some .int) ∈ lwG := lwG_of (tb_3 (List.mem_of_getElem? (i := 159) (by decide +kernel))) (by decide +kernel)
theorem kb_6 : Cond.initialized RJ9 ∈ lwG := lwG_of (tb_1 (List.mem_of_getElem? (i := 29) (by decide +kernel))) (by decide +kernel)
theorem kb_7 : Cond.static yJ9_max_7cf53 ∈ lwG := lwG_of (tb_3 (List.mem_of_getElem? (i := 158) (by decide +kernel))) (by decide +kernel)
theorem kb_8 : Cond.code yJ9_min_7cf53 cJ9_min_7cf53 2 (some .int) ∈ lwG := lwG_of (tb_2 (List.mem_of_getElem? (i := 203) (by decide +kernel))) (by decide +kernel)
theorem kb_9 : Cond.static yJ9_min_7cf53 ∈ lwG := lwG_of (tb_2 (List.mem_of_getElem? (i := 202) (by decide +kernel))) (by decide +kernel)
theorem kb_10 : Cond.methodLink RJ8 194 yJ9_max_7cf53 ∈ lwG := lwG_of (tb_6 (List.mem_of_getElem? (i := 190) (by decide +kernel))) (by decide +kernel)
theorem kb_11 : Cond.constant RJ8 200 (2147483639 : Int32) ∈ lwG := lwG_of (tb_6 (List.mem_of_getElem? (i := 191) (by decide +kernel))) (by decide +kernel)
theorem kb_12 : Cond.code yJ8_newLength_cabcc cJ8_newLength_cabcc 4 (some .int) ∈ lwG := lwG_of (tb_6 (List.mem_of_getElem? (i := 189) (by decide +kernel))) (by decide +kernel)
theorem kb_13 : Cond.initialized RJ8 ∈ lwG := lwG_of (tb_1 (List.mem_of_getElem? (i := 34) (by decide +kernel))) (by decide +kernel)
theorem kb_14 : Cond.static yJ8_newLength_cabcc ∈ lwG := lwG_of (tb_6 (List.mem_of_getElem? (i := 188) (by decide +kernel))) (by decide +kernel)
theorem kb_15 : Cond.fieldLink RJ5 15 "java/lang/AbstractStringBuilder" "value" "[B" ∈ lwG := lwG_of (tb_2 (List.mem_of_getElem? (i := 118) (by decide +kernel))) (by decide +kernel)
theorem kb_16 : Cond.methodLink RJ5 114 yJ8_newLength_cabcc ∈ lwG := lwG_of (tb_6 (List.mem_of_getElem? (i := 187) (by decide +kernel))) (by decide +kernel)
theorem kb_17 : Cond.constant RJ5 39 (2147483647 : Int32) ∈ lwG := lwG_of (tb_6 (List.mem_of_getElem? (i := 195) (by decide +kernel))) (by decide +kernel)
theorem kb_18 : Cond.code yJ5_newCapacity_0f7a4 cJ5_newCapacity_0f7a4 6 (some .int) ∈ lwG := lwG_of (tb_6 (List.mem_of_getElem? (i := 186) (by decide +kernel))) (by decide +kernel)
theorem kb_19 : Cond.instanceMethod yJ5_newCapacity_0f7a4 ∈ lwG := lwG_of (tb_6 (List.mem_of_getElem? (i := 185) (by decide +kernel))) (by decide +kernel)
theorem kb_20 : Cond.code yJ1_canEncode_fc78d cJ1_canEncode_fc78d 1 (some .boolean) ∈ lwG := lwG_of (tb_7 (List.mem_of_getElem? (i := 174) (by decide +kernel))) (by decide +kernel)
theorem kb_21 : Cond.initialized RJ1 ∈ lwG := lwG_of (tb_1 (List.mem_of_getElem? (i := 36) (by decide +kernel))) (by decide +kernel)
theorem kb_22 : Cond.static yJ1_canEncode_fc78d ∈ lwG := lwG_of (tb_7 (List.mem_of_getElem? (i := 173) (by decide +kernel))) (by decide +kernel)
theorem kb_23 : Cond.arrayClass .byte ∈ lwG := lwG_of (tb_2 (List.mem_of_getElem? (i := 132) (by decide +kernel))) (by decide +kernel)
theorem kb_24 : Cond.methodLink RJ7 304 yJ9_min_7cf53 ∈ lwG := lwG_of (tb_6 (List.mem_of_getElem? (i := 206) (by decide +kernel))) (by decide +kernel)
theorem kb_25 : Cond.methodLink RJ7 150 arraycopyName ∈ lwG := lwG_of (tb_6 (List.mem_of_getElem? (i := 207) (by decide +kernel))) (by decide +kernel)
theorem kb_26 : Cond.native arraycopyName ∈ lwG := lwG_of (tb_2 (List.mem_of_getElem? (i := 187) (by decide +kernel))) (by decide +kernel)
theorem kb_27 : Cond.static arraycopyName ∈ lwG := lwG_of (tb_2 (List.mem_of_getElem? (i := 186) (by decide +kernel))) (by decide +kernel)
theorem kb_28 : Cond.initialized "java/lang/System" ∈ lwG := lwG_of (tb_1 (List.mem_of_getElem? (i := 28) (by decide +kernel))) (by decide +kernel)
theorem kb_29 : Cond.code yJ7_copyOf_9075b cJ7_copyOf_9075b 3 (some (.array .byte)) ∈ lwG := lwG_of (tb_6 (List.mem_of_getElem? (i := 198) (by decide +kernel))) (by decide +kernel)
theorem kb_30 : Cond.initialized RJ7 ∈ lwG := lwG_of (tb_1 (List.mem_of_getElem? (i := 31) (by decide +kernel))) (by decide +kernel)
theorem kb_31 : Cond.static yJ7_copyOf_9075b ∈ lwG := lwG_of (tb_6 (List.mem_of_getElem? (i := 197) (by decide +kernel))) (by decide +kernel)
theorem kb_32 : Cond.methodLink RJ5 104 yJ5_newCapacity_0f7a4 ∈ lwG := lwG_of (tb_6 (List.mem_of_getElem? (i := 183) (by decide +kernel))) (by decide +kernel)
theorem kb_33 : Cond.methodLink RJ5 108 yJ7_copyOf_9075b ∈ lwG := lwG_of (tb_6 (List.mem_of_getElem? (i := 196) (by decide +kernel))) (by decide +kernel)
theorem kb_34 : Cond.code yJ5_ensureCapacityInternal_d00df cJ5_ensureCapacityInternal_d00df 3 none ∈ lwG := lwG_of (tb_6 (List.mem_of_getElem? (i := 182) (by decide +kernel))) (by decide +kernel)
theorem kb_35 : Cond.instanceMethod yJ5_ensureCapacityInternal_d00df ∈ lwG := lwG_of (tb_6 (List.mem_of_getElem? (i := 181) (by decide +kernel))) (by decide +kernel)
theorem kb_36 : Cond.code yJ5_append_3fe6f cJ5_append_3fe6f 2 (some (.object "java/lang/AbstractStringBuilder")) ∈ lwG := lwG_of (tb_7 (List.mem_of_getElem? (i := 171) (by decide +kernel))) (by decide +kernel)
theorem kb_37 : Cond.code yJ5_append_c97b9 cJ5_append_c97b9 4 (some (.object "java/lang/AbstractStringBuilder")) ∈ lwG := lwG_of (tb_7 (List.mem_of_getElem? (i := 48) (by decide +kernel))) (by decide +kernel)
theorem kb_38 : Cond.code yJ5_setLength_d00df cJ5_setLength_d00df 2 none ∈ lwG := lwG_of (tb_6 (List.mem_of_getElem? (i := 159) (by decide +kernel))) (by decide +kernel)
theorem kb_39 : Cond.code yJ5_length_8abf5 cJ5_length_8abf5 1 (some .int) ∈ lwG := lwG_of (tb_7 (List.mem_of_getElem? (i := 91) (by decide +kernel))) (by decide +kernel)
theorem kb_40 : Cond.code yJ5_charAt_5068e cJ5_charAt_5068e 5 (some .char) ∈ lwG := lwG_of (tb_7 (List.mem_of_getElem? (i := 209) (by decide +kernel))) (by decide +kernel)
theorem kb_41 : Cond.code yJ6_stringSize_0f7a4 cJ6_stringSize_0f7a4 4 (some .int) ∈ lwG := lwG_of (tb_7 (List.mem_of_getElem? (i := 51) (by decide +kernel))) (by decide +kernel)
theorem kb_42 : Cond.code yJ6_getChars_ba4f3 cJ6_getChars_ba4f3 7 (some .int) ∈ lwG := lwG_of (tb_7 (List.mem_of_getElem? (i := 54) (by decide +kernel))) (by decide +kernel)
theorem kb_43 : Cond.code yJ4_append_cf468 cJ4_append_cf468 2 (some (.object "java/lang/StringBuilder")) ∈ lwG := lwG_of (tb_7 (List.mem_of_getElem? (i := 168) (by decide +kernel))) (by decide +kernel)
theorem kb_44 : Cond.code yJ4_append_bf812 cJ4_append_bf812 2 (some (.object "java/lang/StringBuilder")) ∈ lwG := lwG_of (tb_7 (List.mem_of_getElem? (i := 45) (by decide +kernel))) (by decide +kernel)
theorem kb_45 : Cond.code yJ4_setLength_d00df cJ4_setLength_d00df 2 none ∈ lwG := lwG_of (tb_6 (List.mem_of_getElem? (i := 156) (by decide +kernel))) (by decide +kernel)
theorem kb_46 : Cond.code yJ4_length_8abf5 cJ4_length_8abf5 1 (some .int) ∈ lwG := lwG_of (tb_7 (List.mem_of_getElem? (i := 89) (by decide +kernel))) (by decide +kernel)
theorem kb_47 : Cond.code yJ4_charAt_5068e cJ4_charAt_5068e 2 (some .char) ∈ lwG := lwG_of (tb_7 (List.mem_of_getElem? (i := 206) (by decide +kernel))) (by decide +kernel)
theorem kb_48 : Cond.fieldLink RJ5 79 "java/lang/AbstractStringBuilder" "count" "I" ∈ lwG := lwG_of (tb_2 (List.mem_of_getElem? (i := 122) (by decide +kernel))) (by decide +kernel)
theorem kb_49 : Cond.methodLink RJ5 100 yJ5_ensureCapacityInternal_d00df ∈ lwG := lwG_of (tb_6 (List.mem_of_getElem? (i := 179) (by decide +kernel))) (by decide +kernel)
theorem kb_50 : Cond.selects RJ4 yJ5_isLatin1_aae02 yJ5_isLatin1_aae02 ∈ lwG := lwG_of (tb_6 (List.mem_of_getElem? (i := 211) (by decide +kernel))) (by decide +kernel)
theorem kb_51 : Cond.methodLink RJ5 83 yJ5_isLatin1_aae02 ∈ lwG := lwG_of (tb_6 (List.mem_of_getElem? (i := 208) (by decide +kernel))) (by decide +kernel)
theorem kb_52 : Cond.methodLink RJ5 191 yJ1_canEncode_fc78d ∈ lwG := lwG_of (tb_7 (List.mem_of_getElem? (i := 172) (by decide +kernel))) (by decide +kernel)
theorem kb_53 : Cond.instanceMethod yJ5_append_3fe6f ∈ lwG := lwG_of (tb_7 (List.mem_of_getElem? (i := 170) (by decide +kernel))) (by decide +kernel)
theorem kb_54 : Cond.initialized RJ6 ∈ lwG := lwG_of (tb_1 (List.mem_of_getElem? (i := 38) (by decide +kernel))) (by decide +kernel)
theorem kb_55 : Cond.static yJ6_stringSize_0f7a4 ∈ lwG := lwG_of (tb_7 (List.mem_of_getElem? (i := 50) (by decide +kernel))) (by decide +kernel)
theorem kb_56 : Cond.fieldLink RJ6 83 "java/lang/Integer" "DigitOnes" "[B" ∈ lwG := lwG_of (tb_7 (List.mem_of_getElem? (i := 55) (by decide +kernel))) (by decide +kernel)
theorem kb_57 : Cond.fieldLink RJ6 87 "java/lang/Integer" "DigitTens" "[B" ∈ lwG := lwG_of (tb_7 (List.mem_of_getElem? (i := 57) (by decide +kernel))) (by decide +kernel)
theorem kb_58 : Cond.static yJ6_getChars_ba4f3 ∈ lwG := lwG_of (tb_7 (List.mem_of_getElem? (i := 53) (by decide +kernel))) (by decide +kernel)
theorem kb_59 : Cond.methodLink RJ5 245 yJ6_stringSize_0f7a4 ∈ lwG := lwG_of (tb_7 (List.mem_of_getElem? (i := 49) (by decide +kernel))) (by decide +kernel)
theorem kb_60 : Cond.methodLink RJ5 248 yJ6_getChars_ba4f3 ∈ lwG := lwG_of (tb_7 (List.mem_of_getElem? (i := 52) (by decide +kernel))) (by decide +kernel)
theorem kb_61 : Cond.instanceMethod yJ5_append_c97b9 ∈ lwG := lwG_of (tb_7 (List.mem_of_getElem? (i := 47) (by decide +kernel))) (by decide +kernel)
theorem kb_62 : Cond.fieldLink RJ5 73 "java/lang/AbstractStringBuilder" "maybeLatin1" "Z" ∈ lwG := lwG_of (tb_2 (List.mem_of_getElem? (i := 120) (by decide +kernel))) (by decide +kernel)
theorem kb_63 : Cond.instanceMethod yJ5_setLength_d00df ∈ lwG := lwG_of (tb_6 (List.mem_of_getElem? (i := 158) (by decide +kernel))) (by decide +kernel)
theorem kb_64 : Cond.instanceMethod yJ5_length_8abf5 ∈ lwG := lwG_of (tb_7 (List.mem_of_getElem? (i := 85) (by decide +kernel))) (by decide +kernel)
theorem kb_65 : Cond.methodLink RJ5 138 yJ9_min_7cf53 ∈ lwG := lwG_of (tb_7 (List.mem_of_getElem? (i := 210) (by decide +kernel))) (by decide +kernel)
theorem kb_66 : Cond.methodLink RJ5 144 yJ0_checkIndex_df160 ∈ lwG := lwG_of (tb_7 (List.mem_of_getElem? (i := 211) (by decide +kernel))) (by decide +kernel)
theorem kb_67 : Cond.instanceMethod yJ5_charAt_5068e ∈ lwG := lwG_of (tb_7 (List.mem_of_getElem? (i := 208) (by decide +kernel))) (by decide +kernel)
theorem kb_68 : Cond.methodLink RJ4 50 yJ5_append_3fe6f ∈ lwG := lwG_of (tb_7 (List.mem_of_getElem? (i := 169) (by decide +kernel))) (by decide +kernel)
theorem kb_69 : Cond.sameMethod yJ5_append_3fe6f.cls yJ5_append_3fe6f.cls yJ5_append_3fe6f.name yJ5_append_3fe6f.desc ∈ lwG := lwG_of (tb_11 (List.mem_of_getElem? (i := 42) (by decide +kernel))) (by decide +kernel)
theorem kb_70 : Cond.superclass RJ4 RJ5 ∈ lwG := lwG_of (tb_2 (List.mem_of_getElem? (i := 131) (by decide +kernel))) (by decide +kernel)
theorem kb_71 : Cond.initialized RJ4 ∈ lwG := lwG_of (tb_1 (List.mem_of_getElem? (i := 14) (by decide +kernel))) (by decide +kernel)
theorem kb_72 : Cond.instanceMethod yJ4_append_cf468 ∈ lwG := lwG_of (tb_7 (List.mem_of_getElem? (i := 166) (by decide +kernel))) (by decide +kernel)
theorem kb_73 : Cond.methodLink RJ4 53 yJ5_append_c97b9 ∈ lwG := lwG_of (tb_7 (List.mem_of_getElem? (i := 46) (by decide +kernel))) (by decide +kernel)
theorem kb_74 : Cond.sameMethod yJ5_append_c97b9.cls yJ5_append_c97b9.cls yJ5_append_c97b9.name yJ5_append_c97b9.desc ∈ lwG := lwG_of (tb_11 (List.mem_of_getElem? (i := 41) (by decide +kernel))) (by decide +kernel)
theorem kb_75 : Cond.instanceMethod yJ4_append_bf812 ∈ lwG := lwG_of (tb_7 (List.mem_of_getElem? (i := 43) (by decide +kernel))) (by decide +kernel)
theorem kb_76 : Cond.methodLink RJ4 333 yJ5_setLength_d00df ∈ lwG := lwG_of (tb_6 (List.mem_of_getElem? (i := 157) (by decide +kernel))) (by decide +kernel)
theorem kb_77 : Cond.sameMethod yJ5_setLength_d00df.cls yJ5_setLength_d00df.cls yJ5_setLength_d00df.name yJ5_setLength_d00df.desc ∈ lwG := lwG_of (tb_11 (List.mem_of_getElem? (i := 33) (by decide +kernel))) (by decide +kernel)
theorem kb_78 : Cond.instanceMethod yJ4_setLength_d00df ∈ lwG := lwG_of (tb_6 (List.mem_of_getElem? (i := 154) (by decide +kernel))) (by decide +kernel)
theorem kb_79 : Cond.methodLink RJ4 343 yJ5_length_8abf5 ∈ lwG := lwG_of (tb_7 (List.mem_of_getElem? (i := 90) (by decide +kernel))) (by decide +kernel)
theorem kb_80 : Cond.sameMethod yJ5_length_8abf5.cls yJ5_length_8abf5.cls yJ5_length_8abf5.name yJ5_length_8abf5.desc ∈ lwG := lwG_of (tb_7 (List.mem_of_getElem? (i := 86) (by decide +kernel))) (by decide +kernel)
theorem kb_81 : Cond.instanceMethod yJ4_length_8abf5 ∈ lwG := lwG_of (tb_7 (List.mem_of_getElem? (i := 88) (by decide +kernel))) (by decide +kernel)
theorem kb_82 : Cond.methodLink RJ4 329 yJ5_charAt_5068e ∈ lwG := lwG_of (tb_7 (List.mem_of_getElem? (i := 207) (by decide +kernel))) (by decide +kernel)
theorem kb_83 : Cond.sameMethod yJ5_charAt_5068e.cls yJ5_charAt_5068e.cls yJ5_charAt_5068e.name yJ5_charAt_5068e.desc ∈ lwG := lwG_of (tb_11 (List.mem_of_getElem? (i := 44) (by decide +kernel))) (by decide +kernel)
theorem kb_84 : Cond.instanceMethod yJ4_charAt_5068e ∈ lwG := lwG_of (tb_7 (List.mem_of_getElem? (i := 204) (by decide +kernel))) (by decide +kernel)
theorem inJ4 : ∀ w ∈ u_ws RJ4 TJ4 4, w ∈ lwG := by decide +kernel
abbrev rb_J5_isLatin1_aae02 : Room := ⟨0, 0, 0, 0⟩
theorem cmb_J5_isLatin1_aae02 : cmB yJ5_isLatin1_aae02 cJ5_isLatin1_aae02 1 (some .boolean) 0 := ⟨kb_2, kb_3, ⟨by decide +kernel, by decide +kernel, by decide +kernel⟩, kb_4⟩
theorem cb_J5_isLatin1_aae02 {Z : vZ} {cy : Nat → ClassId} {ad : Nat → Nat} {E : Nat → Nat → Nat} {G : va_G} {l : Launch} {σ : Sm} (zk : Zok Z) (zs : ZS Z E) (h1 : σ 390 1 = 0) (hw : wfc σ) : CzI Z l yJ5_isLatin1_aae02 cJ5_isLatin1_aae02 1 (some .boolean) rb_J5_isLatin1_aae02 (wlc cy ad E) wfc G (tyc cy) [.ref (ad 390)] σ σ 1 := by
  refine czI_of zk (by decide +kernel) (Nat.le_of_ble_eq_true rfl) hw (σ, 1) (r := some (1)) (1) rfl (fun X Y w9 => EndI X Y cJ5_isLatin1_aae02 rb_J5_isLatin1_aae02 .boolean (σ, w9)) (fun _ _ h => h) (fun X A Q hZ hX C => ?_)
  show T X _ _ 0 0 0 [(0, .ref (ad 390))] [] σ (some 1)
  refine T_sCom (pc := 0) zs hZ C kb_0 dJ5_isLatin1_aae02_0 ?_
  refine T_if_eq_f (pc := 3) C 17 dJ5_isLatin1_aae02_3 rfl (rngL rfl) (by decide) ?_
  refine T_aload_n (pc := 6) C dJ5_isLatin1_aae02_6 rfl 0 rfl ?_
  refine Tb_get (pc := 7) C 1 (v := vi 0) (by decide) (by rw [h1]; rfl) inJ4 kb_1 dJ5_isLatin1_aae02_7 ?_
  refine T_if_ne_f (pc := 10) C 17 dJ5_isLatin1_aae02_10 rfl (rngL rfl) (by decide) ?_
  refine T_iconst (pc := 13) C dJ5_isLatin1_aae02_13 ?_
  refine T_goto (pc := 14) C 18 dJ5_isLatin1_aae02_14 rfl ?_
  exact T_iret (pc := 18) _ (fun h9 => h9) (rngL rfl) (nar_Z (Or.inr rfl)) (by decide) dJ5_isLatin1_aae02_18
abbrev rb_J9_max_7cf53 : Room := ⟨0, 0, 0, 0⟩
theorem cmb_J9_max_7cf53 : cmS yJ9_max_7cf53 cJ9_max_7cf53 2 (some .int) 2 := ⟨kb_5, kb_6, ⟨by decide +kernel, by decide +kernel, by decide +kernel⟩, kb_7⟩
theorem cb_J9_max_7cf53 {S : Type} {Z : vZ} {wl : S → va_W} {wf : S → Prop} {G : va_G} {tys : List (ClassId × FieldType)} {l : Launch} {σ : S} (zk : Zok Z) (x y v : Int) (hx : rng x) (hy : rng y) (hv : (x < y → v = y) ∧ (¬ x < y → v = x)) (hw : wf σ) : CzI Z l yJ9_max_7cf53 cJ9_max_7cf53 2 (some .int) rb_J9_max_7cf53 wl wf G tys [vi x, vi y] σ σ v := by
  refine czI_of zk (by decide +kernel) (Nat.le_of_ble_eq_true rfl) hw (σ, v) (r := some (v)) (v) rfl (fun X Y w9 => EndI X Y cJ9_max_7cf53 rb_J9_max_7cf53 .int (σ, w9)) (fun _ _ h => h) (fun X A Q hZ hX C => ?_)
  show T X _ _ 0 0 0 [(0, vi x), (1, vi y)] [] σ (some v)
  by_cases h : x < y
  · have e : v = y := hv.1 h
    subst e
    refine T_iload_n (pc := 0) C dJ9_max_7cf53_0 rfl 0 rfl ?_
    refine T_iload_n (pc := 1) C dJ9_max_7cf53_1 rfl 1 rfl ?_
    refine T_icmp_lt_t (pc := 2) C 9 dJ9_max_7cf53_2 rfl hx hy h ?_
    refine T_iload_n (pc := 9) C dJ9_max_7cf53_9 rfl 1 rfl ?_
    exact T_iret (pc := 10) _ (fun h9 => h9) (by unfold rng; omega) (nar_I _) (by decide) dJ9_max_7cf53_10
  · have e : v = x := hv.2 h
    subst e
    refine T_iload_n (pc := 0) C dJ9_max_7cf53_0 rfl 0 rfl ?_
    refine T_iload_n (pc := 1) C dJ9_max_7cf53_1 rfl 1 rfl ?_
    refine T_icmp_lt_f (pc := 2) C 9 dJ9_max_7cf53_2 rfl hx hy h ?_
    refine T_iload_n (pc := 5) C dJ9_max_7cf53_5 rfl 0 rfl ?_
    refine T_goto (pc := 6) C 10 dJ9_max_7cf53_6 rfl ?_
    exact T_iret (pc := 10) _ (fun h9 => h9) (by unfold rng; omega) (nar_I _) (by decide) dJ9_max_7cf53_10
abbrev rb_J9_min_7cf53 : Room := ⟨0, 0, 0, 0⟩
theorem cmb_J9_min_7cf53 : cmS yJ9_min_7cf53 cJ9_min_7cf53 2 (some .int) 2 := ⟨kb_8, kb_6, ⟨by decide +kernel, by decide +kernel, by decide +kernel⟩, kb_9⟩
theorem cb_J9_min_7cf53 {S : Type} {Z : vZ} {wl : S → va_W} {wf : S → Prop} {G : va_G} {tys : List (ClassId × FieldType)} {l : Launch} {σ : S} (zk : Zok Z) (x y v : Int) (hx : rng x) (hy : rng y) (hv : (y < x → v = y) ∧ (¬ y < x → v = x)) (hw : wf σ) : CzI Z l yJ9_min_7cf53 cJ9_min_7cf53 2 (some .int) rb_J9_min_7cf53 wl wf G tys [vi x, vi y] σ σ v := by
  refine czI_of zk (by decide +kernel) (Nat.le_of_ble_eq_true rfl) hw (σ, v) (r := some (v)) (v) rfl (fun X Y w9 => EndI X Y cJ9_min_7cf53 rb_J9_min_7cf53 .int (σ, w9)) (fun _ _ h => h) (fun X A Q hZ hX C => ?_)
  show T X _ _ 0 0 0 [(0, vi x), (1, vi y)] [] σ (some v)
  by_cases h : y < x
  · have e : v = y := hv.1 h
    subst e
    refine T_iload_n (pc := 0) C dJ9_min_7cf53_0 rfl 0 rfl ?_
    refine T_iload_n (pc := 1) C dJ9_min_7cf53_1 rfl 1 rfl ?_
    refine T_icmp_gt_t (pc := 2) C 9 dJ9_min_7cf53_2 rfl hx hy h ?_
    refine T_iload_n (pc := 9) C dJ9_min_7cf53_9 rfl 1 rfl ?_
    exact T_iret (pc := 10) _ (fun h9 => h9) (by unfold rng; omega) (nar_I _) (by decide) dJ9_min_7cf53_10
  · have e : v = x := hv.2 h
    subst e
    refine T_iload_n (pc := 0) C dJ9_min_7cf53_0 rfl 0 rfl ?_
    refine T_iload_n (pc := 1) C dJ9_min_7cf53_1 rfl 1 rfl ?_
    refine T_icmp_gt_f (pc := 2) C 9 dJ9_min_7cf53_2 rfl hx hy h ?_
    refine T_iload_n (pc := 5) C dJ9_min_7cf53_5 rfl 0 rfl ?_
    refine T_goto (pc := 6) C 10 dJ9_min_7cf53_6 rfl ?_
    exact T_iret (pc := 10) _ (fun h9 => h9) (by unfold rng; omega) (nar_I _) (by decide) dJ9_min_7cf53_10
abbrev rb_J8_newLength_cabcc : Room := ⟨1, 0, 0, 21⟩
theorem cmb_J8_newLength_cabcc : cmS yJ8_newLength_cabcc cJ8_newLength_cabcc 4 (some .int) 3 := ⟨kb_12, kb_13, ⟨by decide +kernel, by decide +kernel, by decide +kernel⟩, kb_14⟩
theorem cb_J8_newLength_cabcc {S : Type} {Z : vZ} {wl : S → va_W} {wf : S → Prop} {G : va_G} {tys : List (ClassId × FieldType)} {l : Launch} {σ : S} (zk : Zok Z) (x y z u : Int) (hx : rng x) (hy : rng y) (hz : rng z) (hu : (y < z → u = z) ∧ (¬ y < z → u = y)) (hv : 0 < x + u ∧ x + u ≤ 2147483639) (hw : wf σ) : CzI Z l yJ8_newLength_cabcc cJ8_newLength_cabcc 4 (some .int) rb_J8_newLength_cabcc wl wf G tys [vi x, vi y, vi z] σ σ (x + u) := by
  refine czI_of zk (by decide +kernel) (Nat.le_of_ble_eq_true rfl) hw (σ, x + u) (r := some (x + u)) (x + u) rfl (fun X Y w9 => EndI X Y cJ8_newLength_cabcc rb_J8_newLength_cabcc .int (σ, w9)) (fun _ _ h => h) (fun X A Q hZ hX C => ?_)
  show T X _ _ 0 0 0 [(0, vi x), (1, vi y), (2, vi z)] [] σ (some (x + u))
  refine T_iload_n (pc := 0) C dJ8_newLength_cabcc_0 rfl 0 rfl ?_
  refine T_iload_n (pc := 1) C dJ8_newLength_cabcc_1 rfl 1 rfl ?_
  refine T_iload_n (pc := 2) C dJ8_newLength_cabcc_2 rfl 2 rfl ?_
  refine T_czSc (pc := 3) zk hZ C [vi y, vi z] [vi x] (fun hw => cb_J9_max_7cf53 zk y z u hy hz hu hw) kb_10 cmb_J9_max_7cf53 rfl rfl (Nat.le_of_ble_eq_true rfl) (by decide) (a' := 0) (b' := 0) ⟨rfl, rfl⟩ dJ8_newLength_cabcc_3 (fun h5 => ?_)
  refine T_iadd (pc := 6) C dJ8_newLength_cabcc_6 ?_
  refine T_istore_n (pc := 7) (L' := [(3, vi (x + u)), (0, vi x), (1, vi y), (2, vi z)]) C dJ8_newLength_cabcc_7 rfl (Nat.le_of_ble_eq_true rfl) rfl ?_
  refine T_iconst (pc := 8) C dJ8_newLength_cabcc_8 ?_
  refine T_iload_n (pc := 9) C dJ8_newLength_cabcc_9 rfl 0 rfl ?_
  refine T_icmp_ge_f (pc := 10) C 21 dJ8_newLength_cabcc_10 rfl rng_0 (by unfold rng; omega) (by omega) ?_
  refine T_iload_n (pc := 13) C dJ8_newLength_cabcc_13 rfl 0 rfl ?_
  refine T_ldc (pc := 14) C 2147483639 dJ8_newLength_cabcc_14 kb_11 rfl ?_
  refine T_icmp_gt_f (pc := 16) C 21 dJ8_newLength_cabcc_16 rfl (by unfold rng; omega) (rngL rfl) (by omega) ?_
  refine T_iload_n (pc := 19) C dJ8_newLength_cabcc_19 rfl 0 rfl ?_
  exact T_iret (pc := 20) _ (fun h9 => h9) (by unfold rng; omega) (nar_I _) (by decide) dJ8_newLength_cabcc_20
abbrev rb_J5_newCapacity_0f7a4 : Room := ⟨2, 0, 0, 44⟩
theorem cmb_J5_newCapacity_0f7a4 : cmB yJ5_newCapacity_0f7a4 cJ5_newCapacity_0f7a4 6 (some .int) 1 := ⟨kb_18, kb_3, ⟨by decide +kernel, by decide +kernel, by decide +kernel⟩, kb_19⟩
theorem cb_J5_newCapacity_0f7a4 {Z : vZ} {cy : Nat → ClassId} {ad : Nat → Nat} {E : Nat → Nat → Nat} {G : va_G} {l : Launch} {σ : Sm} (zk : Zok Z) (q u : Int) (h1 : σ 390 1 = 0) (h9 : 0 ≤ σ 390 9 ∧ σ 390 9 ≤ 202 ∧ σ 390 9 < q ∧ q ≤ 100) (hu : (q - σ 390 9 < σ 390 9 + 2 → u = σ 390 9 + 2) ∧ (¬ q - σ 390 9 < σ 390 9 + 2 → u = q - σ 390 9)) (hw : wfc σ) : CzI Z l yJ5_newCapacity_0f7a4 cJ5_newCapacity_0f7a4 6 (some .int) rb_J5_newCapacity_0f7a4 (wlc cy ad E) wfc G (tyc cy) [.ref (ad 390), vi q] σ σ (σ 390 9 + u) := by
  refine czI_of zk (by decide +kernel) (Nat.le_of_ble_eq_true rfl) hw (σ, σ 390 9 + u) (r := some (σ 390 9 + u)) (σ 390 9 + u) rfl (fun X Y w9 => EndI X Y cJ5_newCapacity_0f7a4 rb_J5_newCapacity_0f7a4 .int (σ, w9)) (fun _ _ h => h) (fun X A Q hZ hX C => ?_)
  show T X _ _ 0 0 0 [(0, .ref (ad 390)), (1, vi q)] [] σ (some (σ 390 9 + u))
  refine T_aload_n (pc := 0) C dJ5_newCapacity_0f7a4_0 rfl 0 rfl ?_
  refine Tb_get (pc := 1) C 0 (v := .ref (σ 390 0).toNat) (by decide) rfl inJ4 kb_15 dJ5_newCapacity_0f7a4_1 ?_
  refine Tb_len (pc := 4) C (by omega) dJ5_newCapacity_0f7a4_4 ?_
  refine T_istore_n (pc := 5) (L' := [(2, vi (σ 390 9)), (0, .ref (ad 390)), (1, vi q)]) C dJ5_newCapacity_0f7a4_5 rfl (Nat.le_of_ble_eq_true rfl) rfl ?_
  refine T_iload_n (pc := 6) C dJ5_newCapacity_0f7a4_6 rfl 2 rfl ?_
  refine T_aload_n (pc := 7) C dJ5_newCapacity_0f7a4_7 rfl 1 rfl ?_
  refine Tb_get (pc := 8) C 1 (v := vi 0) (by decide) (by rw [h1]; rfl) inJ4 kb_1 dJ5_newCapacity_0f7a4_8 ?_
  refine T_ishl0 (pc := 11) C dJ5_newCapacity_0f7a4_11 ?_
  refine T_istore_n (pc := 12) (L' := [(3, vi q), (2, vi (σ 390 9)), (0, .ref (ad 390)), (1, vi q)]) C dJ5_newCapacity_0f7a4_12 rfl (Nat.le_of_ble_eq_true rfl) rfl ?_
  refine T_iload_n (pc := 13) C dJ5_newCapacity_0f7a4_13 rfl 0 rfl ?_
  refine T_iload_n (pc := 14) C dJ5_newCapacity_0f7a4_14 rfl 1 rfl ?_
  refine T_isub (pc := 15) C dJ5_newCapacity_0f7a4_15 ?_
  refine T_istore (pc := 16) (L' := [(4, vi (q - (σ 390 9))), (3, vi q), (2, vi (σ 390 9)), (0, .ref (ad 390)), (1, vi q)]) C dJ5_newCapacity_0f7a4_16 (Nat.le_of_ble_eq_true rfl) rfl ?_
  refine T_iload_n (pc := 18) C dJ5_newCapacity_0f7a4_18 rfl 2 rfl ?_
  refine T_iload (pc := 19) C dJ5_newCapacity_0f7a4_19 0 rfl ?_
  refine T_iload_n (pc := 21) C dJ5_newCapacity_0f7a4_21 rfl 2 rfl ?_
  refine T_iconst (pc := 22) C dJ5_newCapacity_0f7a4_22 ?_
  refine T_aload_n (pc := 23) C dJ5_newCapacity_0f7a4_23 rfl 3 rfl ?_
  refine Tb_get (pc := 24) C 1 (v := vi 0) (by decide) (by rw [h1]; rfl) inJ4 kb_1 dJ5_newCapacity_0f7a4_24 ?_
  refine T_ishl0 (pc := 27) C dJ5_newCapacity_0f7a4_27 ?_
  refine T_iadd (pc := 28) C dJ5_newCapacity_0f7a4_28 ?_
  refine T_czSc (pc := 29) zk hZ C [vi (σ 390 9), vi (q - σ 390 9), vi (σ 390 9 + 2)] [] (fun hw => cb_J8_newLength_cabcc zk (σ 390 9) (q - σ 390 9) (σ 390 9 + 2) u (by unfold rng; omega) (by unfold rng; omega) (by unfold rng; omega) hu (by omega) hw) kb_16 cmb_J8_newLength_cabcc rfl rfl (Nat.le_of_ble_eq_true rfl) (by decide) (a' := 0) (b' := 0) ⟨rfl, rfl⟩ dJ5_newCapacity_0f7a4_29 (fun h5 => ?_)
  refine T_istore (pc := 32) (L' := [(5, vi (σ 390 9 + u)), (4, vi (q - (σ 390 9))), (3, vi q), (2, vi (σ 390 9)), (0, .ref (ad 390)), (1, vi q)]) C dJ5_newCapacity_0f7a4_32 (Nat.le_of_ble_eq_true rfl) rfl ?_
  refine T_iload (pc := 34) C dJ5_newCapacity_0f7a4_34 0 rfl ?_
  refine T_ldc (pc := 36) C 2147483647 dJ5_newCapacity_0f7a4_36 kb_17 rfl ?_
  refine T_icmp_ne_t (pc := 38) C 51 dJ5_newCapacity_0f7a4_38 rfl (by unfold rng; omega) (rngL rfl) (by omega) ?_
  refine T_iload (pc := 51) C dJ5_newCapacity_0f7a4_51 0 rfl ?_
  refine T_aload_n (pc := 53) C dJ5_newCapacity_0f7a4_53 rfl 4 rfl ?_
  refine Tb_get (pc := 54) C 1 (v := vi 0) (by decide) (by rw [h1]; rfl) inJ4 kb_1 dJ5_newCapacity_0f7a4_54 ?_
  refine T_ishr0 (pc := 57) C (by unfold rng; omega) (by omega) dJ5_newCapacity_0f7a4_57 ?_
  exact T_iret (pc := 58) _ (fun h9 => h9) (by unfold rng; omega) (nar_I _) (by decide) dJ5_newCapacity_0f7a4_58
abbrev rb_J1_canEncode_fc78d : Room := ⟨0, 0, 0, 0⟩
theorem cmb_J1_canEncode_fc78d : cmS yJ1_canEncode_fc78d cJ1_canEncode_fc78d 1 (some .boolean) 1 := ⟨kb_20, kb_21, ⟨by decide +kernel, by decide +kernel, by decide +kernel⟩, kb_22⟩
theorem cb_J1_canEncode_fc78d {S : Type} {Z : vZ} {wl : S → va_W} {wf : S → Prop} {G : va_G} {tys : List (ClassId × FieldType)} {l : Launch} {σ : S} (zk : Zok Z) (c : Int) (hc : 0 ≤ c ∧ c < 128) (hw : wf σ) : CzI Z l yJ1_canEncode_fc78d cJ1_canEncode_fc78d 1 (some .boolean) rb_J1_canEncode_fc78d wl wf G tys [vi c] σ σ 1 := by
  refine czI_of zk (by decide +kernel) (Nat.le_of_ble_eq_true rfl) hw (σ, 1) (r := some (1)) (1) rfl (fun X Y w9 => EndI X Y cJ1_canEncode_fc78d rb_J1_canEncode_fc78d .boolean (σ, w9)) (fun _ _ h => h) (fun X A Q hZ hX C => ?_)
  show T X _ _ 0 0 0 [(0, vi c)] [] σ (some 1)
  refine T_iload_n (pc := 0) C dJ1_canEncode_fc78d_0 rfl 0 rfl ?_
  refine T_sipush (pc := 1) C dJ1_canEncode_fc78d_1 (by decide) ?_
  refine T_icmp_gt_f (pc := 4) C 11 dJ1_canEncode_fc78d_4 rfl (by unfold rng; omega) (rngL rfl) (by omega) ?_
  refine T_iconst (pc := 7) C dJ1_canEncode_fc78d_7 ?_
  refine T_goto (pc := 8) C 12 dJ1_canEncode_fc78d_8 rfl ?_
  exact T_iret (pc := 12) _ (fun h9 => h9) (rngL rfl) (nar_Z (Or.inr rfl)) (by decide) dJ1_canEncode_fc78d_12
theorem En_BI {σ τ : Sm} {t : List Int} {q : Int} (hB : BI σ t) (hE : En σ q τ) : BI τ t := by
  obtain ⟨b1, b2, b3, b4, b5, b6, b7⟩ := hB
  obtain ⟨-, ⟨e1, e2, e3⟩, ⟨e4, e5, e6⟩, e7, e8⟩ := hE
  refine ⟨by rw [e1]; exact b1, by rw [e3]; exact b2, by omega, by omega, e6, e7, fun j hj => ?_⟩
  rw [e8 j (by omega)]
  exact b7 j hj
theorem Bd_push {σ τ : Sm} {t : List Int} {q c : Int} (hB : BI σ t) (hE : En σ q τ) (hq : (t.length : Int) + 1 ≤ q) (hc : 0 ≤ c ∧ c < 128) : Bd σ (t ++ [c]) (upm (upm τ 390 3 ((t.length : Int) + 1)) 391 t.length c) := by
  have hT := En_BI hB hE
  obtain ⟨b1, b2, b3, b4, b5, b6, b7⟩ := hT
  refine ⟨fun r h1 h2 => ?_, ?_, ?_, ?_, ?_, ?_, fun j => ?_, fun j hj => ?_⟩
  · rw [upm_ne h2, upm_ne h1]; exact hE.1 r h1 h2
  · rw [upm_ne (by decide)]; simpa [upm] using b1
  · rw [upm_ne (by decide)]; simp [upm]
  · rw [upm_ne (by decide)]; have := hE.2.2.1; simp [upm]; omega
  · rw [upm_ne (by decide)]; simpa [upm] using b4
  · rw [upm_ne (by decide)]; simpa [upm] using b5
  · by_cases h : j = t.length
    · subst h; simpa [upm] using hc
    · simp [upm, h]; exact b6 j
  · by_cases h : j = t.length
    · subst h
      rw [getD_app_ge (Nat.le_refl _)]
      simp [upm]
    · have h2 : j < t.length := by simp at hj; omega
      rw [getD_app_lt h2]
      simp [upm, h]
      exact b7 j h2
/-- the letters of v, written so that they end before p -/
def gcS (σ : Sm) (p v : Nat) : Sm := fun r j => if r = 391 ∧ p - (dg v).length ≤ j ∧ j < p then (dg v).getD (j - (p - (dg v).length)) 0 else σ r j
theorem Bd_int {σ τ : Sm} {t : List Int} {q : Int} {v : Nat} (hB : BI σ t) (hE : En σ q τ) (hq : (t.length : Int) + (dg v).length ≤ q) : Bd σ (t ++ dg v) (upm (gcS τ (t.length + (dg v).length) v) 390 3 ((t.length : Int) + (dg v).length)) := by
  have hT := En_BI hB hE
  obtain ⟨b1, b2, b3, b4, b5, b6, b7⟩ := hT
  have hg : ∀ r, r ≠ 391 → gcS τ (t.length + (dg v).length) v r = τ r := fun r h => by funext j; simp [gcS, h]
  refine ⟨fun r h1 h2 => ?_, ?_, ?_, ?_, ?_, ?_, fun j => ?_, fun j hj => ?_⟩
  · rw [upm_ne h1, hg r h2]; exact hE.1 r h1 h2
  · simp [upm, hg 390 (by decide)]; exact b1
  · simp [upm]
  · simp [upm, hg 390 (by decide)]; have := hE.2.2.1; omega
  · simp [upm, hg 390 (by decide)]; exact b4
  · simp [upm, hg 390 (by decide)]; exact b5
  · rw [upm_ne (by decide)]
    unfold gcS
    by_cases h : t.length + (dg v).length - (dg v).length ≤ j ∧ j < t.length + (dg v).length
    · rw [if_pos ⟨rfl, h⟩]
      have h2 : j - (t.length + (dg v).length - (dg v).length) < (dg v).length := by omega
      rw [List.getD_eq_getElem?_getD, List.getElem?_eq_getElem h2]
      exact asc_dg v _ (List.getElem_mem h2)
    · rw [if_neg (fun q => h q.2)]; exact b6 j
  · rw [upm_ne (by decide)]
    unfold gcS
    by_cases h : t.length + (dg v).length - (dg v).length ≤ j ∧ j < t.length + (dg v).length
    · rw [if_pos ⟨rfl, h⟩, getD_app_ge (by omega)]
      congr 1
      omega
    · rw [if_neg (fun q => h q.2)]
      simp at hj
      rw [getD_app_lt (by omega)]
      exact b7 j (by omega)
theorem Bd_zero {σ τ : Sm} {t : List Int} (hB : BI σ t) (hE : En σ 0 τ) : Bd σ [] (upm τ 390 3 0) ∧ Bd σ [] (upm (upm τ 390 2 1) 390 3 0) := by
  have hT := En_BI hB hE
  obtain ⟨b1, b2, b3, b4, b5, b6, b7⟩ := hT
  constructor
  · refine ⟨fun r h1 h2 => ?_, ?_, ?_, ?_, ?_, ?_, fun j => ?_, fun j hj => ?_⟩
    · rw [upm_ne h1]; exact hE.1 r h1 h2
    · simp [upm]; exact b1
    · simp [upm]
    · simp [upm]; exact b4
    · simp [upm]; exact b4
    · simp [upm]; exact b5
    · rw [upm_ne (by decide)]; exact b6 j
    · simp at hj
  · refine ⟨fun r h1 h2 => ?_, ?_, ?_, ?_, ?_, ?_, fun j => ?_, fun j hj => ?_⟩
    · rw [upm_ne h1, upm_ne h1]; exact hE.1 r h1 h2
    · simp [upm]; exact b1
    · simp [upm]
    · simp [upm]; exact b4
    · simp [upm]; exact b4
    · simp [upm]; exact b5
    · rw [upm_ne (by decide), upm_ne (by decide)]; exact b6 j
    · simp at hj
theorem Tb_len3 {O : Type} {X : vjX} {kp : O → Prop} {cc : ByteArray} {own : String} {ret : Option FieldType} {Rm : Room} {a b pc : Nat} {L : List (Nat × Value)} {st : List Value} {u : SB3} {cy : Nat → ClassId} {ad : Nat → Nat} {E : Nat → Nat → Nat} {G : va_G} {A : Nat → Prop} {nL : Nat} {Q : State → Prop} {rr : Option O} (C : Cx X (Y3 cy ad E G A nL Q) cc own ret Rm (tyc cy)) (hn : 0 ≤ u.1 390 9) (d : decode cc pc = .ok (.arraylength, 1)) (K : T X (Y3 cy ad E G A nL Q) kp a b (pc + 1) L (vi (u.1 390 9) :: st) u rr) : T X (Y3 cy ad E G A nL Q) kp a b pc L (.ref (u.1 390 0).toNat :: st) u rr := fun o h hk H locs ls hP hD hS hw hl => by
  refine va_alen (q0 := 391) (t0 := 7) C.1 C.2.1 C.2.2.2.2.2.1 hP wl3_391 (ty := .byte) rfl (v := Int32.ofInt (u.1 390 9)) ?_ d (K o h hk H locs ls hP hD hS hw hl)
  show Int32.ofNat (u.1 390 9).toNat = _
  rw [← ofInt_nat, Int.toNat_of_nonneg hn]
theorem Z3 {Z : vZ} {X : vjX} {cy : Nat → ClassId} {ad : Nat → Nat} {E : Nat → Nat → Nat} {G : va_G} {A : Nat → Prop} {nL : Nat} {Q : State → Prop} (h : Zx Z X (Yc cy ad E G A nL Q)) : Zx Z X (Y3 cy ad E G A nL Q) := h
abbrev rb_J7_copyOf_9075b : Room := ⟨1, 1, 202, 21⟩
theorem cmb_J7_copyOf_9075b : cmS yJ7_copyOf_9075b cJ7_copyOf_9075b 3 (some (.array .byte)) 2 := ⟨kb_29, kb_30, ⟨by decide +kernel, by decide +kernel, by decide +kernel⟩, kb_31⟩
theorem cb_J7_copyOf_9075b {Z : vZ} {cy : Nat → ClassId} {ad : Nat → Nat} {E : Nat → Nat → Nat} {G : va_G} {l : Launch} {σ : Sm} (zk : Zok Z) (z : Int) (k : Nat) (hz : z = (k : Int)) (h9 : 0 ≤ σ 390 9 ∧ σ 390 9 < z ∧ z ≤ 202) (hb : ∀ j, 0 ≤ σ 391 j ∧ σ 391 j < 128) (hw : wfc σ) : CbC Z l yJ7_copyOf_9075b cJ7_copyOf_9075b 3 (some (.array .byte)) rb_J7_copyOf_9075b cy ad E G [.ref (σ 390 0).toNat, vi z] σ k (fun j => if j < (σ 390 9).toNat then σ 391 j else 0) := by
  refine cbC_of (by decide +kernel) (Nat.le_of_ble_eq_true rfl) hw (fun X A Q hZ hX C => ?_)
  subst hX
  show T X _ _ 0 0 0 [(0, .ref (σ 390 0).toNat), (1, vi z)] [] σ _
  refine T_iload_n (pc := 0) C dJ7_copyOf_9075b_0 rfl 1 rfl ?_
  refine T_aload_n (pc := 1) C dJ7_copyOf_9075b_1 rfl 0 rfl ?_
  refine Tb_len (pc := 2) C (by omega) dJ7_copyOf_9075b_2 ?_
  refine T_icmp_ne_t (pc := 3) C 14 dJ7_copyOf_9075b_3 rfl (by unfold rng; omega) (by unfold rng; omega) (by omega) ?_
  refine T_iload_n (pc := 14) C dJ7_copyOf_9075b_14 rfl 1 rfl ?_
  refine T_newb (pc := 15) C k hz (by omega) kb_23 ⟨by decide, by show 0 + k ≤ 202; omega⟩ dJ7_copyOf_9075b_15 (fun q => ?_)
  have C := C3 C
  have hZ := Z3 hZ
  refine T_astore_n (pc := 17) (L' := [(2, .ref q), (0, .ref (σ 390 0).toNat), (1, vi z)]) C dJ7_copyOf_9075b_17 rfl (Nat.le_of_ble_eq_true rfl) rfl ?_
  refine T_aload_n (pc := 18) C dJ7_copyOf_9075b_18 rfl 1 rfl ?_
  refine T_iconst (pc := 19) C dJ7_copyOf_9075b_19 ?_
  refine T_aload_n (pc := 20) C dJ7_copyOf_9075b_20 rfl 0 rfl ?_
  refine T_iconst (pc := 21) C dJ7_copyOf_9075b_21 ?_
  refine T_aload_n (pc := 22) C dJ7_copyOf_9075b_22 rfl 1 rfl ?_
  refine Tb_len3 (pc := 23) C (by show 0 ≤ σ 390 9; omega) dJ7_copyOf_9075b_23 ?_
  refine T_iload_n (pc := 24) C dJ7_copyOf_9075b_24 rfl 2 rfl ?_
  refine T_czSc (pc := 25) zk hZ C [vi (σ 390 9), vi z] [vi 0, .ref q, vi 0, .ref (σ 390 0).toNat] (fun hw => cb_J9_min_7cf53 (σ := (σ, q, k, fun _ => 0)) (wf := fun u : SB3 => wfc u.1) zk (σ 390 9) z (σ 390 9) (by unfold rng; omega) (by unfold rng; omega) ⟨fun h => absurd h (by omega), fun _ => rfl⟩ hw) kb_24 cmb_J9_min_7cf53 rfl rfl (Nat.le_of_ble_eq_true rfl) ⟨by decide, by decide, by show 0 + k + 0 ≤ 202; omega⟩ (a' := 1) (b' := 0 + k) ⟨rfl, rfl⟩ dJ7_copyOf_9075b_25 (fun h5 => ?_)
  refine T_cpyb (pc := 28) C (σ 390 9).toNat (by omega) (by omega) (by omega) (by omega) hb kb_25 kb_26 kb_27 kb_28 ⟨by decide, by decide +kernel⟩ dJ7_copyOf_9075b_28 ?_
  refine T_aload_n (pc := 31) C dJ7_copyOf_9075b_31 rfl 0 rfl ?_
  exact T_bcret (pc := 32) () (fun h9 => h9) ⟨by decide, by show 0 + k ≤ 202; omega⟩ dJ7_copyOf_9075b_32
abbrev rb_J5_ensureCapacityInternal_d00df : Room := ⟨3, 1, 202, 69⟩
theorem cmb_J5_ensureCapacityInternal_d00df : cmB yJ5_ensureCapacityInternal_d00df cJ5_ensureCapacityInternal_d00df 3 none 1 := ⟨kb_34, kb_3, ⟨by decide +kernel, by decide +kernel, by decide +kernel⟩, kb_35⟩
theorem cb_J5_ensureCapacityInternal_d00df {Z : vZ} {cy : Nat → ClassId} {ad : Nat → Nat} {E : Nat → Nat → Nat} {G : va_G} {l : Launch} {σ : Sm} (zk : Zok Z) (zp : ZP Z) (q : Int) (h0 : 0 ≤ q ∧ q ≤ 100) (h1 : σ 390 1 = 0) (h9 : 0 ≤ σ 390 9 ∧ σ 390 9 ≤ 202) (hb : ∀ j, 0 ≤ σ 391 j ∧ σ 391 j < 128) (hw : wfc σ) : CbV Z l yJ5_ensureCapacityInternal_d00df cJ5_ensureCapacityInternal_d00df 3 rb_J5_ensureCapacityInternal_d00df cy ad E G [.ref (ad 390), vi q] σ (En σ q) := by
  refine cbV_of (by decide +kernel) (Nat.le_of_ble_eq_true rfl) hw (fun X A Q hZ hX C => ?_)
  subst hX
  show T X _ _ 0 0 0 [(0, .ref (ad 390)), (1, vi q)] [] σ _
  refine T_aload_n (pc := 0) C dJ5_ensureCapacityInternal_d00df_0 rfl 0 rfl ?_
  refine Tb_get (pc := 1) C 0 (v := .ref (σ 390 0).toNat) (by decide) rfl inJ4 kb_15 dJ5_ensureCapacityInternal_d00df_1 ?_
  refine Tb_len (pc := 4) C (by omega) dJ5_ensureCapacityInternal_d00df_4 ?_
  refine T_aload_n (pc := 5) C dJ5_ensureCapacityInternal_d00df_5 rfl 0 rfl ?_
  refine Tb_get (pc := 6) C 1 (v := vi 0) (by decide) (by rw [h1]; rfl) inJ4 kb_1 dJ5_ensureCapacityInternal_d00df_6 ?_
  refine T_ishr0 (pc := 9) C (by unfold rng; omega) (by omega) dJ5_ensureCapacityInternal_d00df_9 ?_
  refine T_istore_n (pc := 10) (L' := [(2, vi (σ 390 9)), (0, .ref (ad 390)), (1, vi q)]) C dJ5_ensureCapacityInternal_d00df_10 rfl (Nat.le_of_ble_eq_true rfl) rfl ?_
  refine T_iload_n (pc := 11) C dJ5_ensureCapacityInternal_d00df_11 rfl 2 rfl ?_
  refine T_iload_n (pc := 12) C dJ5_ensureCapacityInternal_d00df_12 rfl 0 rfl ?_
  refine T_isub (pc := 13) C dJ5_ensureCapacityInternal_d00df_13 ?_
  by_cases hq : q ≤ σ 390 9
  · refine T_if_le_t (pc := 14) C 38 dJ5_ensureCapacityInternal_d00df_14 rfl (by unfold rng; omega) (by omega) ?_
    exact T_bvret (pc := 38) () (fun h9 => h9) ⟨offB.refl σ, ⟨rfl, rfl, rfl⟩, ⟨hq, Int.le_refl _, h9.2⟩, hb, fun _ _ => rfl⟩ (by decide) dJ5_ensureCapacityInternal_d00df_38
  · obtain ⟨u, hu⟩ : ∃ u : Int, (q - σ 390 9 < σ 390 9 + 2 → u = σ 390 9 + 2) ∧ (¬ q - σ 390 9 < σ 390 9 + 2 → u = q - σ 390 9) := ⟨if q - σ 390 9 < σ 390 9 + 2 then σ 390 9 + 2 else q - σ 390 9, fun h => if_pos h, fun h => if_neg h⟩
    have hu2 : q ≤ σ 390 9 + u ∧ σ 390 9 < σ 390 9 + u ∧ σ 390 9 + u ≤ 202 := by omega
    refine T_if_le_f (pc := 14) C 38 dJ5_ensureCapacityInternal_d00df_14 rfl (by unfold rng; omega) (by omega) ?_
    refine T_aload_n (pc := 17) C dJ5_ensureCapacityInternal_d00df_17 rfl 1 rfl ?_
    refine T_aload_n (pc := 18) C dJ5_ensureCapacityInternal_d00df_18 rfl 1 rfl ?_
    refine Tb_get (pc := 19) C 0 (v := .ref (σ 390 0).toNat) (by decide) rfl inJ4 kb_15 dJ5_ensureCapacityInternal_d00df_19 ?_
    refine T_aload_n (pc := 22) C dJ5_ensureCapacityInternal_d00df_22 rfl 1 rfl ?_
    refine T_iload_n (pc := 23) C dJ5_ensureCapacityInternal_d00df_23 rfl 2 rfl ?_
    refine T_bI (pc := 24) zk hZ C [vi q] [.ref (σ 390 0).toNat, .ref (ad 390)] (runBV C [vi q] [.ref (σ 390 0).toNat, .ref (ad 390)] kb_32 cmb_J5_newCapacity_0f7a4 (va_Nw.use rfl (zp _ _ _ hZ).2) rfl rfl (Nat.le_of_ble_eq_true rfl) (by decide) dJ5_ensureCapacityInternal_d00df_24) (fun hw => cb_J5_newCapacity_0f7a4 zk q u h1 (by omega) hu hw) (a' := 0) (b' := 0) ⟨rfl, rfl⟩ (fun h5 => ?_)
    refine T_aload_n (pc := 27) C dJ5_ensureCapacityInternal_d00df_27 rfl 1 rfl ?_
    refine Tb_get (pc := 28) C 1 (v := vi 0) (by decide) (by rw [h1]; rfl) inJ4 kb_1 dJ5_ensureCapacityInternal_d00df_28 ?_
    refine T_ishl0 (pc := 31) C dJ5_ensureCapacityInternal_d00df_31 ?_
    refine T_bC (pc := 32) zk hZ C [.ref (σ 390 0).toNat, vi (σ 390 9 + u)] [.ref (ad 390)] (fun hw => cb_J7_copyOf_9075b zk (σ 390 9 + u) (σ 390 9 + u).toNat (by omega) (by omega) hb hw) kb_33 cmb_J7_copyOf_9075b rfl rfl (Nat.le_of_ble_eq_true rfl) (by decide) (a' := 1) (b' := 202) ⟨rfl, rfl⟩ dJ5_ensureCapacityInternal_d00df_32 (fun q9 => ?_)
    have C3 := C3 C
    refine T_put0 (pc := 35) C3 inJ4 kb_15 (fun j => by split; exact hb j; omega) dJ5_ensureCapacityInternal_d00df_35 ?_
    refine T_bvret (pc := 38) () (fun h9 => h9) ⟨fun r h2 h3 => ?_, ⟨by simp [nb], by simp [nb], by simp [nb]⟩, ⟨?_, ?_, ?_⟩, fun j => ?_, fun j hj => ?_⟩ (by decide) dJ5_ensureCapacityInternal_d00df_38
    · funext i; simp [nb, h2, h3]
    · simp [nb]; omega
    · simp [nb]; omega
    · simp [nb]; omega
    · simp only [nb, if_neg (by decide : ¬ (391 : Nat) = 390), if_true]; split; exact hb j; omega
    · simp only [nb, if_neg (by decide : ¬ (391 : Nat) = 390), if_true]; rw [if_pos (by omega)]
abbrev rb_J5_append_3fe6f : Room := ⟨4, 1, 202, 91⟩
theorem cmb_J5_append_3fe6f : cmB yJ5_append_3fe6f cJ5_append_3fe6f 2 (some (.object "java/lang/AbstractStringBuilder")) 1 := ⟨kb_36, kb_3, ⟨by decide +kernel, by decide +kernel, by decide +kernel⟩, kb_53⟩
theorem cb_J5_append_3fe6f {Z : vZ} {cy : Nat → ClassId} {ad : Nat → Nat} {E : Nat → Nat → Nat} {G : va_G} {l : Launch} {σ : Sm} (zk : Zok Z) (zs : ZS Z E) (zp : ZP Z) (t : List Int) (hB : BI σ t) (c : Int) (hc : 0 ≤ c ∧ c < 128) (hl : t.length + 1 ≤ 100) (hw : wfc σ) : CbQ Z l yJ5_append_3fe6f cJ5_append_3fe6f 2 (some (.object "java/lang/AbstractStringBuilder")) rb_J5_append_3fe6f cy ad E G [.ref (ad 390), vi c] σ (Bd σ (t ++ [c])) := by
  refine cbQ_of (by decide +kernel) (Nat.le_of_ble_eq_true rfl) hw (fun X A Q hZ hX C => ?_)
  subst hX
  show T X _ _ 0 0 0 [(0, .ref (ad 390)), (1, vi c)] [] σ _
  refine T_aload_n (pc := 0) C dJ5_append_3fe6f_0 rfl 0 rfl ?_
  refine T_aload_n (pc := 1) C dJ5_append_3fe6f_1 rfl 0 rfl ?_
  refine Tb_get (pc := 2) C 3 (v := vi (t.length : Int)) (by decide) (by rw [hB.2.1]; rfl) inJ4 kb_48 dJ5_append_3fe6f_2 ?_
  refine T_iconst (pc := 5) C dJ5_append_3fe6f_5 ?_
  refine T_iadd (pc := 6) C dJ5_append_3fe6f_6 ?_
  refine T_bV (pc := 7) zk hZ C [vi ((t.length : Int) + 1)] [] (runBV C [vi ((t.length : Int) + 1)] [] kb_49 cmb_J5_ensureCapacityInternal_d00df (va_Nw.use rfl (zp _ _ _ hZ).1) rfl rfl (Nat.le_of_ble_eq_true rfl) (by decide) dJ5_append_3fe6f_7) (fun hw => cb_J5_ensureCapacityInternal_d00df zk zp ((t.length : Int) + 1) (by omega) hB.1 (by have := hB.2.2; omega) hB.2.2.2.2.2.1 hw) (a' := 1) (b' := 202) ⟨rfl, rfl⟩ (fun τ hE => ?_)
  have hT := En_BI hB hE
  refine T_aload_n (pc := 10) C dJ5_append_3fe6f_10 rfl 0 rfl ?_
  refine T_bI (pc := 11) zk hZ C [] [] (runBV C [] [] kb_51 cmb_J5_isLatin1_aae02 (C.2.2.2.2.1 _ kb_50) rfl rfl (Nat.le_of_ble_eq_true rfl) (by decide) dJ5_append_3fe6f_11) (fun hw => cb_J5_isLatin1_aae02 zk zs hT.1 hw) (a' := 1) (b' := 202) ⟨rfl, rfl⟩ (fun h5 => ?_)
  refine T_if_eq_f (pc := 14) C 45 dJ5_append_3fe6f_14 rfl (rngL rfl) (by decide) ?_
  refine T_iload_n (pc := 17) C dJ5_append_3fe6f_17 rfl 1 rfl ?_
  refine T_czSc (pc := 18) zk hZ C [vi c] [] (fun hw => cb_J1_canEncode_fc78d zk c hc hw) kb_52 cmb_J1_canEncode_fc78d rfl rfl (Nat.le_of_ble_eq_true rfl) (by decide) (a' := 1) (b' := 202) ⟨rfl, rfl⟩ dJ5_append_3fe6f_18 (fun h5 => ?_)
  refine T_if_eq_f (pc := 21) C 45 dJ5_append_3fe6f_21 rfl (rngL rfl) (by decide) ?_
  refine T_aload_n (pc := 24) C dJ5_append_3fe6f_24 rfl 0 rfl ?_
  refine Tb_get (pc := 25) C 0 (v := .ref (τ 390 0).toNat) (by decide) rfl inJ4 kb_15 dJ5_append_3fe6f_25 ?_
  refine T_aload_n (pc := 28) C dJ5_append_3fe6f_28 rfl 0 rfl ?_
  refine T_dup (pc := 29) C dJ5_append_3fe6f_29 rfl ?_
  refine Tb_get (pc := 30) C 3 (v := vi (t.length : Int)) (by decide) (by rw [hT.2.1]; rfl) inJ4 kb_48 dJ5_append_3fe6f_30 ?_
  refine T_dup_x1 (pc := 33) C dJ5_append_3fe6f_33 rfl rfl ?_
  refine T_iconst (pc := 34) C dJ5_append_3fe6f_34 ?_
  refine T_iadd (pc := 35) C dJ5_append_3fe6f_35 ?_
  refine Tb_put (pc := 36) C (ty := .int) 3 (by decide) inJ4 rfl kb_48 (by decide +kernel) rfl rfl dJ5_append_3fe6f_36 ?_
  refine T_iload_n (pc := 39) C dJ5_append_3fe6f_39 rfl 1 rfl ?_
  refine T_i2b (pc := 40) C hc dJ5_append_3fe6f_40 ?_
  refine Tb_ast (pc := 41) (σ := upm τ 390 3 ((t.length : Int) + 1)) C t.length (by have := hE.2.2.1; simp [upm]; omega) (by have := hE.2.2.1; simp [upm]; omega) (by omega) hc dJ5_append_3fe6f_41 ?_
  refine T_goto (pc := 42) C 75 dJ5_append_3fe6f_42 rfl ?_
  refine T_aload_n (pc := 75) C dJ5_append_3fe6f_75 rfl 0 rfl ?_
  exact T_bqret (pc := 76) () (fun h9 => h9) (Bd_push hB hE (Int.le_refl _) hc) (by decide) dJ5_append_3fe6f_76
theorem ss_loop {S O : Type} {X : vjX} {Y : vjY S} {kp : O → Prop} {own : String} {ret : Option FieldType} {Rm : Room} {tys : List (ClassId × FieldType)} {a b : Nat} {σ : S} {r : Option O} (C : Cx X Y cJ6_stringSize_0f7a4 own ret Rm tys) (hnL : Y.2.2.2.2.1 = 4) (v : Nat) (hv : v < 2147483648) (Kend : ∀ (pc : Nat) (L : List (Nat × Value)), decode cJ6_stringSize_0f7a4 pc = .ok (.ireturn, 1) → T X Y kp a b pc L [vi ((dg v).length : Int)] σ r) : ∀ (k : Nat) (i p : Nat), i + k = 10 → 1 ≤ i → p = 10 ^ i → (i = 1 ∨ 10 ^ (i - 1) ≤ v) → T X Y kp a b 16 [(3, vi (i : Int)), (2, vi (-(p : Int))), (0, vi (-(v : Int))), (1, vi 0)] [] σ r := by
  intro k
  induction k with
  | zero =>
    intro i p hi h1 hp hlow
    have hi9 : i = 10 := by omega
    subst hi9
    have hlen : ((dg v).length : Int) = 10 + 0 := by
      have := dg_len 9 v (by omega) (Or.inr (hlow.elim (fun h => by omega) id))
      omega
    refine T_iload_n (pc := 16) C dJ6_stringSize_0f7a4_16 rfl 0 rfl ?_
    refine T_bipush (pc := 17) C dJ6_stringSize_0f7a4_17 (by decide) ?_
    refine T_icmp_ge_t (pc := 19) C 42 dJ6_stringSize_0f7a4_19 rfl (rngL rfl) (rngL rfl) (by omega) ?_
    refine T_bipush (pc := 42) C dJ6_stringSize_0f7a4_42 (by decide) ?_
    refine T_iload_n (pc := 44) C dJ6_stringSize_0f7a4_44 rfl 3 rfl ?_
    refine T_iadd (pc := 45) C dJ6_stringSize_0f7a4_45 ?_
    rw [← hlen]
    exact Kend 46 _ dJ6_stringSize_0f7a4_46
  | succ k ih =>
    intro i p hi h1 hp hlow
    have hi9 : i ≤ 9 := by omega
    have hp1 : 10 ≤ p ∧ p ≤ 1000000000 := by
      have h2 : i = 1 ∨ i = 2 ∨ i = 3 ∨ i = 4 ∨ i = 5 ∨ i = 6 ∨ i = 7 ∨ i = 8 ∨ i = 9 := by omega
      rcases h2 with rfl | rfl | rfl | rfl | rfl | rfl | rfl | rfl | rfl <;> (subst hp; decide)
    refine T_iload_n (pc := 16) C dJ6_stringSize_0f7a4_16 rfl 0 rfl ?_
    refine T_bipush (pc := 17) C dJ6_stringSize_0f7a4_17 (by decide) ?_
    refine T_icmp_ge_f (pc := 19) C 42 dJ6_stringSize_0f7a4_19 rfl (by unfold rng; omega) (rngL rfl) (by omega) ?_
    refine T_iload_n (pc := 22) C dJ6_stringSize_0f7a4_22 rfl 2 rfl ?_
    refine T_iload_n (pc := 23) C dJ6_stringSize_0f7a4_23 rfl 1 rfl ?_
    by_cases hc : v < p
    · refine T_icmp_le_f (pc := 24) C 31 dJ6_stringSize_0f7a4_24 rfl (by unfold rng; omega) (by unfold rng; omega) (by omega) ?_
      refine T_iload_n (pc := 27) C dJ6_stringSize_0f7a4_27 rfl 0 rfl ?_
      refine T_iload_n (pc := 28) C dJ6_stringSize_0f7a4_28 rfl 3 rfl ?_
      refine T_iadd (pc := 29) C dJ6_stringSize_0f7a4_29 ?_
      have hlen : ((dg v).length : Int) = (i : Int) + 0 := by
        have := dg_len (i - 1) v (by rw [show i - 1 + 1 = i by omega, ← hp]; exact hc) (hlow.elim (fun h => Or.inl (by omega)) Or.inr)
        omega
      rw [← hlen]
      exact Kend 30 _ dJ6_stringSize_0f7a4_30
    · refine T_icmp_le_t (pc := 24) C 31 dJ6_stringSize_0f7a4_24 rfl (by unfold rng; omega) (by unfold rng; omega) (by omega) ?_
      refine T_bipush (pc := 31) C dJ6_stringSize_0f7a4_31 (by decide) ?_
      refine T_iload_n (pc := 33) C dJ6_stringSize_0f7a4_33 rfl 1 rfl ?_
      refine T_imul (pc := 34) C dJ6_stringSize_0f7a4_34 ?_
      refine T_istore_n (pc := 35) (L' := [(2, vi (10 * (-(p : Int)))), (3, vi (i : Int)), (0, vi (-(v : Int))), (1, vi 0)]) C dJ6_stringSize_0f7a4_35 rfl (by rw [hnL]; decide) rfl ?_
      refine T_iinc (pc := 36) (L' := [(3, vi ((i : Int) + 1)), (2, vi (10 * (-(p : Int)))), (0, vi (-(v : Int))), (1, vi 0)]) C dJ6_stringSize_0f7a4_36 (by rw [hnL]; decide) 1 rfl rfl ?_
      refine T_goto (pc := 39) C 16 dJ6_stringSize_0f7a4_39 rfl ?_
      have e1 : (10 : Int) * -(p : Int) = -((p * 10 : Nat) : Int) := by omega
      have e2 : (i : Int) + 1 = ((i + 1 : Nat) : Int) := by omega
      rw [e1, e2]
      refine T_sub (L' := [(3, vi ((i + 1 : Nat) : Int)), (2, vi (-((p * 10 : Nat) : Int))), (0, vi (-(v : Int))), (1, vi 0)]) [0, 1, 2, 3] rfl ?_
      exact ih (i + 1) (p * 10) (by omega) (by omega) (by rw [hp, Nat.pow_succ]) (Or.inr (by show 10 ^ (i + 1 - 1) ≤ v; rw [show i + 1 - 1 = i by omega, ← hp]; omega))
abbrev rb_J6_stringSize_0f7a4 : Room := ⟨0, 0, 0, 0⟩
theorem cmb_J6_stringSize_0f7a4 : cmS yJ6_stringSize_0f7a4 cJ6_stringSize_0f7a4 4 (some .int) 1 := ⟨kb_41, kb_54, ⟨by decide +kernel, by decide +kernel, by decide +kernel⟩, kb_55⟩
theorem cb_J6_stringSize_0f7a4 {S : Type} {Z : vZ} {wl : S → va_W} {wf : S → Prop} {G : va_G} {tys : List (ClassId × FieldType)} {l : Launch} {σ : S} (zk : Zok Z) (v : Nat) (hv : v < 2147483648) (hw : wf σ) : CzI Z l yJ6_stringSize_0f7a4 cJ6_stringSize_0f7a4 4 (some .int) rb_J6_stringSize_0f7a4 wl wf G tys [vi (v : Int)] σ σ ((dg v).length : Int) := by
  have h10 := dg_len10 (n := v) (by omega)
  refine czI_of zk (by decide +kernel) (Nat.le_of_ble_eq_true rfl) hw (σ, ((dg v).length : Int)) (r := some (((dg v).length : Int))) (((dg v).length : Int)) rfl (fun X Y w9 => EndI X Y cJ6_stringSize_0f7a4 rb_J6_stringSize_0f7a4 .int (σ, w9)) (fun _ _ h => h) (fun X A Q hZ hX C => ?_)
  show T X _ _ 0 0 0 [(0, vi (v : Int))] [] σ (some ((dg v).length : Int))
  refine T_iconst (pc := 0) C dJ6_stringSize_0f7a4_0 ?_
  refine T_istore_n (pc := 1) (L' := [(1, vi 1), (0, vi (v : Int))]) C dJ6_stringSize_0f7a4_1 rfl (Nat.le_of_ble_eq_true rfl) rfl ?_
  refine T_iload_n (pc := 2) C dJ6_stringSize_0f7a4_2 rfl 1 rfl ?_
  refine T_if_lt_f (pc := 3) C 11 dJ6_stringSize_0f7a4_3 rfl (by unfold rng; omega) (by omega) ?_
  refine T_iconst (pc := 6) C dJ6_stringSize_0f7a4_6 ?_
  refine T_istore_n (pc := 7) (L' := [(1, vi 0), (0, vi (v : Int))]) C dJ6_stringSize_0f7a4_7 rfl (Nat.le_of_ble_eq_true rfl) rfl ?_
  refine T_iload_n (pc := 8) C dJ6_stringSize_0f7a4_8 rfl 1 rfl ?_
  refine T_ineg (pc := 9) C dJ6_stringSize_0f7a4_9 ?_
  refine T_istore_n (pc := 10) (L' := [(0, vi (-(v : Int))), (1, vi 0)]) C dJ6_stringSize_0f7a4_10 rfl (Nat.le_of_ble_eq_true rfl) rfl ?_
  refine T_bipush (pc := 11) C dJ6_stringSize_0f7a4_11 (by decide) ?_
  refine T_istore_n (pc := 13) (L' := [(2, vi (-10)), (0, vi (-(v : Int))), (1, vi 0)]) C dJ6_stringSize_0f7a4_13 rfl (Nat.le_of_ble_eq_true rfl) rfl ?_
  refine T_iconst (pc := 14) C dJ6_stringSize_0f7a4_14 ?_
  refine T_istore_n (pc := 15) (L' := [(3, vi 1), (2, vi (-10)), (0, vi (-(v : Int))), (1, vi 0)]) C dJ6_stringSize_0f7a4_15 rfl (Nat.le_of_ble_eq_true rfl) rfl ?_
  refine T_sub (L' := [(3, vi ((1 : Nat) : Int)), (2, vi (-((10 : Nat) : Int))), (0, vi (-(v : Int))), (1, vi 0)]) [0, 1, 2, 3] rfl ?_
  refine ss_loop C rfl v hv (fun pc L d => ?_) 9 1 10 (by omega) (by omega) (by omega) (Or.inl rfl)
  exact T_iret (pc := pc) _ (fun h9 => h9) (by unfold rng; omega) (nar_I _) (by decide) d
theorem gcS_lt {σ : Sm} {p v : Nat} (h : v < 10) (hp : 1 ≤ p) : gcS σ p v = upm σ 391 (p - 1) (48 + (v : Int)) := by
  funext r j
  unfold gcS upm
  rw [dg_lt h]
  by_cases hr : r = 391
  · by_cases hj : j = p - 1
    · subst hj
      rw [if_pos ⟨hr, by simp, by omega⟩, if_pos ⟨hr, rfl⟩]
      simp
    · rw [if_neg (fun q => hj (by have := q.2; simp at this; omega)), if_neg (fun q => hj q.2)]
  · rw [if_neg (fun q => hr q.1), if_neg (fun q => hr q.1)]
theorem gcS_two {σ : Sm} {p v : Nat} (h : 10 ≤ v ∧ v < 100) (hp : 2 ≤ p) : gcS σ p v = upm (upm σ 391 (p - 1) (48 + (v : Int) % 10)) 391 (p - 2) (48 + (v : Int) / 10) := by
  have e : dg v = [48 + ((v / 10 : Nat) : Int), 48 + ((v % 10 : Nat) : Int)] := by rw [dg_ge (by omega), dg_lt (by omega)]; rfl
  funext r j
  unfold gcS upm
  rw [e]
  by_cases hr : r = 391
  · by_cases h1 : j = p - 2
    · subst h1
      rw [if_pos ⟨hr, by simp, by omega⟩, if_pos ⟨hr, rfl⟩]
      simp
    · rw [if_neg (fun q : r = 391 ∧ j = p - 2 => h1 q.2)]
      by_cases h2 : j = p - 1
      · subst h2
        rw [if_pos ⟨hr, by simp; omega, by omega⟩, if_pos ⟨hr, rfl⟩]
        have : p - 1 - (p - [48 + ((v / 10 : Nat) : Int), 48 + ((v % 10 : Nat) : Int)].length) = 1 := by simp; omega
        rw [this]
        simp
      · rw [if_neg (fun q => h1 (by have := q.2; simp at this; omega)), if_neg (fun q => h2 q.2)]
  · rw [if_neg (fun q => hr q.1), if_neg (fun q => hr q.1), if_neg (fun q => hr q.1)]
theorem dg_two {v : Nat} (h : 100 ≤ v) : dg v = dg (v / 100) ++ [48 + ((v % 100 / 10 : Nat) : Int), 48 + ((v % 10 : Nat) : Int)] := by
  rw [dg_ge (by omega), dg_ge (n := v / 10) (by omega), List.append_assoc]
  have e1 : v / 10 / 10 = v / 100 := by omega
  have e2 : v / 10 % 10 = v % 100 / 10 := by omega
  rw [e1, e2]
  rfl
theorem gcS_ge {σ : Sm} {p v : Nat} (h : 100 ≤ v) (hp : (dg v).length ≤ p) : gcS σ p v = gcS (upm (upm σ 391 (p - 1) (48 + (v : Int) % 10)) 391 (p - 2) (48 + (v : Int) % 100 / 10)) (p - 2) (v / 100) := by
  have hl : (dg v).length = (dg (v / 100)).length + 2 := by rw [dg_two h, List.length_append]; rfl
  funext r j
  unfold gcS
  by_cases hr : r = 391
  · subst hr
    by_cases h1 : p - (dg v).length ≤ j ∧ j < p
    · rw [if_pos ⟨rfl, h1⟩]
      by_cases h2 : j < p - 2
      · rw [if_pos ⟨rfl, by omega, h2⟩, dg_two h, getD_app_lt (by rw [← dg_two h]; omega), ← dg_two h]
        congr 1
        omega
      · rw [if_neg (fun q => h2 q.2.2), dg_two h, getD_app_ge (by rw [← dg_two h]; omega), ← dg_two h]
        by_cases h3 : j = p - 2
        · subst h3
          have : p - 2 - (p - (dg v).length) - (dg (v / 100)).length = 0 := by omega
          rw [this]
          simp [upm]
        · have h4 : j = p - 1 := by omega
          subst h4
          have : p - 1 - (p - (dg v).length) - (dg (v / 100)).length = 1 := by omega
          rw [this]
          have h5 : ¬ p - 1 = p - 2 := by omega
          simp [upm, h5]
    · rw [if_neg (fun q => h1 q.2), if_neg (fun q => h1 (by have := q.2; omega))]
      have h3 : ¬ j = p - 2 := by omega
      have h4 : ¬ j = p - 1 := by omega
      simp [upm, h3, h4]
  · rw [if_neg (fun q => hr q.1), if_neg (fun q => hr q.1), upm_ne hr, upm_ne hr]
theorem gc_loop {O : Type} {Z : vZ} {X : vjX} {kp : O → Prop} {ret : Option FieldType} {Rm : Room} {a b : Nat} {cy : Nat → ClassId} {ad : Nat → Nat} {E : Nat → Nat → Nat} {G : va_G} {A : Nat → Prop} {Q : State → Prop} {r : Option O} (zd : ZD Z E) (hZ : Zx Z X (Yc cy ad E G A 7 Q)) (C : Cx X (Yc cy ad E G A 7 Q) cJ6_getChars_ba4f3 RJ6 ret Rm (tyc cy)) : ∀ (f v p : Nat) (σ : Sm), v < f → v < 2147483648 → (dg v).length ≤ p → (p : Int) ≤ σ 390 9 → σ 390 9 ≤ 2147483647 → (T X (Yc cy ad E G A 7 Q) kp a b 104 [(5, vi ((p : Int) - (dg v).length)), (6, vi 0)] [] (gcS σ p v) r) → T X (Yc cy ad E G A 7 Q) kp a b 22 [(5, vi (p : Int)), (0, vi (-(v : Int))), (2, .ref (σ 390 0).toNat), (6, vi 0)] [] σ r := by
  intro f
  induction f with
  | zero => intro v p σ h; omega
  | succ f ih =>
    intro v p σ hf hv hp h9 h99 K
    have hpos := dg_pos v
    by_cases hc : v < 100
    · refine T_iload_n (pc := 22) C dJ6_getChars_ba4f3_22 rfl 1 rfl ?_
      refine T_bipush (pc := 23) C dJ6_getChars_ba4f3_23 (by decide) ?_
      refine T_icmp_gt_t (pc := 25) C 72 dJ6_getChars_ba4f3_25 rfl (by unfold rng; omega) (rngL rfl) (by omega) ?_
      refine T_aload_n (pc := 72) C dJ6_getChars_ba4f3_72 rfl 2 rfl ?_
      refine T_iinc (pc := 73) (L' := [(5, vi ((p : Int) + (-1))), (0, vi (-(v : Int))), (2, .ref (σ 390 0).toNat), (6, vi 0)]) C dJ6_getChars_ba4f3_73 (Nat.le_of_ble_eq_true rfl) 0 rfl rfl ?_
      refine T_iload (pc := 76) C dJ6_getChars_ba4f3_76 0 rfl ?_
      refine T_gdO (pc := 78) zd hZ C kb_56 dJ6_getChars_ba4f3_78 ?_
      refine T_iload_n (pc := 81) C dJ6_getChars_ba4f3_81 rfl 1 rfl ?_
      refine T_ineg (pc := 82) C dJ6_getChars_ba4f3_82 ?_
      refine T_dOld (pc := 83) zd hZ C (48 + (v : Int) % 10) (by omega) (by omega) dJ6_getChars_ba4f3_83 ?_
      refine Tb_ast (pc := 84) (σ := σ) C (p - 1) (by show 0 ≤ _ ∧ _ < σ 390 9; omega) (by show σ 390 9 ≤ _; omega) (by omega) (by omega) dJ6_getChars_ba4f3_84 ?_
      refine T_iload_n (pc := 85) C dJ6_getChars_ba4f3_85 rfl 1 rfl ?_
      refine T_bipush (pc := 86) C dJ6_getChars_ba4f3_86 (by decide) ?_
      by_cases h10 : v < 10
      · refine T_icmp_ge_t (pc := 88) C 104 dJ6_getChars_ba4f3_88 rfl (by unfold rng; omega) (rngL rfl) (by omega) ?_
        rw [gcS_lt h10 (by omega), dg_lt h10] at K
        have e3 : (48 : Int) + (v : Int) % 10 = 48 + (v : Int) := by omega
        rw [e3]
        have e4 : (p : Int) + (-1) = (p : Int) - (([48 + (v : Int)] : List Int).length : Nat) := by simp; omega
        rw [e4]
        exact T_sub [0, 3] rfl K
      · have e5 : dg v = [48 + ((v / 10 : Nat) : Int), 48 + ((v % 10 : Nat) : Int)] := by rw [dg_ge (by omega), dg_lt (by omega)]; rfl
        have hp2 : 2 ≤ p := by rw [e5] at hp; exact hp
        refine T_icmp_ge_f (pc := 88) C 104 dJ6_getChars_ba4f3_88 rfl (by unfold rng; omega) (rngL rfl) (by omega) ?_
        refine T_aload_n (pc := 91) C dJ6_getChars_ba4f3_91 rfl 2 rfl ?_
        refine T_iinc (pc := 92) (L' := [(5, vi (((p : Int) + (-1)) + (-1))), (0, vi (-(v : Int))), (2, .ref (σ 390 0).toNat), (6, vi 0)]) C dJ6_getChars_ba4f3_92 (Nat.le_of_ble_eq_true rfl) 0 rfl rfl ?_
        refine T_iload (pc := 95) C dJ6_getChars_ba4f3_95 0 rfl ?_
        refine T_gdT (pc := 97) zd hZ C kb_57 dJ6_getChars_ba4f3_97 ?_
        refine T_iload_n (pc := 100) C dJ6_getChars_ba4f3_100 rfl 1 rfl ?_
        refine T_ineg (pc := 101) C dJ6_getChars_ba4f3_101 ?_
        refine T_dTld (pc := 102) zd hZ C (48 + (v : Int) / 10) (by omega) (by omega) dJ6_getChars_ba4f3_102 ?_
        refine Tb_ast (pc := 103) (σ := upm σ 391 (p - 1) (48 + (v : Int) % 10)) C (p - 2) (by show 0 ≤ _ ∧ _ < σ 390 9; omega) (by show σ 390 9 ≤ _; omega) (by omega) (by omega) dJ6_getChars_ba4f3_103 ?_
        rw [gcS_two ⟨by omega, hc⟩ hp2, e5] at K
        have e4 : (p : Int) + (-1) + (-1) = (p : Int) - (([48 + ((v / 10 : Nat) : Int), 48 + ((v % 10 : Nat) : Int)] : List Int).length : Nat) := by simp; omega
        rw [e4]
        exact T_sub [0, 3] rfl K
    · have hl2 : (dg v).length = (dg (v / 100)).length + 2 := by rw [dg_two (by omega), List.length_append]; rfl
      have hp0 := dg_pos (v / 100)
      refine T_iload_n (pc := 22) C dJ6_getChars_ba4f3_22 rfl 1 rfl ?_
      refine T_bipush (pc := 23) C dJ6_getChars_ba4f3_23 (by decide) ?_
      refine T_icmp_gt_f (pc := 25) C 72 dJ6_getChars_ba4f3_25 rfl (by unfold rng; omega) (rngL rfl) (by omega) ?_
      refine T_iload_n (pc := 28) C dJ6_getChars_ba4f3_28 rfl 1 rfl ?_
      refine T_bipush (pc := 29) C dJ6_getChars_ba4f3_29 (by decide) ?_
      refine T_idivN (pc := 31) C (by unfold rng; omega) (by omega) (rngL rfl) (by decide) dJ6_getChars_ba4f3_31 ?_
      refine T_istore_n (pc := 32) (L' := [(3, vi (-((v : Int) / 100))), (5, vi (p : Int)), (0, vi (-(v : Int))), (2, .ref (σ 390 0).toNat), (6, vi 0)]) C dJ6_getChars_ba4f3_32 rfl (Nat.le_of_ble_eq_true rfl) rfl ?_
      refine T_iload_n (pc := 33) C dJ6_getChars_ba4f3_33 rfl 0 rfl ?_
      refine T_bipush (pc := 34) C dJ6_getChars_ba4f3_34 (by decide) ?_
      refine T_imul (pc := 36) C dJ6_getChars_ba4f3_36 ?_
      refine T_iload_n (pc := 37) C dJ6_getChars_ba4f3_37 rfl 2 rfl ?_
      refine T_isub (pc := 38) C dJ6_getChars_ba4f3_38 ?_
      refine T_istore (pc := 39) (L' := [(4, vi (((-((v : Int) / 100)) * 100) - (-(v : Int)))), (3, vi (-((v : Int) / 100))), (5, vi (p : Int)), (0, vi (-(v : Int))), (2, .ref (σ 390 0).toNat), (6, vi 0)]) C dJ6_getChars_ba4f3_39 (Nat.le_of_ble_eq_true rfl) rfl ?_
      refine T_iload_n (pc := 41) C dJ6_getChars_ba4f3_41 rfl 1 rfl ?_
      refine T_istore_n (pc := 42) (L' := [(0, vi (-((v : Int) / 100))), (4, vi (((-((v : Int) / 100)) * 100) - (-(v : Int)))), (3, vi (-((v : Int) / 100))), (5, vi (p : Int)), (2, .ref (σ 390 0).toNat), (6, vi 0)]) C dJ6_getChars_ba4f3_42 rfl (Nat.le_of_ble_eq_true rfl) rfl ?_
      refine T_aload_n (pc := 43) C dJ6_getChars_ba4f3_43 rfl 4 rfl ?_
      refine T_iinc (pc := 44) (L' := [(5, vi ((p : Int) + (-1))), (0, vi (-((v : Int) / 100))), (4, vi (((-((v : Int) / 100)) * 100) - (-(v : Int)))), (3, vi (-((v : Int) / 100))), (2, .ref (σ 390 0).toNat), (6, vi 0)]) C dJ6_getChars_ba4f3_44 (Nat.le_of_ble_eq_true rfl) 3 rfl rfl ?_
      refine T_iload (pc := 47) C dJ6_getChars_ba4f3_47 0 rfl ?_
      refine T_gdO (pc := 49) zd hZ C kb_56 dJ6_getChars_ba4f3_49 ?_
      refine T_iload (pc := 52) C dJ6_getChars_ba4f3_52 2 rfl ?_
      refine T_dOld (pc := 54) zd hZ C (48 + (v : Int) % 10) (by omega) (by omega) dJ6_getChars_ba4f3_54 ?_
      refine Tb_ast (pc := 55) (σ := σ) C (p - 1) (by show 0 ≤ _ ∧ _ < σ 390 9; omega) (by show σ 390 9 ≤ _; omega) (by omega) (by omega) dJ6_getChars_ba4f3_55 ?_
      refine T_aload_n (pc := 56) C dJ6_getChars_ba4f3_56 rfl 4 rfl ?_
      refine T_iinc (pc := 57) (L' := [(5, vi (((p : Int) + (-1)) + (-1))), (0, vi (-((v : Int) / 100))), (4, vi (((-((v : Int) / 100)) * 100) - (-(v : Int)))), (3, vi (-((v : Int) / 100))), (2, .ref (σ 390 0).toNat), (6, vi 0)]) C dJ6_getChars_ba4f3_57 (Nat.le_of_ble_eq_true rfl) 0 rfl rfl ?_
      refine T_iload (pc := 60) C dJ6_getChars_ba4f3_60 0 rfl ?_
      refine T_gdT (pc := 62) zd hZ C kb_57 dJ6_getChars_ba4f3_62 ?_
      refine T_iload (pc := 65) C dJ6_getChars_ba4f3_65 2 rfl ?_
      refine T_dTld (pc := 67) zd hZ C (48 + (v : Int) % 100 / 10) (by omega) (by omega) dJ6_getChars_ba4f3_67 ?_
      refine Tb_ast (pc := 68) (σ := upm σ 391 (p - 1) (48 + (v : Int) % 10)) C (p - 2) (by show 0 ≤ _ ∧ _ < σ 390 9; omega) (by show σ 390 9 ≤ _; omega) (by omega) (by omega) dJ6_getChars_ba4f3_68 ?_
      refine T_goto (pc := 69) C 22 dJ6_getChars_ba4f3_69 rfl ?_
      have e1 : (p : Int) + (-1) + (-1) = ((p - 2 : Nat) : Int) := by omega
      have e2 : (v : Int) / 100 = ((v / 100 : Nat) : Int) := by omega
      rw [e1, e2]
      refine T_sub (L' := [(5, vi ((p - 2 : Nat) : Int)), (0, vi (-((v / 100 : Nat) : Int))), (2, .ref (σ 390 0).toNat), (6, vi 0)]) [0, 1, 4, 5] rfl ?_
      refine ih (v / 100) (p - 2) _ (by omega) (by omega) (by omega) (by show _ ≤ σ 390 9; omega) h99 ?_
      rw [← gcS_ge (by omega) hp]
      have e3 : ((p - 2 : Nat) : Int) - ((dg (v / 100)).length : Nat) = (p : Int) - ((dg v).length : Nat) := by omega
      rw [e3]
      exact K
abbrev rb_J6_getChars_ba4f3 : Room := ⟨0, 0, 0, 0⟩
theorem cmb_J6_getChars_ba4f3 : cmS yJ6_getChars_ba4f3 cJ6_getChars_ba4f3 7 (some .int) 3 := ⟨kb_42, kb_54, ⟨by decide +kernel, by decide +kernel, by decide +kernel⟩, kb_58⟩
theorem cb_J6_getChars_ba4f3 {Z : vZ} {cy : Nat → ClassId} {ad : Nat → Nat} {E : Nat → Nat → Nat} {G : va_G} {l : Launch} {σ : Sm} (zk : Zok Z) (zd : ZD Z E) (v p : Nat) (hv : v < 2147483648) (hp : (dg v).length ≤ p) (h9 : (p : Int) ≤ σ 390 9) (h99 : σ 390 9 ≤ 2147483647) (hw : wfc σ) : CzI Z l yJ6_getChars_ba4f3 cJ6_getChars_ba4f3 7 (some .int) rb_J6_getChars_ba4f3 (wlc cy ad E) wfc G (tyc cy) [vi (v : Int), vi (p : Int), .ref (σ 390 0).toNat] σ (gcS σ p v) ((p : Int) - (dg v).length) := by
  refine czI_of zk (by decide +kernel) (Nat.le_of_ble_eq_true rfl) hw ((gcS σ p v), ((p : Int) - (dg v).length)) (r := some (((p : Int) - (dg v).length))) (((p : Int) - (dg v).length)) rfl (fun X Y w9 => EndI X Y cJ6_getChars_ba4f3 rb_J6_getChars_ba4f3 .int ((gcS σ p v), w9)) (fun _ _ h => h) (fun X A Q hZ hX C => ?_)
  show T X _ _ 0 0 0 [(0, vi (v : Int)), (1, vi (p : Int)), (2, .ref (σ 390 0).toNat)] [] σ (some ((p : Int) - (dg v).length))
  refine T_iload_n (pc := 0) C dJ6_getChars_ba4f3_0 rfl 1 rfl ?_
  refine T_istore (pc := 1) (L' := [(5, vi (p : Int)), (0, vi (v : Int)), (1, vi (p : Int)), (2, .ref (σ 390 0).toNat)]) C dJ6_getChars_ba4f3_1 (Nat.le_of_ble_eq_true rfl) rfl ?_
  refine T_iload_n (pc := 3) C dJ6_getChars_ba4f3_3 rfl 1 rfl ?_
  refine T_if_ge_t (pc := 4) C 11 dJ6_getChars_ba4f3_4 rfl (by unfold rng; omega) (by omega) ?_
  refine T_iconst (pc := 11) C dJ6_getChars_ba4f3_11 ?_
  refine T_istore (pc := 12) (L' := [(6, vi 0), (5, vi (p : Int)), (0, vi (v : Int)), (1, vi (p : Int)), (2, .ref (σ 390 0).toNat)]) C dJ6_getChars_ba4f3_12 (Nat.le_of_ble_eq_true rfl) rfl ?_
  refine T_iload (pc := 14) C dJ6_getChars_ba4f3_14 0 rfl ?_
  refine T_if_ne_f (pc := 16) C 22 dJ6_getChars_ba4f3_16 rfl rng_0 (by decide) ?_
  refine T_iload_n (pc := 19) C dJ6_getChars_ba4f3_19 rfl 2 rfl ?_
  refine T_ineg (pc := 20) C dJ6_getChars_ba4f3_20 ?_
  refine T_istore_n (pc := 21) (L' := [(0, vi (-(v : Int))), (6, vi 0), (5, vi (p : Int)), (1, vi (p : Int)), (2, .ref (σ 390 0).toNat)]) C dJ6_getChars_ba4f3_21 rfl (Nat.le_of_ble_eq_true rfl) rfl ?_
  refine T_sub (L' := [(5, vi (p : Int)), (0, vi (-(v : Int))), (2, .ref (σ 390 0).toNat), (6, vi 0)]) [2, 0, 4, 1] rfl ?_
  refine gc_loop zd hZ C (v + 1) v p σ (by omega) hv hp h9 h99 ?_
  refine T_iload (pc := 104) C dJ6_getChars_ba4f3_104 1 rfl ?_
  refine T_if_eq_t (pc := 106) C 118 dJ6_getChars_ba4f3_106 rfl rng_0 rfl ?_
  refine T_iload (pc := 118) C dJ6_getChars_ba4f3_118 0 rfl ?_
  exact T_iret (pc := 120) _ (fun h9 => h9) (by unfold rng; omega) (nar_I _) (by decide) dJ6_getChars_ba4f3_120
theorem T_czSs {S O : Type} {Z : vZ} {X : vjX} {Y : vjY S} {kp : O → Prop} {cc : ByteArray} {own : String} {ret : Option FieldType} {Rm : Room} {tys : List (ClassId × FieldType)} {a b pc : Nat} {L : List (Nat × Value)} {st : List Value} {σ σ' : S} {r : Option O} {idx : Nat} {y : MethodName} {ccy : ByteArray} {maxL : Nat} {rety : Option FieldType} {rm : Room} {n : Nat} (zk : Zok Z) (hZ : Zx Z X Y) (C : Cx X Y cc own ret Rm tys) (As rest : List Value) {v : Int} (ct : Y.2.1 σ → CzI Z X.2.1 y ccy maxL rety rm Y.1 Y.2.1 Y.2.2.1 tys As σ σ' v) (hlink : Cond.methodLink own idx y ∈ lwG) (hm : cmS y ccy maxL rety n) (hn : As.length = n) (hst : st = As.reverse ++ rest) (hcat : (rest.map fun v => v.category).sum ≤ 8) (hR : rmFit rm Rm maxL a b) {a' b' : Nat} (hab : a + rm.cells = a' ∧ b + rm.slots = b')
    (d : decode cc pc = .ok (.invokestatic idx, 3)) (K : rng v ∧ nar rety v → T X Y kp a' b' (pc + 3) L (vi v :: rest) σ' r) : T X Y kp a b pc L st σ r := fun w h hk => J_czSi zk hZ C As rest (σ', v) ct hlink hm hn hst hcat hR hab d (fun hr => K hr w h hk)
abbrev rb_J5_append_c97b9 : Room := ⟨4, 1, 202, 91⟩
theorem cmb_J5_append_c97b9 : cmB yJ5_append_c97b9 cJ5_append_c97b9 4 (some (.object "java/lang/AbstractStringBuilder")) 1 := ⟨kb_37, kb_3, ⟨by decide +kernel, by decide +kernel, by decide +kernel⟩, kb_61⟩
theorem cb_J5_append_c97b9 {Z : vZ} {cy : Nat → ClassId} {ad : Nat → Nat} {E : Nat → Nat → Nat} {G : va_G} {l : Launch} {σ : Sm} (zk : Zok Z) (zs : ZS Z E) (zp : ZP Z) (zd : ZD Z E) (t : List Int) (hB : BI σ t) (v : Nat) (hv : v < 2147483648) (hl : t.length + (dg v).length ≤ 100) (hw : wfc σ) : CbQ Z l yJ5_append_c97b9 cJ5_append_c97b9 4 (some (.object "java/lang/AbstractStringBuilder")) rb_J5_append_c97b9 cy ad E G [.ref (ad 390), vi (v : Int)] σ (Bd σ (t ++ dg v)) := by
  refine cbQ_of (by decide +kernel) (Nat.le_of_ble_eq_true rfl) hw (fun X A Q hZ hX C => ?_)
  subst hX
  show T X _ _ 0 0 0 [(0, .ref (ad 390)), (1, vi (v : Int))] [] σ _
  refine T_aload_n (pc := 0) C dJ5_append_c97b9_0 rfl 0 rfl ?_
  refine Tb_get (pc := 1) C 3 (v := vi (t.length : Int)) (by decide) (by rw [hB.2.1]; rfl) inJ4 kb_48 dJ5_append_c97b9_1 ?_
  refine T_istore_n (pc := 4) (L' := [(2, vi (t.length : Int)), (0, .ref (ad 390)), (1, vi (v : Int))]) C dJ5_append_c97b9_4 rfl (Nat.le_of_ble_eq_true rfl) rfl ?_
  refine T_iload_n (pc := 5) C dJ5_append_c97b9_5 rfl 0 rfl ?_
  refine T_iload_n (pc := 6) C dJ5_append_c97b9_6 rfl 2 rfl ?_
  refine T_czSc (pc := 7) zk hZ C [vi (v : Int)] [vi (t.length : Int)] (fun hw => cb_J6_stringSize_0f7a4 zk v hv hw) kb_59 cmb_J6_stringSize_0f7a4 rfl rfl (Nat.le_of_ble_eq_true rfl) (by decide) (a' := 0) (b' := 0) ⟨rfl, rfl⟩ dJ5_append_c97b9_7 (fun h5 => ?_)
  refine T_iadd (pc := 10) C dJ5_append_c97b9_10 ?_
  refine T_istore_n (pc := 11) (L' := [(3, vi ((t.length : Int) + ((dg v).length : Int))), (2, vi (t.length : Int)), (0, .ref (ad 390)), (1, vi (v : Int))]) C dJ5_append_c97b9_11 rfl (Nat.le_of_ble_eq_true rfl) rfl ?_
  refine T_aload_n (pc := 12) C dJ5_append_c97b9_12 rfl 2 rfl ?_
  refine T_iload_n (pc := 13) C dJ5_append_c97b9_13 rfl 0 rfl ?_
  refine T_bV (pc := 14) zk hZ C [vi ((t.length : Int) + ((dg v).length : Int))] [] (runBV C [vi ((t.length : Int) + ((dg v).length : Int))] [] kb_49 cmb_J5_ensureCapacityInternal_d00df (va_Nw.use rfl (zp _ _ _ hZ).1) rfl rfl (Nat.le_of_ble_eq_true rfl) (by decide) dJ5_append_c97b9_14) (fun hw => cb_J5_ensureCapacityInternal_d00df zk zp ((t.length : Int) + ((dg v).length : Int)) (by omega) hB.1 (by have := hB.2.2; omega) hB.2.2.2.2.2.1 hw) (a' := 1) (b' := 202) ⟨rfl, rfl⟩ (fun τ hE => ?_)
  have hT := En_BI hB hE
  refine T_aload_n (pc := 17) C dJ5_append_c97b9_17 rfl 2 rfl ?_
  have hB5 := hE.2.2.1
  refine T_bI (pc := 18) zk hZ C [] [] (runBV C [] [] kb_51 cmb_J5_isLatin1_aae02 (C.2.2.2.2.1 _ kb_50) rfl rfl (Nat.le_of_ble_eq_true rfl) (by decide) dJ5_append_c97b9_18) (fun hw => cb_J5_isLatin1_aae02 zk zs hT.1 hw) (a' := 1) (b' := 202) ⟨rfl, rfl⟩ (fun h5 => ?_)
  refine T_if_eq_f (pc := 21) C 37 dJ5_append_c97b9_21 rfl (rngL rfl) (by decide) ?_
  refine T_iload_n (pc := 24) C dJ5_append_c97b9_24 rfl 3 rfl ?_
  refine T_iload_n (pc := 25) C dJ5_append_c97b9_25 rfl 0 rfl ?_
  refine T_aload_n (pc := 26) C dJ5_append_c97b9_26 rfl 2 rfl ?_
  refine Tb_get (pc := 27) C 0 (v := .ref (τ 390 0).toNat) (by decide) rfl inJ4 kb_15 dJ5_append_c97b9_27 ?_
  have e9 : ((t.length + (dg v).length : Nat) : Int) - ((dg v).length : Nat) = (t.length : Int) := by omega
  refine T_czSs (pc := 30) zk hZ C [vi (v : Int), vi ((t.length : Int) + ((dg v).length : Int)), .ref (τ 390 0).toNat] [] (σ' := gcS τ (t.length + (dg v).length) v) (v := (t.length : Int)) (fun hw => by have h := cb_J6_getChars_ba4f3 (l := X.2.1) (G := G) (cy := cy) (ad := ad) (E := E) zk zd v (t.length + (dg v).length) hv (by omega) (by omega) (by omega) hw; rw [e9] at h; exact h) kb_60 cmb_J6_getChars_ba4f3 rfl rfl (Nat.le_of_ble_eq_true rfl) (by decide) (a' := 1) (b' := 202) ⟨rfl, rfl⟩ dJ5_append_c97b9_30 (fun h5 => ?_)
  refine T_pop (pc := 33) C dJ5_append_c97b9_33 rfl ?_
  refine T_goto (pc := 34) C 48 dJ5_append_c97b9_34 rfl ?_
  refine T_aload_n (pc := 48) C dJ5_append_c97b9_48 rfl 2 rfl ?_
  refine T_iload_n (pc := 49) C dJ5_append_c97b9_49 rfl 0 rfl ?_
  refine Tb_put (pc := 50) C (ty := .int) 3 (by decide) inJ4 rfl kb_48 (by decide +kernel) rfl rfl dJ5_append_c97b9_50 ?_
  refine T_aload_n (pc := 53) C dJ5_append_c97b9_53 rfl 2 rfl ?_
  exact T_bqret (pc := 54) () (fun h9 => h9) (Bd_int hB hE (Int.le_refl _)) (by decide) dJ5_append_c97b9_54
abbrev rb_J5_setLength_d00df : Room := ⟨4, 1, 202, 91⟩
theorem cmb_J5_setLength_d00df : cmB yJ5_setLength_d00df cJ5_setLength_d00df 2 none 1 := ⟨kb_38, kb_3, ⟨by decide +kernel, by decide +kernel, by decide +kernel⟩, kb_63⟩
theorem cb_J5_setLength_d00df {Z : vZ} {cy : Nat → ClassId} {ad : Nat → Nat} {E : Nat → Nat → Nat} {G : va_G} {l : Launch} {σ : Sm} (zk : Zok Z) (zs : ZS Z E) (zp : ZP Z) (t : List Int) (hB : BI σ t) (hw : wfc σ) : CbV Z l yJ5_setLength_d00df cJ5_setLength_d00df 2 rb_J5_setLength_d00df cy ad E G [.ref (ad 390), vi 0] σ (Bd σ []) := by
  refine cbV_of (by decide +kernel) (Nat.le_of_ble_eq_true rfl) hw (fun X A Q hZ hX C => ?_)
  subst hX
  show T X _ _ 0 0 0 [(0, .ref (ad 390)), (1, vi 0)] [] σ _
  refine T_iload_n (pc := 0) C dJ5_setLength_d00df_0 rfl 1 rfl ?_
  refine T_if_ge_t (pc := 1) C 13 dJ5_setLength_d00df_1 rfl (rngL rfl) (by decide) ?_
  refine T_aload_n (pc := 13) C dJ5_setLength_d00df_13 rfl 0 rfl ?_
  refine T_iload_n (pc := 14) C dJ5_setLength_d00df_14 rfl 1 rfl ?_
  refine T_bV (pc := 15) zk hZ C [vi 0] [] (runBV C [vi 0] [] kb_49 cmb_J5_ensureCapacityInternal_d00df (va_Nw.use rfl (zp _ _ _ hZ).1) rfl rfl (Nat.le_of_ble_eq_true rfl) (by decide) dJ5_setLength_d00df_15) (fun hw => cb_J5_ensureCapacityInternal_d00df zk zp 0 (by omega) hB.1 (by have := hB.2.2; omega) hB.2.2.2.2.2.1 hw) (a' := 1) (b' := 202) ⟨rfl, rfl⟩ (fun τ hE => ?_)
  have hT := En_BI hB hE
  refine T_aload_n (pc := 18) C dJ5_setLength_d00df_18 rfl 0 rfl ?_
  refine Tb_get (pc := 19) C 3 (v := vi (t.length : Int)) (by decide) (by rw [hT.2.1]; rfl) inJ4 kb_48 dJ5_setLength_d00df_19 ?_
  refine T_iload_n (pc := 22) C dJ5_setLength_d00df_22 rfl 1 rfl ?_
  have hB5 := hE.2.2.1
  have hB6 := hT.2.2
  refine T_icmp_ge_t (pc := 23) C 63 dJ5_setLength_d00df_23 rfl (by unfold rng; omega) (rngL rfl) (by omega) ?_
  refine T_aload_n (pc := 63) C dJ5_setLength_d00df_63 rfl 0 rfl ?_
  refine Tb_get (pc := 64) C 3 (v := vi (t.length : Int)) (by decide) (by rw [hT.2.1]; rfl) inJ4 kb_48 dJ5_setLength_d00df_64 ?_
  refine T_iload_n (pc := 67) C dJ5_setLength_d00df_67 rfl 1 rfl ?_
  by_cases h0 : (t.length : Int) ≤ 0
  · refine T_icmp_le_t (pc := 68) C 76 dJ5_setLength_d00df_68 rfl (by unfold rng; omega) (rngL rfl) h0 ?_
    refine T_aload_n (pc := 76) C dJ5_setLength_d00df_76 rfl 0 rfl ?_
    refine T_iload_n (pc := 77) C dJ5_setLength_d00df_77 rfl 1 rfl ?_
    refine Tb_put (pc := 78) C (ty := .int) 3 (by decide) inJ4 rfl kb_48 (by decide +kernel) rfl rfl dJ5_setLength_d00df_78 ?_
    exact T_bvret (pc := 81) () (fun h9 => h9) (Bd_zero hB hE).1 (by decide) dJ5_setLength_d00df_81
  · refine T_icmp_le_f (pc := 68) C 76 dJ5_setLength_d00df_68 rfl (by unfold rng; omega) (rngL rfl) h0 ?_
    refine T_aload_n (pc := 71) C dJ5_setLength_d00df_71 rfl 0 rfl ?_
    refine T_iconst (pc := 72) C dJ5_setLength_d00df_72 ?_
    refine Tb_put (pc := 73) C (ty := .boolean) 2 (by decide) inJ4 rfl kb_62 (by decide +kernel) rfl rfl dJ5_setLength_d00df_73 ?_
    refine T_aload_n (pc := 76) C dJ5_setLength_d00df_76 rfl 0 rfl ?_
    refine T_iload_n (pc := 77) C dJ5_setLength_d00df_77 rfl 1 rfl ?_
    refine Tb_put (pc := 78) C (ty := .int) 3 (by decide) inJ4 rfl kb_48 (by decide +kernel) rfl rfl dJ5_setLength_d00df_78 ?_
    exact T_bvret (pc := 81) () (fun h9 => h9) (Bd_zero hB hE).2 (by decide) dJ5_setLength_d00df_81
abbrev rb_J5_length_8abf5 : Room := ⟨0, 0, 0, 0⟩
theorem cmb_J5_length_8abf5 : cmB yJ5_length_8abf5 cJ5_length_8abf5 1 (some .int) 0 := ⟨kb_39, kb_3, ⟨by decide +kernel, by decide +kernel, by decide +kernel⟩, kb_64⟩
theorem cb_J5_length_8abf5 {Z : vZ} {cy : Nat → ClassId} {ad : Nat → Nat} {E : Nat → Nat → Nat} {G : va_G} {l : Launch} {σ : Sm} (zk : Zok Z) (v : Int) (hv : σ 390 3 = v) (hr : rng v) (hw : wfc σ) : CzI Z l yJ5_length_8abf5 cJ5_length_8abf5 1 (some .int) rb_J5_length_8abf5 (wlc cy ad E) wfc G (tyc cy) [.ref (ad 390)] σ σ v := by
  refine czI_of zk (by decide +kernel) (Nat.le_of_ble_eq_true rfl) hw (σ, v) (r := some (v)) (v) rfl (fun X Y w9 => EndI X Y cJ5_length_8abf5 rb_J5_length_8abf5 .int (σ, w9)) (fun _ _ h => h) (fun X A Q hZ hX C => ?_)
  show T X _ _ 0 0 0 [(0, .ref (ad 390))] [] σ (some v)
  refine T_aload_n (pc := 0) C dJ5_length_8abf5_0 rfl 0 rfl ?_
  refine Tb_get (pc := 1) C 3 (v := vi v) (by decide) (by rw [hv]; rfl) inJ4 kb_48 dJ5_length_8abf5_1 ?_
  exact T_iret (pc := 4) _ (fun h9 => h9) hr (nar_I _) (by decide) dJ5_length_8abf5_4
abbrev rb_J5_charAt_5068e : Room := ⟨2, 0, 0, 51⟩
theorem cmb_J5_charAt_5068e : cmB yJ5_charAt_5068e cJ5_charAt_5068e 5 (some .char) 1 := ⟨kb_40, kb_3, ⟨by decide +kernel, by decide +kernel, by decide +kernel⟩, kb_67⟩
theorem cb_J5_charAt_5068e {Z : vZ} {cy : Nat → ClassId} {ad : Nat → Nat} {E : Nat → Nat → Nat} {G : va_G} {l : Launch} {σ : Sm} (zk : Zok Z) (zs : ZS Z E) (h1 : σ 390 1 = 0) (i : Int) (hi : 0 ≤ i ∧ i < σ 390 3) (h9 : σ 390 3 ≤ σ 390 9 ∧ σ 390 9 ≤ 202) (h8 : 0 ≤ σ 391 i.toNat ∧ σ 391 i.toNat < 128) (hw : wfc σ) : CzI Z l yJ5_charAt_5068e cJ5_charAt_5068e 5 (some .char) rb_J5_charAt_5068e (wlc cy ad E) wfc G (tyc cy) [.ref (ad 390), vi i] σ σ (σ 391 i.toNat) := by
  refine czI_of zk (by decide +kernel) (Nat.le_of_ble_eq_true rfl) hw (σ, (σ 391 i.toNat)) (r := some ((σ 391 i.toNat))) ((σ 391 i.toNat)) rfl (fun X Y w9 => EndI X Y cJ5_charAt_5068e rb_J5_charAt_5068e .char (σ, w9)) (fun _ _ h => h) (fun X A Q hZ hX C => ?_)
  show T X _ _ 0 0 0 [(0, .ref (ad 390)), (1, vi i)] [] σ (some (σ 391 i.toNat))
  refine T_aload_n (pc := 0) C dJ5_charAt_5068e_0 rfl 0 rfl ?_
  refine Tb_get (pc := 1) C 1 (v := vi 0) (by decide) (by rw [h1]; rfl) inJ4 kb_1 dJ5_charAt_5068e_1 ?_
  refine T_istore_n (pc := 4) (L' := [(2, vi 0), (0, .ref (ad 390)), (1, vi i)]) C dJ5_charAt_5068e_4 rfl (Nat.le_of_ble_eq_true rfl) rfl ?_
  refine T_aload_n (pc := 5) C dJ5_charAt_5068e_5 rfl 1 rfl ?_
  refine Tb_get (pc := 6) C 0 (v := .ref (σ 390 0).toNat) (by decide) rfl inJ4 kb_15 dJ5_charAt_5068e_6 ?_
  refine T_astore_n (pc := 9) (L' := [(3, .ref (σ 390 0).toNat), (2, vi 0), (0, .ref (ad 390)), (1, vi i)]) C dJ5_charAt_5068e_9 rfl (Nat.le_of_ble_eq_true rfl) rfl ?_
  refine T_aload_n (pc := 10) C dJ5_charAt_5068e_10 rfl 2 rfl ?_
  refine Tb_get (pc := 11) C 3 (v := vi (σ 390 3)) (by decide) rfl inJ4 kb_48 dJ5_charAt_5068e_11 ?_
  refine T_aload_n (pc := 14) C dJ5_charAt_5068e_14 rfl 0 rfl ?_
  refine Tb_len (pc := 15) C (by omega) dJ5_charAt_5068e_15 ?_
  refine T_iload_n (pc := 16) C dJ5_charAt_5068e_16 rfl 1 rfl ?_
  refine T_ishr0 (pc := 17) C (by unfold rng; omega) (by omega) dJ5_charAt_5068e_17 ?_
  refine T_czSc (pc := 18) zk hZ C [vi (σ 390 3), vi (σ 390 9)] [] (fun hw => cb_J9_min_7cf53 zk (σ 390 3) (σ 390 9) (σ 390 3) (by unfold rng; omega) (by unfold rng; omega) ⟨fun h => absurd h (by omega), fun _ => rfl⟩ hw) kb_65 cmb_J9_min_7cf53 rfl rfl (Nat.le_of_ble_eq_true rfl) (by decide) (a' := 0) (b' := 0) ⟨rfl, rfl⟩ dJ5_charAt_5068e_18 (fun h5 => ?_)
  refine T_istore (pc := 21) (L' := [(4, vi (σ 390 3)), (3, .ref (σ 390 0).toNat), (2, vi 0), (0, .ref (ad 390)), (1, vi i)]) C dJ5_charAt_5068e_21 (Nat.le_of_ble_eq_true rfl) rfl ?_
  refine T_iload_n (pc := 23) C dJ5_charAt_5068e_23 rfl 4 rfl ?_
  refine T_iload (pc := 24) C dJ5_charAt_5068e_24 0 rfl ?_
  refine T_czSvc (pc := 26) zk hZ C [vi i, vi (σ 390 3)] [] (fun hw => ct_J0_checkIndex_df160 zk zs i (σ 390 3) (by unfold rng; omega) (by omega) hw) kb_66 cm_J0_checkIndex_df160 rfl rfl (Nat.le_of_ble_eq_true rfl) (by decide) (a' := 0) (b' := 0) ⟨rfl, rfl⟩ dJ5_charAt_5068e_26 ?_
  refine T_iload_n (pc := 29) C dJ5_charAt_5068e_29 rfl 2 rfl ?_
  refine T_if_ne_f (pc := 30) C 42 dJ5_charAt_5068e_30 rfl (rngL rfl) (by decide) ?_
  refine T_aload_n (pc := 33) C dJ5_charAt_5068e_33 rfl 1 rfl ?_
  refine T_iload_n (pc := 34) C dJ5_charAt_5068e_34 rfl 4 rfl ?_
  refine Tb_ald (pc := 35) C i.toNat (by omega) (by omega) rfl dJ5_charAt_5068e_35 (fun hb => ?_)
  refine T_sipush (pc := 36) C dJ5_charAt_5068e_36 (by decide) ?_
  refine T_mask (pc := 39) C 8 256 (by decide) (by decide) (by decide) dJ5_charAt_5068e_39 ?_
  rw [Int.emod_eq_of_lt h8.1 (by omega : σ 391 i.toNat < 256)]
  refine T_i2c (pc := 40) C (by omega) dJ5_charAt_5068e_40 ?_
  exact T_iret (pc := 41) _ (fun h9 => h9) (by unfold rng; omega) (nar_C (by omega)) (by decide) dJ5_charAt_5068e_41
abbrev rb_J4_append_cf468 : Room := ⟨5, 1, 202, 112⟩
theorem cmb_J4_append_cf468 : cmB yJ4_append_cf468 cJ4_append_cf468 2 (some (.object "java/lang/StringBuilder")) 1 := ⟨kb_43, kb_71, ⟨by decide +kernel, by decide +kernel, by decide +kernel⟩, kb_72⟩
theorem cb_J4_append_cf468 {Z : vZ} {cy : Nat → ClassId} {ad : Nat → Nat} {E : Nat → Nat → Nat} {G : va_G} {l : Launch} {σ : Sm} (zk : Zok Z) (zs : ZS Z E) (zp : ZP Z) (t : List Int) (hB : BI σ t) (c : Int) (hc : 0 ≤ c ∧ c < 128) (hl : t.length + 1 ≤ 100) (hw : wfc σ) : CbQ Z l yJ4_append_cf468 cJ4_append_cf468 2 (some (.object "java/lang/StringBuilder")) rb_J4_append_cf468 cy ad E G [.ref (ad 390), vi c] σ (Bd σ (t ++ [c])) := by
  refine cbQ_of (by decide +kernel) (Nat.le_of_ble_eq_true rfl) hw (fun X A Q hZ hX C => ?_)
  subst hX
  show T X _ _ 0 0 0 [(0, .ref (ad 390)), (1, vi c)] [] σ _
  refine T_aload_n (pc := 0) C dJ4_append_cf468_0 rfl 0 rfl ?_
  refine T_iload_n (pc := 1) C dJ4_append_cf468_1 rfl 1 rfl ?_
  refine T_bQ (pc := 2) zk hZ C [vi c] [] (runBS C [vi c] [] kb_68 cmb_J5_append_3fe6f kb_69 kb_70 (by decide) rfl rfl (Nat.le_of_ble_eq_true rfl) (by decide) dJ4_append_cf468_2) (fun hw => cb_J5_append_3fe6f zk zs zp t hB c hc hl hw) (a' := 1) (b' := 202) ⟨rfl, rfl⟩ (fun τ hR => ?_)
  refine T_pop (pc := 5) C dJ4_append_cf468_5 rfl ?_
  refine T_aload_n (pc := 6) C dJ4_append_cf468_6 rfl 0 rfl ?_
  exact T_bqret (pc := 7) () (fun h9 => h9) hR (by decide) dJ4_append_cf468_7
abbrev rb_J4_append_bf812 : Room := ⟨5, 1, 202, 114⟩
theorem cmb_J4_append_bf812 : cmB yJ4_append_bf812 cJ4_append_bf812 2 (some (.object "java/lang/StringBuilder")) 1 := ⟨kb_44, kb_71, ⟨by decide +kernel, by decide +kernel, by decide +kernel⟩, kb_75⟩
theorem cb_J4_append_bf812 {Z : vZ} {cy : Nat → ClassId} {ad : Nat → Nat} {E : Nat → Nat → Nat} {G : va_G} {l : Launch} {σ : Sm} (zk : Zok Z) (zs : ZS Z E) (zp : ZP Z) (zd : ZD Z E) (t : List Int) (hB : BI σ t) (v : Nat) (hv : v < 2147483648) (hl : t.length + (dg v).length ≤ 100) (hw : wfc σ) : CbQ Z l yJ4_append_bf812 cJ4_append_bf812 2 (some (.object "java/lang/StringBuilder")) rb_J4_append_bf812 cy ad E G [.ref (ad 390), vi (v : Int)] σ (Bd σ (t ++ dg v)) := by
  refine cbQ_of (by decide +kernel) (Nat.le_of_ble_eq_true rfl) hw (fun X A Q hZ hX C => ?_)
  subst hX
  show T X _ _ 0 0 0 [(0, .ref (ad 390)), (1, vi (v : Int))] [] σ _
  refine T_aload_n (pc := 0) C dJ4_append_bf812_0 rfl 0 rfl ?_
  refine T_iload_n (pc := 1) C dJ4_append_bf812_1 rfl 1 rfl ?_
  refine T_bQ (pc := 2) zk hZ C [vi (v : Int)] [] (runBS C [vi (v : Int)] [] kb_73 cmb_J5_append_c97b9 kb_74 kb_70 (by decide) rfl rfl (Nat.le_of_ble_eq_true rfl) (by decide) dJ4_append_bf812_2) (fun hw => cb_J5_append_c97b9 zk zs zp zd t hB v hv hl hw) (a' := 1) (b' := 202) ⟨rfl, rfl⟩ (fun τ hR => ?_)
  refine T_pop (pc := 5) C dJ4_append_bf812_5 rfl ?_
  refine T_aload_n (pc := 6) C dJ4_append_bf812_6 rfl 0 rfl ?_
  exact T_bqret (pc := 7) () (fun h9 => h9) hR (by decide) dJ4_append_bf812_7
abbrev rb_J4_setLength_d00df : Room := ⟨5, 1, 202, 112⟩
theorem cmb_J4_setLength_d00df : cmB yJ4_setLength_d00df cJ4_setLength_d00df 2 none 1 := ⟨kb_45, kb_71, ⟨by decide +kernel, by decide +kernel, by decide +kernel⟩, kb_78⟩
theorem cb_J4_setLength_d00df {Z : vZ} {cy : Nat → ClassId} {ad : Nat → Nat} {E : Nat → Nat → Nat} {G : va_G} {l : Launch} {σ : Sm} (zk : Zok Z) (zs : ZS Z E) (zp : ZP Z) (t : List Int) (hB : BI σ t) (hw : wfc σ) : CbV Z l yJ4_setLength_d00df cJ4_setLength_d00df 2 rb_J4_setLength_d00df cy ad E G [.ref (ad 390), vi 0] σ (Bd σ []) := by
  refine cbV_of (by decide +kernel) (Nat.le_of_ble_eq_true rfl) hw (fun X A Q hZ hX C => ?_)
  subst hX
  show T X _ _ 0 0 0 [(0, .ref (ad 390)), (1, vi 0)] [] σ _
  refine T_aload_n (pc := 0) C dJ4_setLength_d00df_0 rfl 0 rfl ?_
  refine T_iload_n (pc := 1) C dJ4_setLength_d00df_1 rfl 1 rfl ?_
  refine T_bV (pc := 2) zk hZ C [vi 0] [] (runBS C [vi 0] [] kb_76 cmb_J5_setLength_d00df kb_77 kb_70 (by decide) rfl rfl (Nat.le_of_ble_eq_true rfl) (by decide) dJ4_setLength_d00df_2) (fun hw => cb_J5_setLength_d00df zk zs zp t hB hw) (a' := 1) (b' := 202) ⟨rfl, rfl⟩ (fun τ hR => ?_)
  exact T_bvret (pc := 5) () (fun h9 => h9) hR (by decide) dJ4_setLength_d00df_5
abbrev rb_J4_length_8abf5 : Room := ⟨1, 0, 0, 20⟩
theorem cmb_J4_length_8abf5 : cmB yJ4_length_8abf5 cJ4_length_8abf5 1 (some .int) 0 := ⟨kb_46, kb_71, ⟨by decide +kernel, by decide +kernel, by decide +kernel⟩, kb_81⟩
theorem cb_J4_length_8abf5 {Z : vZ} {cy : Nat → ClassId} {ad : Nat → Nat} {E : Nat → Nat → Nat} {G : va_G} {l : Launch} {σ : Sm} (zk : Zok Z) (v : Int) (hv : σ 390 3 = v) (hr : rng v) (hw : wfc σ) : CzI Z l yJ4_length_8abf5 cJ4_length_8abf5 1 (some .int) rb_J4_length_8abf5 (wlc cy ad E) wfc G (tyc cy) [.ref (ad 390)] σ σ v := by
  refine czI_of zk (by decide +kernel) (Nat.le_of_ble_eq_true rfl) hw (σ, v) (r := some (v)) (v) rfl (fun X Y w9 => EndI X Y cJ4_length_8abf5 rb_J4_length_8abf5 .int (σ, w9)) (fun _ _ h => h) (fun X A Q hZ hX C => ?_)
  show T X _ _ 0 0 0 [(0, .ref (ad 390))] [] σ (some v)
  refine T_aload_n (pc := 0) C dJ4_length_8abf5_0 rfl 0 rfl ?_
  refine T_bI (pc := 1) zk hZ C [] [] (runBS C [] [] kb_79 cmb_J5_length_8abf5 kb_80 kb_70 (by decide) rfl rfl (Nat.le_of_ble_eq_true rfl) (by decide) dJ4_length_8abf5_1) (fun hw => cb_J5_length_8abf5 zk v hv hr hw) (a' := 0) (b' := 0) ⟨rfl, rfl⟩ (fun h5 => ?_)
  exact T_iret (pc := 4) _ (fun h9 => h9) h5.1 (h5.2 _ rfl) (by decide) dJ4_length_8abf5_4
abbrev rb_J4_charAt_5068e : Room := ⟨3, 0, 0, 75⟩
theorem cmb_J4_charAt_5068e : cmB yJ4_charAt_5068e cJ4_charAt_5068e 2 (some .char) 1 := ⟨kb_47, kb_71, ⟨by decide +kernel, by decide +kernel, by decide +kernel⟩, kb_84⟩
theorem cb_J4_charAt_5068e {Z : vZ} {cy : Nat → ClassId} {ad : Nat → Nat} {E : Nat → Nat → Nat} {G : va_G} {l : Launch} {σ : Sm} (zk : Zok Z) (zs : ZS Z E) (h1 : σ 390 1 = 0) (i : Int) (hi : 0 ≤ i ∧ i < σ 390 3) (h9 : σ 390 3 ≤ σ 390 9 ∧ σ 390 9 ≤ 202) (h8 : 0 ≤ σ 391 i.toNat ∧ σ 391 i.toNat < 128) (hw : wfc σ) : CzI Z l yJ4_charAt_5068e cJ4_charAt_5068e 2 (some .char) rb_J4_charAt_5068e (wlc cy ad E) wfc G (tyc cy) [.ref (ad 390), vi i] σ σ (σ 391 i.toNat) := by
  refine czI_of zk (by decide +kernel) (Nat.le_of_ble_eq_true rfl) hw (σ, (σ 391 i.toNat)) (r := some ((σ 391 i.toNat))) ((σ 391 i.toNat)) rfl (fun X Y w9 => EndI X Y cJ4_charAt_5068e rb_J4_charAt_5068e .char (σ, w9)) (fun _ _ h => h) (fun X A Q hZ hX C => ?_)
  show T X _ _ 0 0 0 [(0, .ref (ad 390)), (1, vi i)] [] σ (some (σ 391 i.toNat))
  refine T_aload_n (pc := 0) C dJ4_charAt_5068e_0 rfl 0 rfl ?_
  refine T_iload_n (pc := 1) C dJ4_charAt_5068e_1 rfl 1 rfl ?_
  refine T_bI (pc := 2) zk hZ C [vi i] [] (runBS C [vi i] [] kb_82 cmb_J5_charAt_5068e kb_83 kb_70 (by decide) rfl rfl (Nat.le_of_ble_eq_true rfl) (by decide) dJ4_charAt_5068e_2) (fun hw => cb_J5_charAt_5068e zk zs h1 i hi h9 h8 hw) (a' := 0) (b' := 0) ⟨rfl, rfl⟩ (fun h5 => ?_)
  exact T_iret (pc := 5) _ (fun h9 => h9) h5.1 (h5.2 _ rfl) (by decide) dJ4_charAt_5068e_5
