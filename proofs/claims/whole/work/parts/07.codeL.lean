theorem s_AL_init_0 : dsq c_AL_init 0 [(.aload_n 0, 1, 0)] 1 = true := by decide +kernel
theorem s_AL_init_4 : dsq c_AL_init 4 [(.aload_n 0, 1, 0)] 5 = true := by decide +kernel
theorem d_AL_init_1 : decode c_AL_init 1 = .ok (.invokespecial 1, 3) := by decide +kernel
theorem d_AL_init_5 : decode c_AL_init 5 = .ok (.getstatic 39, 3) := by decide +kernel
theorem d_AL_init_8 : decode c_AL_init 8 = .ok (.putfield 9, 3) := by decide +kernel
theorem d_AL_init_11 : decode c_AL_init 11 = .ok (.return_, 1) := by decide +kernel
theorem s_AbL_init_0 : dsq c_AbL_init 0 [(.aload_n 0, 1, 0)] 1 = true := by decide +kernel
theorem s_AbL_init_4 : dsq c_AbL_init 4 [(.aload_n 0, 1, 0), (.iconst 0, 1, 0)] 6 = true := by decide +kernel
theorem d_AbL_init_1 : decode c_AbL_init 1 = .ok (.invokespecial 1, 3) := by decide +kernel
theorem d_AbL_init_6 : decode c_AbL_init 6 = .ok (.putfield 7, 3) := by decide +kernel
theorem d_AbL_init_9 : decode c_AbL_init 9 = .ok (.return_, 1) := by decide +kernel
theorem s_AbC_init_0 : dsq c_AbC_init 0 [(.aload_n 0, 1, 0)] 1 = true := by decide +kernel
theorem d_AbC_init_1 : decode c_AbC_init 1 = .ok (.invokespecial 1, 3) := by decide +kernel
theorem d_AbC_init_4 : decode c_AbC_init 4 = .ok (.return_, 1) := by decide +kernel
theorem s_AL_size_0 : dsq c_AL_size 0 [(.aload_n 0, 1, 0)] 1 = true := by decide +kernel
theorem d_AL_size_1 : decode c_AL_size 1 = .ok (.getfield 48, 3) := by decide +kernel
theorem d_AL_size_4 : decode c_AL_size 4 = .ok (.ireturn, 1) := by decide +kernel
theorem s_AL_get_0 : dsq c_AL_get 0 [(.iload_n 1, 1, 0), (.aload_n 0, 1, 0)] 2 = true := by decide +kernel
theorem s_AL_get_8 : dsq c_AL_get 8 [(.pop, 1, 0), (.aload_n 0, 1, 0), (.iload_n 1, 1, 0)] 11 = true := by decide +kernel
theorem d_AL_get_2 : decode c_AL_get 2 = .ok (.getfield 48, 3) := by decide +kernel
theorem d_AL_get_5 : decode c_AL_get 5 = .ok (.invokestatic 118, 3) := by decide +kernel
theorem d_AL_get_11 : decode c_AL_get 11 = .ok (.invokevirtual 123, 3) := by decide +kernel
theorem d_AL_get_14 : decode c_AL_get 14 = .ok (.areturn, 1) := by decide +kernel
theorem s_Obs_checkIndex_0 : dsq c_Obs_checkIndex 0 [(.iload_n 0, 1, 0), (.iload_n 1, 1, 0), (.aconst_null, 1, 0)] 3 = true := by decide +kernel
theorem d_Obs_checkIndex_3 : decode c_Obs_checkIndex 3 = .ok (.invokestatic 105, 3) := by decide +kernel
theorem d_Obs_checkIndex_6 : decode c_Obs_checkIndex 6 = .ok (.ireturn, 1) := by decide +kernel
theorem s_Prec_checkIndex_0 : dsq c_Prec_checkIndex 0 [(.iload_n 0, 1, 0)] 1 = true := by decide +kernel
theorem s_Prec_checkIndex_4 : dsq c_Prec_checkIndex 4 [(.iload_n 0, 1, 0), (.iload_n 1, 1, 0)] 6 = true := by decide +kernel
theorem s_Prec_checkIndex_9 : dsq c_Prec_checkIndex 9 [(.aload_n 2, 1, 0), (.iload_n 0, 1, 0), (.iload_n 1, 1, 0)] 12 = true := by decide +kernel
theorem s_Prec_checkIndex_16 : dsq c_Prec_checkIndex 16 [(.iload_n 0, 1, 0)] 17 = true := by decide +kernel
theorem d_Prec_checkIndex_1 : decode c_Prec_checkIndex 1 = .ok (.ifCond .lt 8, 3) := by decide +kernel
theorem d_Prec_checkIndex_6 : decode c_Prec_checkIndex 6 = .ok (.if_icmp .lt 10, 3) := by decide +kernel
theorem d_Prec_checkIndex_12 : decode c_Prec_checkIndex 12 = .ok (.invokestatic 95, 3) := by decide +kernel
theorem d_Prec_checkIndex_15 : decode c_Prec_checkIndex 15 = .ok (.athrow, 1) := by decide +kernel
theorem d_Prec_checkIndex_17 : decode c_Prec_checkIndex 17 = .ok (.ireturn, 1) := by decide +kernel
theorem s_AL_elementData_0 : dsq c_AL_elementData 0 [(.aload_n 0, 1, 0)] 1 = true := by decide +kernel
theorem s_AL_elementData_4 : dsq c_AL_elementData 4 [(.iload_n 1, 1, 0)] 5 = true := by decide +kernel
theorem d_AL_elementData_1 : decode c_AL_elementData 1 = .ok (.getfield 9, 3) := by decide +kernel
theorem d_AL_elementData_5 : decode c_AL_elementData 5 = .ok (.aaload, 1) := by decide +kernel
theorem d_AL_elementData_6 : decode c_AL_elementData 6 = .ok (.areturn, 1) := by decide +kernel
theorem s_AL_add_0 : dsq c_AL_add 0 [(.aload_n 0, 1, 0), (.dup, 1, 0)] 2 = true := by decide +kernel
theorem s_AL_add_5 : dsq c_AL_add 5 [(.iconst 1, 1, 1), (.iadd, 1, 0)] 7 = true := by decide +kernel
theorem s_AL_add_10 : dsq c_AL_add 10 [(.aload_n 0, 1, 0), (.aload_n 1, 1, 0), (.aload_n 0, 1, 0)] 13 = true := by decide +kernel
theorem s_AL_add_16 : dsq c_AL_add 16 [(.aload_n 0, 1, 0)] 17 = true := by decide +kernel
theorem s_AL_add_23 : dsq c_AL_add 23 [(.iconst 1, 1, 1)] 24 = true := by decide +kernel
theorem d_AL_add_2 : decode c_AL_add 2 = .ok (.getfield 63, 3) := by decide +kernel
theorem d_AL_add_7 : decode c_AL_add 7 = .ok (.putfield 63, 3) := by decide +kernel
theorem d_AL_add_13 : decode c_AL_add 13 = .ok (.getfield 9, 3) := by decide +kernel
theorem d_AL_add_17 : decode c_AL_add 17 = .ok (.getfield 48, 3) := by decide +kernel
theorem d_AL_add_20 : decode c_AL_add 20 = .ok (.invokevirtual 131, 3) := by decide +kernel
theorem d_AL_add_24 : decode c_AL_add 24 = .ok (.ireturn, 1) := by decide +kernel
theorem s_AL_add3_0 : dsq c_AL_add3 0 [(.iload_n 3, 1, 0), (.aload_n 2, 1, 0)] 2 = true := by decide +kernel
theorem s_AL_add3_6 : dsq c_AL_add3 6 [(.aload_n 0, 1, 0)] 7 = true := by decide +kernel
theorem s_AL_add3_10 : dsq c_AL_add3 10 [(.astore_n 2, 1, 0), (.aload_n 2, 1, 0), (.iload_n 3, 1, 0), (.aload_n 1, 1, 0)] 14 = true := by decide +kernel
theorem s_AL_add3_11 : dsq c_AL_add3 11 [(.aload_n 2, 1, 0), (.iload_n 3, 1, 0), (.aload_n 1, 1, 0)] 14 = true := by decide +kernel
theorem s_AL_add3_15 : dsq c_AL_add3 15 [(.aload_n 0, 1, 0), (.iload_n 3, 1, 0), (.iconst 1, 1, 1), (.iadd, 1, 0)] 19 = true := by decide +kernel
theorem d_AL_add3_2 : decode c_AL_add3 2 = .ok (.arraylength, 1) := by decide +kernel
theorem d_AL_add3_3 : decode c_AL_add3 3 = .ok (.if_icmp .ne 8, 3) := by decide +kernel
theorem d_AL_add3_7 : decode c_AL_add3 7 = .ok (.invokevirtual 129, 3) := by decide +kernel
theorem d_AL_add3_14 : decode c_AL_add3 14 = .ok (.aastore, 1) := by decide +kernel
theorem d_AL_add3_19 : decode c_AL_add3 19 = .ok (.putfield 48, 3) := by decide +kernel
theorem d_AL_add3_22 : decode c_AL_add3 22 = .ok (.return_, 1) := by decide +kernel
theorem s_AL_grow_0 : dsq c_AL_grow 0 [(.aload_n 0, 1, 0), (.aload_n 0, 1, 0)] 2 = true := by decide +kernel
theorem s_AL_grow_5 : dsq c_AL_grow 5 [(.iconst 1, 1, 1), (.iadd, 1, 0)] 7 = true := by decide +kernel
theorem d_AL_grow_2 : decode c_AL_grow 2 = .ok (.getfield 48, 3) := by decide +kernel
theorem d_AL_grow_7 : decode c_AL_grow 7 = .ok (.invokevirtual 69, 3) := by decide +kernel
theorem d_AL_grow_10 : decode c_AL_grow 10 = .ok (.areturn, 1) := by decide +kernel
theorem s_AL_growI_0 : dsq c_AL_growI 0 [(.aload_n 0, 1, 0)] 1 = true := by decide +kernel
theorem s_AL_growI_5 : dsq c_AL_growI 5 [(.istore_n 2, 1, 0), (.iload_n 2, 1, 0)] 7 = true := by decide +kernel
theorem s_AL_growI_10 : dsq c_AL_growI 10 [(.aload_n 0, 1, 0)] 11 = true := by decide +kernel
theorem s_AL_growI_20 : dsq c_AL_growI 20 [(.iload_n 2, 1, 0), (.iload_n 1, 1, 0), (.iload_n 2, 1, 0), (.isub, 1, 0), (.iload_n 2, 1, 0), (.iconst 1, 1, 1), (.ishr, 1, 0)] 27 = true := by decide +kernel
theorem s_AL_growI_30 : dsq c_AL_growI 30 [(.istore_n 3, 1, 0), (.aload_n 0, 1, 0), (.aload_n 0, 1, 0)] 33 = true := by decide +kernel
theorem s_AL_growI_36 : dsq c_AL_growI 36 [(.iload_n 3, 1, 0)] 37 = true := by decide +kernel
theorem s_AL_growI_40 : dsq c_AL_growI 40 [(.dup_x1, 1, 0)] 41 = true := by decide +kernel
theorem s_AL_growI_45 : dsq c_AL_growI 45 [(.aload_n 0, 1, 0), (.bipush 10, 2, 10), (.iload_n 1, 1, 0)] 49 = true := by decide +kernel
theorem s_AL_growI_55 : dsq c_AL_growI 55 [(.dup_x1, 1, 0)] 56 = true := by decide +kernel
theorem d_AL_growI_1 : decode c_AL_growI 1 = .ok (.getfield 9, 3) := by decide +kernel
theorem d_AL_growI_4 : decode c_AL_growI 4 = .ok (.arraylength, 1) := by decide +kernel
theorem d_AL_growI_7 : decode c_AL_growI 7 = .ok (.ifCond .gt 13, 3) := by decide +kernel
theorem d_AL_growI_11 : decode c_AL_growI 11 = .ok (.getfield 9, 3) := by decide +kernel
theorem d_AL_growI_14 : decode c_AL_growI 14 = .ok (.getstatic 39, 3) := by decide +kernel
theorem d_AL_growI_17 : decode c_AL_growI 17 = .ok (.if_acmp .eq 28, 3) := by decide +kernel
theorem d_AL_growI_27 : decode c_AL_growI 27 = .ok (.invokestatic 73, 3) := by decide +kernel
theorem d_AL_growI_33 : decode c_AL_growI 33 = .ok (.getfield 9, 3) := by decide +kernel
theorem d_AL_growI_37 : decode c_AL_growI 37 = .ok (.invokestatic 66, 3) := by decide +kernel
theorem d_AL_growI_41 : decode c_AL_growI 41 = .ok (.putfield 9, 3) := by decide +kernel
theorem d_AL_growI_44 : decode c_AL_growI 44 = .ok (.areturn, 1) := by decide +kernel
theorem d_AL_growI_49 : decode c_AL_growI 49 = .ok (.invokestatic 79, 3) := by decide +kernel
theorem d_AL_growI_52 : decode c_AL_growI 52 = .ok (.anewarray 7, 3) := by decide +kernel
theorem d_AL_growI_56 : decode c_AL_growI 56 = .ok (.putfield 9, 3) := by decide +kernel
theorem d_AL_growI_59 : decode c_AL_growI 59 = .ok (.areturn, 1) := by decide +kernel
theorem s_AS_newLength_0 : dsq c_AS_newLength 0 [(.iload_n 0, 1, 0), (.iload_n 1, 1, 0), (.iload_n 2, 1, 0)] 3 = true := by decide +kernel
theorem s_AS_newLength_6 : dsq c_AS_newLength 6 [(.iadd, 1, 0), (.istore_n 3, 1, 0), (.iconst 0, 1, 0), (.iload_n 3, 1, 0)] 10 = true := by decide +kernel
theorem s_AS_newLength_13 : dsq c_AS_newLength 13 [(.iload_n 3, 1, 0)] 14 = true := by decide +kernel
theorem s_AS_newLength_19 : dsq c_AS_newLength 19 [(.iload_n 3, 1, 0)] 20 = true := by decide +kernel
theorem s_AS_newLength_21 : dsq c_AS_newLength 21 [(.iload_n 0, 1, 0), (.iload_n 1, 1, 0)] 23 = true := by decide +kernel
theorem d_AS_newLength_3 : decode c_AS_newLength 3 = .ok (.invokestatic 194, 3) := by decide +kernel
theorem d_AS_newLength_10 : decode c_AS_newLength 10 = .ok (.if_icmp .ge 11, 3) := by decide +kernel
theorem d_AS_newLength_14 : decode c_AS_newLength 14 = .ok (.ldc 200, 2) := by decide +kernel
theorem d_AS_newLength_16 : decode c_AS_newLength 16 = .ok (.if_icmp .gt 5, 3) := by decide +kernel
theorem d_AS_newLength_20 : decode c_AS_newLength 20 = .ok (.ireturn, 1) := by decide +kernel
theorem d_AS_newLength_23 : decode c_AS_newLength 23 = .ok (.invokestatic 201, 3) := by decide +kernel
theorem d_AS_newLength_26 : decode c_AS_newLength 26 = .ok (.ireturn, 1) := by decide +kernel
theorem s_Arrs_copyOf_0 : dsq c_Arrs_copyOf 0 [(.aload_n 0, 1, 0), (.iload_n 1, 1, 0), (.aload_n 0, 1, 0)] 3 = true := by decide +kernel
theorem d_Arrs_copyOf_3 : decode c_Arrs_copyOf 3 = .ok (.invokevirtual 86, 3) := by decide +kernel
theorem d_Arrs_copyOf_6 : decode c_Arrs_copyOf 6 = .ok (.invokestatic 300, 3) := by decide +kernel
theorem d_Arrs_copyOf_9 : decode c_Arrs_copyOf 9 = .ok (.areturn, 1) := by decide +kernel
theorem s_Arrs_copyOf3_0 : dsq c_Arrs_copyOf3 0 [(.aload_n 2, 1, 0)] 1 = true := by decide +kernel
theorem s_Arrs_copyOf3_6 : dsq c_Arrs_copyOf3 6 [(.iload_n 1, 1, 0)] 7 = true := by decide +kernel
theorem s_Arrs_copyOf3_10 : dsq c_Arrs_copyOf3 10 [(.goto 14, 3, 0), (.astore_n 3, 1, 0), (.aload_n 0, 1, 0), (.iconst 0, 1, 0), (.aload_n 3, 1, 0), (.iconst 0, 1, 0), (.aload_n 0, 1, 0)] 30 = true := by decide +kernel
theorem s_Arrs_copyOf3_13 : dsq c_Arrs_copyOf3 13 [(.aload_n 2, 1, 0)] 14 = true := by decide +kernel
theorem s_Arrs_copyOf3_17 : dsq c_Arrs_copyOf3 17 [(.iload_n 1, 1, 0)] 18 = true := by decide +kernel
theorem s_Arrs_copyOf3_24 : dsq c_Arrs_copyOf3 24 [(.astore_n 3, 1, 0), (.aload_n 0, 1, 0), (.iconst 0, 1, 0), (.aload_n 3, 1, 0), (.iconst 0, 1, 0), (.aload_n 0, 1, 0)] 30 = true := by decide +kernel
theorem s_Arrs_copyOf3_31 : dsq c_Arrs_copyOf3 31 [(.iload_n 1, 1, 0)] 32 = true := by decide +kernel
theorem s_Arrs_copyOf3_38 : dsq c_Arrs_copyOf3 38 [(.aload_n 3, 1, 0)] 39 = true := by decide +kernel
theorem d_Arrs_copyOf3_1 : decode c_Arrs_copyOf3 1 = .ok (.ldc 110, 2) := by decide +kernel
theorem d_Arrs_copyOf3_3 : decode c_Arrs_copyOf3 3 = .ok (.if_acmp .ne 10, 3) := by decide +kernel
theorem d_Arrs_copyOf3_7 : decode c_Arrs_copyOf3 7 = .ok (.anewarray 2, 3) := by decide +kernel
theorem d_Arrs_copyOf3_14 : decode c_Arrs_copyOf3 14 = .ok (.invokevirtual 90, 3) := by decide +kernel
theorem d_Arrs_copyOf3_18 : decode c_Arrs_copyOf3 18 = .ok (.invokestatic 95, 3) := by decide +kernel
theorem d_Arrs_copyOf3_21 : decode c_Arrs_copyOf3 21 = .ok (.checkcast 110, 3) := by decide +kernel
theorem d_Arrs_copyOf3_30 : decode c_Arrs_copyOf3 30 = .ok (.arraylength, 1) := by decide +kernel
theorem d_Arrs_copyOf3_32 : decode c_Arrs_copyOf3 32 = .ok (.invokestatic 304, 3) := by decide +kernel
theorem d_Arrs_copyOf3_35 : decode c_Arrs_copyOf3 35 = .ok (.invokestatic 150, 3) := by decide +kernel
theorem d_Arrs_copyOf3_39 : decode c_Arrs_copyOf3 39 = .ok (.areturn, 1) := by decide +kernel
theorem s_AL_remove_0 : dsq c_AL_remove 0 [(.iload_n 1, 1, 0), (.aload_n 0, 1, 0)] 2 = true := by decide +kernel
theorem s_AL_remove_8 : dsq c_AL_remove 8 [(.pop, 1, 0), (.aload_n 0, 1, 0)] 10 = true := by decide +kernel
theorem s_AL_remove_13 : dsq c_AL_remove 13 [(.astore_n 2, 1, 0), (.aload_n 2, 1, 0), (.iload_n 1, 1, 0)] 16 = true := by decide +kernel
theorem s_AL_remove_17 : dsq c_AL_remove 17 [(.astore_n 3, 1, 0), (.aload_n 0, 1, 0), (.aload_n 2, 1, 0), (.iload_n 1, 1, 0)] 21 = true := by decide +kernel
theorem s_AL_remove_24 : dsq c_AL_remove 24 [(.aload_n 3, 1, 0)] 25 = true := by decide +kernel
theorem d_AL_remove_2 : decode c_AL_remove 2 = .ok (.getfield 48, 3) := by decide +kernel
theorem d_AL_remove_5 : decode c_AL_remove 5 = .ok (.invokestatic 118, 3) := by decide +kernel
theorem d_AL_remove_10 : decode c_AL_remove 10 = .ok (.getfield 9, 3) := by decide +kernel
theorem d_AL_remove_16 : decode c_AL_remove 16 = .ok (.aaload, 1) := by decide +kernel
theorem d_AL_remove_21 : decode c_AL_remove 21 = .ok (.invokevirtual 144, 3) := by decide +kernel
theorem d_AL_remove_25 : decode c_AL_remove 25 = .ok (.areturn, 1) := by decide +kernel
theorem s_AL_fastRemove_0 : dsq c_AL_fastRemove 0 [(.aload_n 0, 1, 0), (.dup, 1, 0)] 2 = true := by decide +kernel
theorem s_AL_fastRemove_5 : dsq c_AL_fastRemove 5 [(.iconst 1, 1, 1), (.iadd, 1, 0)] 7 = true := by decide +kernel
theorem s_AL_fastRemove_10 : dsq c_AL_fastRemove 10 [(.aload_n 0, 1, 0)] 11 = true := by decide +kernel
theorem s_AL_fastRemove_14 : dsq c_AL_fastRemove 14 [(.iconst 1, 1, 1), (.isub, 1, 0), (.dup, 1, 0), (.istore_n 3, 1, 0), (.iload_n 2, 1, 0)] 19 = true := by decide +kernel
theorem s_AL_fastRemove_22 : dsq c_AL_fastRemove 22 [(.aload_n 1, 1, 0), (.iload_n 2, 1, 0), (.iconst 1, 1, 1), (.iadd, 1, 0), (.aload_n 1, 1, 0), (.iload_n 2, 1, 0), (.iload_n 3, 1, 0), (.iload_n 2, 1, 0), (.isub, 1, 0)] 31 = true := by decide +kernel
theorem s_AL_fastRemove_34 : dsq c_AL_fastRemove 34 [(.aload_n 1, 1, 0), (.aload_n 0, 1, 0), (.iload_n 3, 1, 0), (.dup_x1, 1, 0)] 38 = true := by decide +kernel
theorem s_AL_fastRemove_41 : dsq c_AL_fastRemove 41 [(.aconst_null, 1, 0)] 42 = true := by decide +kernel
theorem d_AL_fastRemove_2 : decode c_AL_fastRemove 2 = .ok (.getfield 63, 3) := by decide +kernel
theorem d_AL_fastRemove_7 : decode c_AL_fastRemove 7 = .ok (.putfield 63, 3) := by decide +kernel
theorem d_AL_fastRemove_11 : decode c_AL_fastRemove 11 = .ok (.getfield 48, 3) := by decide +kernel
theorem d_AL_fastRemove_19 : decode c_AL_fastRemove 19 = .ok (.if_icmp .le 15, 3) := by decide +kernel
theorem d_AL_fastRemove_31 : decode c_AL_fastRemove 31 = .ok (.invokestatic 112, 3) := by decide +kernel
theorem d_AL_fastRemove_38 : decode c_AL_fastRemove 38 = .ok (.putfield 48, 3) := by decide +kernel
theorem d_AL_fastRemove_42 : decode c_AL_fastRemove 42 = .ok (.aastore, 1) := by decide +kernel
theorem d_AL_fastRemove_43 : decode c_AL_fastRemove 43 = .ok (.return_, 1) := by decide +kernel
theorem s_AL_isEmpty_0 : dsq c_AL_isEmpty 0 [(.aload_n 0, 1, 0)] 1 = true := by decide +kernel
theorem s_AL_isEmpty_7 : dsq c_AL_isEmpty 7 [(.iconst 1, 1, 1), (.goto 4, 3, 0)] 12 = true := by decide +kernel
theorem s_AL_isEmpty_11 : dsq c_AL_isEmpty 11 [(.iconst 0, 1, 0)] 12 = true := by decide +kernel
theorem d_AL_isEmpty_1 : decode c_AL_isEmpty 1 = .ok (.getfield 48, 3) := by decide +kernel
theorem d_AL_isEmpty_4 : decode c_AL_isEmpty 4 = .ok (.ifCond .ne 7, 3) := by decide +kernel
theorem d_AL_isEmpty_12 : decode c_AL_isEmpty 12 = .ok (.ireturn, 1) := by decide +kernel
theorem s_AL_addAt_0 : dsq c_AL_addAt 0 [(.aload_n 0, 1, 0), (.iload_n 1, 1, 0)] 2 = true := by decide +kernel
theorem s_AL_addAt_5 : dsq c_AL_addAt 5 [(.aload_n 0, 1, 0), (.dup, 1, 0)] 7 = true := by decide +kernel
theorem s_AL_addAt_10 : dsq c_AL_addAt 10 [(.iconst 1, 1, 1), (.iadd, 1, 0)] 12 = true := by decide +kernel
theorem s_AL_addAt_15 : dsq c_AL_addAt 15 [(.aload_n 0, 1, 0)] 16 = true := by decide +kernel
theorem s_AL_addAt_19 : dsq c_AL_addAt 19 [(.dup, 1, 0), (.istore_n 3, 1, 0), (.aload_n 0, 1, 0)] 22 = true := by decide +kernel
theorem s_AL_addAt_25 : dsq c_AL_addAt 25 [(.dup, 1, 0), (.astore 4, 2, 0)] 28 = true := by decide +kernel
theorem s_AL_addAt_32 : dsq c_AL_addAt 32 [(.aload_n 0, 1, 0)] 33 = true := by decide +kernel
theorem s_AL_addAt_36 : dsq c_AL_addAt 36 [(.astore 4, 2, 0), (.aload 4, 2, 0), (.iload_n 1, 1, 0), (.aload 4, 2, 0), (.iload_n 1, 1, 0), (.iconst 1, 1, 1), (.iadd, 1, 0), (.iload_n 3, 1, 0), (.iload_n 1, 1, 0), (.isub, 1, 0)] 49 = true := by decide +kernel
theorem s_AL_addAt_38 : dsq c_AL_addAt 38 [(.aload 4, 2, 0), (.iload_n 1, 1, 0), (.aload 4, 2, 0), (.iload_n 1, 1, 0), (.iconst 1, 1, 1), (.iadd, 1, 0), (.iload_n 3, 1, 0), (.iload_n 1, 1, 0), (.isub, 1, 0)] 49 = true := by decide +kernel
theorem s_AL_addAt_52 : dsq c_AL_addAt 52 [(.aload 4, 2, 0), (.iload_n 1, 1, 0), (.aload_n 2, 1, 0)] 56 = true := by decide +kernel
theorem s_AL_addAt_57 : dsq c_AL_addAt 57 [(.aload_n 0, 1, 0), (.iload_n 3, 1, 0), (.iconst 1, 1, 1), (.iadd, 1, 0)] 61 = true := by decide +kernel
theorem d_AL_addAt_2 : decode c_AL_addAt 2 = .ok (.invokevirtual 135, 3) := by decide +kernel
theorem d_AL_addAt_7 : decode c_AL_addAt 7 = .ok (.getfield 63, 3) := by decide +kernel
theorem d_AL_addAt_12 : decode c_AL_addAt 12 = .ok (.putfield 63, 3) := by decide +kernel
theorem d_AL_addAt_16 : decode c_AL_addAt 16 = .ok (.getfield 48, 3) := by decide +kernel
theorem d_AL_addAt_22 : decode c_AL_addAt 22 = .ok (.getfield 9, 3) := by decide +kernel
theorem d_AL_addAt_28 : decode c_AL_addAt 28 = .ok (.arraylength, 1) := by decide +kernel
theorem d_AL_addAt_29 : decode c_AL_addAt 29 = .ok (.if_icmp .ne 9, 3) := by decide +kernel
theorem d_AL_addAt_33 : decode c_AL_addAt 33 = .ok (.invokevirtual 129, 3) := by decide +kernel
theorem d_AL_addAt_49 : decode c_AL_addAt 49 = .ok (.invokestatic 112, 3) := by decide +kernel
theorem d_AL_addAt_56 : decode c_AL_addAt 56 = .ok (.aastore, 1) := by decide +kernel
theorem d_AL_addAt_61 : decode c_AL_addAt 61 = .ok (.putfield 48, 3) := by decide +kernel
theorem d_AL_addAt_64 : decode c_AL_addAt 64 = .ok (.return_, 1) := by decide +kernel
theorem s_AL_rangeCheckForAdd_0 : dsq c_AL_rangeCheckForAdd 0 [(.iload_n 1, 1, 0), (.aload_n 0, 1, 0)] 2 = true := by decide +kernel
theorem s_AL_rangeCheckForAdd_8 : dsq c_AL_rangeCheckForAdd 8 [(.iload_n 1, 1, 0)] 9 = true := by decide +kernel
theorem s_AL_rangeCheckForAdd_15 : dsq c_AL_rangeCheckForAdd 15 [(.dup, 1, 0), (.aload_n 0, 1, 0), (.iload_n 1, 1, 0)] 18 = true := by decide +kernel
theorem d_AL_rangeCheckForAdd_2 : decode c_AL_rangeCheckForAdd 2 = .ok (.getfield 48, 3) := by decide +kernel
theorem d_AL_rangeCheckForAdd_5 : decode c_AL_rangeCheckForAdd 5 = .ok (.if_icmp .gt 7, 3) := by decide +kernel
theorem d_AL_rangeCheckForAdd_9 : decode c_AL_rangeCheckForAdd 9 = .ok (.ifCond .ge 16, 3) := by decide +kernel
theorem d_AL_rangeCheckForAdd_12 : decode c_AL_rangeCheckForAdd 12 = .ok (.new 187, 3) := by decide +kernel
theorem d_AL_rangeCheckForAdd_18 : decode c_AL_rangeCheckForAdd 18 = .ok (.invokevirtual 198, 3) := by decide +kernel
theorem d_AL_rangeCheckForAdd_21 : decode c_AL_rangeCheckForAdd 21 = .ok (.invokespecial 193, 3) := by decide +kernel
theorem d_AL_rangeCheckForAdd_24 : decode c_AL_rangeCheckForAdd 24 = .ok (.athrow, 1) := by decide +kernel
theorem d_AL_rangeCheckForAdd_25 : decode c_AL_rangeCheckForAdd 25 = .ok (.return_, 1) := by decide +kernel
theorem s_Intg_bitCount_0 : dsq c_Intg_bitCount 0 [(.iload_n 0, 1, 0), (.iload_n 0, 1, 0), (.iconst 1, 1, 1), (.iushr, 1, 0)] 4 = true := by decide +kernel
theorem s_Intg_bitCount_7 : dsq c_Intg_bitCount 7 [(.iand, 1, 0), (.isub, 1, 0), (.istore_n 0, 1, 0), (.iload_n 0, 1, 0)] 11 = true := by decide +kernel
theorem s_Intg_bitCount_14 : dsq c_Intg_bitCount 14 [(.iand, 1, 0), (.iload_n 0, 1, 0), (.iconst 2, 1, 2), (.iushr, 1, 0)] 18 = true := by decide +kernel
theorem s_Intg_bitCount_21 : dsq c_Intg_bitCount 21 [(.iand, 1, 0), (.iadd, 1, 0), (.istore_n 0, 1, 0), (.iload_n 0, 1, 0), (.iload_n 0, 1, 0), (.iconst 4, 1, 4), (.iushr, 1, 0), (.iadd, 1, 0)] 29 = true := by decide +kernel
theorem s_Intg_bitCount_32 : dsq c_Intg_bitCount 32 [(.iand, 1, 0), (.istore_n 0, 1, 0), (.iload_n 0, 1, 0), (.iload_n 0, 1, 0), (.bipush 8, 2, 8), (.iushr, 1, 0), (.iadd, 1, 0), (.istore_n 0, 1, 0), (.iload_n 0, 1, 0), (.iload_n 0, 1, 0), (.bipush 16, 2, 16), (.iushr, 1, 0), (.iadd, 1, 0), (.istore_n 0, 1, 0), (.iload_n 0, 1, 0), (.bipush 63, 2, 63), (.iand, 1, 0)] 52 = true := by decide +kernel
theorem d_Intg_bitCount_4 : decode c_Intg_bitCount 4 = .ok (.ldc_w 265, 3) := by decide +kernel
theorem d_Intg_bitCount_11 : decode c_Intg_bitCount 11 = .ok (.ldc_w 266, 3) := by decide +kernel
theorem d_Intg_bitCount_18 : decode c_Intg_bitCount 18 = .ok (.ldc_w 266, 3) := by decide +kernel
theorem d_Intg_bitCount_29 : decode c_Intg_bitCount 29 = .ok (.ldc_w 267, 3) := by decide +kernel
theorem d_Intg_bitCount_52 : decode c_Intg_bitCount 52 = .ok (.ireturn, 1) := by decide +kernel
