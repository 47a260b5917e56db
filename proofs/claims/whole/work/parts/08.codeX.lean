theorem s_LH_init_0 : dsq c_LH_init 0 [(.aload_n 0, 1, 0)] 1 = true := by decide +kernel
theorem s_LH_init_4 : dsq c_LH_init 4 [(.aload_n 0, 1, 0)] 5 = true := by decide +kernel
theorem s_LH_init_8 : dsq c_LH_init 8 [(.dup, 1, 0)] 9 = true := by decide +kernel
theorem s_LH_init_15 : dsq c_LH_init 15 [(.aload_n 0, 1, 0)] 16 = true := by decide +kernel
theorem s_LH_init_19 : dsq c_LH_init 19 [(.dup, 1, 0)] 20 = true := by decide +kernel
theorem s_LH_init_26 : dsq c_LH_init 26 [(.aload_n 0, 1, 0)] 27 = true := by decide +kernel
theorem s_LH_init_30 : dsq c_LH_init 30 [(.dup, 1, 0)] 31 = true := by decide +kernel
theorem s_LH_init_37 : dsq c_LH_init 37 [(.aload_n 0, 1, 0), (.bipush 16, 2, 16)] 40 = true := by decide +kernel
theorem s_LH_init_46 : dsq c_LH_init 46 [(.aload_n 0, 1, 0)] 47 = true := by decide +kernel
theorem s_LH_init_50 : dsq c_LH_init 50 [(.dup, 1, 0)] 51 = true := by decide +kernel
theorem s_LH_init_57 : dsq c_LH_init 57 [(.aload_n 0, 1, 0), (.iconst 0, 1, 0)] 59 = true := by decide +kernel
theorem s_LH_init_62 : dsq c_LH_init 62 [(.aload_n 0, 1, 0), (.iconst 0, 1, 0)] 64 = true := by decide +kernel
theorem s_LH_init_67 : dsq c_LH_init 67 [(.iconst 0, 1, 0), (.istore_n 2, 1, 0)] 69 = true := by decide +kernel
theorem s_LH_init_69 : dsq c_LH_init 69 [(.iload_n 2, 1, 0), (.bipush 16, 2, 16)] 72 = true := by decide +kernel
theorem s_LH_init_75 : dsq c_LH_init 75 [(.aload_n 0, 1, 0)] 76 = true := by decide +kernel
theorem s_LH_init_79 : dsq c_LH_init 79 [(.iload_n 2, 1, 0)] 80 = true := by decide +kernel
theorem s_LH_init_83 : dsq c_LH_init 83 [(.dup, 1, 0)] 84 = true := by decide +kernel
theorem s_LH_init_88 : dsq c_LH_init 88 [(.iinc 2 1, 3, 1), (.goto (-22), 3, 0)] 69 = true := by decide +kernel
theorem d_LH_init_1 : decode c_LH_init 1 = .ok (.invokespecial 1, 3) := by decide +kernel
theorem d_LH_init_5 : decode c_LH_init 5 = .ok (.new 7, 3) := by decide +kernel
theorem d_LH_init_9 : decode c_LH_init 9 = .ok (.invokespecial 9, 3) := by decide +kernel
theorem d_LH_init_12 : decode c_LH_init 12 = .ok (.putfield 10, 3) := by decide +kernel
theorem d_LH_init_16 : decode c_LH_init 16 = .ok (.new 7, 3) := by decide +kernel
theorem d_LH_init_20 : decode c_LH_init 20 = .ok (.invokespecial 9, 3) := by decide +kernel
theorem d_LH_init_23 : decode c_LH_init 23 = .ok (.putfield 16, 3) := by decide +kernel
theorem d_LH_init_27 : decode c_LH_init 27 = .ok (.new 7, 3) := by decide +kernel
theorem d_LH_init_31 : decode c_LH_init 31 = .ok (.invokespecial 9, 3) := by decide +kernel
theorem d_LH_init_34 : decode c_LH_init 34 = .ok (.putfield 19, 3) := by decide +kernel
theorem d_LH_init_40 : decode c_LH_init 40 = .ok (.anewarray 22, 3) := by decide +kernel
theorem d_LH_init_43 : decode c_LH_init 43 = .ok (.putfield 24, 3) := by decide +kernel
theorem d_LH_init_47 : decode c_LH_init 47 = .ok (.new 28, 3) := by decide +kernel
theorem d_LH_init_51 : decode c_LH_init 51 = .ok (.invokespecial 30, 3) := by decide +kernel
theorem d_LH_init_54 : decode c_LH_init 54 = .ok (.putfield 31, 3) := by decide +kernel
theorem d_LH_init_59 : decode c_LH_init 59 = .ok (.putfield 35, 3) := by decide +kernel
theorem d_LH_init_64 : decode c_LH_init 64 = .ok (.putfield 39, 3) := by decide +kernel
theorem d_LH_init_72 : decode c_LH_init 72 = .ok (.if_icmp .ge 22, 3) := by decide +kernel
theorem d_LH_init_76 : decode c_LH_init 76 = .ok (.getfield 24, 3) := by decide +kernel
theorem d_LH_init_80 : decode c_LH_init 80 = .ok (.new 22, 3) := by decide +kernel
theorem d_LH_init_84 : decode c_LH_init 84 = .ok (.invokespecial 42, 3) := by decide +kernel
theorem d_LH_init_87 : decode c_LH_init 87 = .ok (.aastore, 1) := by decide +kernel
theorem d_LH_init_94 : decode c_LH_init 94 = .ok (.return_, 1) := by decide +kernel
theorem s_WaitTimes_init_0 : dsq c_WaitTimes_init 0 [(.aload_n 0, 1, 0)] 1 = true := by decide +kernel
theorem s_WaitTimes_init_4 : dsq c_WaitTimes_init 4 [(.aload_n 0, 1, 0), (.sipush 512, 3, 512)] 8 = true := by decide +kernel
theorem s_WaitTimes_init_13 : dsq c_WaitTimes_init 13 [(.aload_n 0, 1, 0), (.iconst 0, 1, 0)] 15 = true := by decide +kernel
theorem d_WaitTimes_init_1 : decode c_WaitTimes_init 1 = .ok (.invokespecial 3, 3) := by decide +kernel
theorem d_WaitTimes_init_8 : decode c_WaitTimes_init 8 = .ok (.newarray .int, 2) := by decide +kernel
theorem d_WaitTimes_init_10 : decode c_WaitTimes_init 10 = .ok (.putfield 9, 3) := by decide +kernel
theorem d_WaitTimes_init_15 : decode c_WaitTimes_init 15 = .ok (.putfield 15, 3) := by decide +kernel
theorem d_WaitTimes_init_18 : decode c_WaitTimes_init 18 = .ok (.return_, 1) := by decide +kernel
theorem s_NoteBox_init_0 : dsq c_NoteBox_init 0 [(.aload_n 0, 1, 0)] 1 = true := by decide +kernel
theorem s_NoteBox_init_4 : dsq c_NoteBox_init 4 [(.aload_n 0, 1, 0)] 5 = true := by decide +kernel
theorem s_NoteBox_init_8 : dsq c_NoteBox_init 8 [(.dup, 1, 0)] 9 = true := by decide +kernel
theorem d_NoteBox_init_1 : decode c_NoteBox_init 1 = .ok (.invokespecial 3, 3) := by decide +kernel
theorem d_NoteBox_init_5 : decode c_NoteBox_init 5 = .ok (.new 9, 3) := by decide +kernel
theorem d_NoteBox_init_9 : decode c_NoteBox_init 9 = .ok (.invokespecial 11, 3) := by decide +kernel
theorem d_NoteBox_init_12 : decode c_NoteBox_init 12 = .ok (.putfield 12, 3) := by decide +kernel
theorem d_NoteBox_init_15 : decode c_NoteBox_init 15 = .ok (.return_, 1) := by decide +kernel
theorem s_LH_sign_0 : dsq c_LH_sign 0 [(.iload_n 1, 1, 0), (.bipush 97, 2, 97)] 3 = true := by decide +kernel
theorem s_LH_sign_6 : dsq c_LH_sign 6 [(.iload_n 1, 1, 0), (.bipush 122, 2, 122)] 9 = true := by decide +kernel
theorem s_LH_sign_12 : dsq c_LH_sign 12 [(.iconst (-1), 1, (-1))] 13 = true := by decide +kernel
theorem s_LH_sign_14 : dsq c_LH_sign 14 [(.aload_n 0, 1, 0)] 15 = true := by decide +kernel
theorem s_LH_sign_21 : dsq c_LH_sign 21 [(.istore_n 2, 1, 0), (.iload_n 2, 1, 0), (.bipush 6, 2, 6)] 25 = true := by decide +kernel
theorem s_LH_sign_28 : dsq c_LH_sign 28 [(.bipush (-3), 2, (-3))] 30 = true := by decide +kernel
theorem s_LH_sign_31 : dsq c_LH_sign 31 [(.aload_n 0, 1, 0), (.aload_n 0, 1, 0)] 33 = true := by decide +kernel
theorem s_LH_sign_36 : dsq c_LH_sign 36 [(.bipush 26, 2, 26), (.imul, 1, 0), (.iload_n 1, 1, 0), (.bipush 97, 2, 97), (.isub, 1, 0), (.iconst 1, 1, 1), (.iadd, 1, 0), (.iadd, 1, 0)] 46 = true := by decide +kernel
theorem s_LH_sign_49 : dsq c_LH_sign 49 [(.iload_n 2, 1, 0), (.iconst 1, 1, 1), (.iadd, 1, 0)] 52 = true := by decide +kernel
theorem d_LH_sign_3 : decode c_LH_sign 3 = .ok (.if_icmp .lt 9, 3) := by decide +kernel
theorem d_LH_sign_9 : decode c_LH_sign 9 = .ok (.if_icmp .le 5, 3) := by decide +kernel
theorem d_LH_sign_13 : decode c_LH_sign 13 = .ok (.ireturn, 1) := by decide +kernel
theorem d_LH_sign_15 : decode c_LH_sign 15 = .ok (.getfield 35, 3) := by decide +kernel
theorem d_LH_sign_18 : decode c_LH_sign 18 = .ok (.invokestatic 43, 3) := by decide +kernel
theorem d_LH_sign_25 : decode c_LH_sign 25 = .ok (.if_icmp .lt 6, 3) := by decide +kernel
theorem d_LH_sign_30 : decode c_LH_sign 30 = .ok (.ireturn, 1) := by decide +kernel
theorem d_LH_sign_33 : decode c_LH_sign 33 = .ok (.getfield 35, 3) := by decide +kernel
theorem d_LH_sign_46 : decode c_LH_sign 46 = .ok (.putfield 35, 3) := by decide +kernel
theorem d_LH_sign_52 : decode c_LH_sign 52 = .ok (.ireturn, 1) := by decide +kernel
theorem s_LH_lengthOf_0 : dsq c_LH_lengthOf 0 [(.iconst 0, 1, 0), (.istore_n 1, 1, 0), (.iload_n 0, 1, 0), (.istore_n 2, 1, 0)] 4 = true := by decide +kernel
theorem s_LH_lengthOf_4 : dsq c_LH_lengthOf 4 [(.iload_n 1, 1, 0), (.bipush 6, 2, 6)] 7 = true := by decide +kernel
theorem s_LH_lengthOf_10 : dsq c_LH_lengthOf 10 [(.iload_n 2, 1, 0)] 11 = true := by decide +kernel
theorem s_LH_lengthOf_14 : dsq c_LH_lengthOf 14 [(.iload_n 2, 1, 0)] 15 = true := by decide +kernel
theorem s_LH_lengthOf_18 : dsq c_LH_lengthOf 18 [(.istore_n 2, 1, 0), (.iinc 1 1, 3, 1), (.goto (-18), 3, 0)] 4 = true := by decide +kernel
theorem s_LH_lengthOf_25 : dsq c_LH_lengthOf 25 [(.iload_n 1, 1, 0)] 26 = true := by decide +kernel
theorem d_LH_lengthOf_7 : decode c_LH_lengthOf 7 = .ok (.if_icmp .ge 18, 3) := by decide +kernel
theorem d_LH_lengthOf_11 : decode c_LH_lengthOf 11 = .ok (.ifCond .eq 14, 3) := by decide +kernel
theorem d_LH_lengthOf_15 : decode c_LH_lengthOf 15 = .ok (.invokestatic 188, 3) := by decide +kernel
theorem d_LH_lengthOf_26 : decode c_LH_lengthOf 26 = .ok (.ireturn, 1) := by decide +kernel
theorem s_LH_withoutLastLetter_0 : dsq c_LH_withoutLastLetter 0 [(.iload_n 0, 1, 0), (.iconst 1, 1, 1), (.isub, 1, 0), (.bipush 26, 2, 26)] 5 = true := by decide +kernel
theorem d_LH_withoutLastLetter_5 : decode c_LH_withoutLastLetter 5 = .ok (.idiv, 1) := by decide +kernel
theorem d_LH_withoutLastLetter_6 : decode c_LH_withoutLastLetter 6 = .ok (.ireturn, 1) := by decide +kernel
theorem s_LH_erase_0 : dsq c_LH_erase 0 [(.aload_n 0, 1, 0)] 1 = true := by decide +kernel
theorem s_LH_erase_7 : dsq c_LH_erase 7 [(.istore_n 1, 1, 0), (.aload_n 0, 1, 0), (.iconst 0, 1, 0)] 10 = true := by decide +kernel
theorem s_LH_erase_13 : dsq c_LH_erase 13 [(.iload_n 1, 1, 0)] 14 = true := by decide +kernel
theorem d_LH_erase_1 : decode c_LH_erase 1 = .ok (.getfield 35, 3) := by decide +kernel
theorem d_LH_erase_4 : decode c_LH_erase 4 = .ok (.invokestatic 43, 3) := by decide +kernel
theorem d_LH_erase_10 : decode c_LH_erase 10 = .ok (.putfield 35, 3) := by decide +kernel
theorem d_LH_erase_14 : decode c_LH_erase 14 = .ok (.ireturn, 1) := by decide +kernel
theorem s_LH_want_0 : dsq c_LH_want 0 [(.aload_n 0, 1, 0), (.iload_n 1, 1, 0)] 2 = true := by decide +kernel
theorem s_LH_want_8 : dsq c_LH_want 8 [(.iload_n 2, 1, 0)] 9 = true := by decide +kernel
theorem s_LH_want_15 : dsq c_LH_want 15 [(.iconst (-1), 1, (-1))] 16 = true := by decide +kernel
theorem s_LH_want_17 : dsq c_LH_want 17 [(.aload_n 0, 1, 0), (.aload_n 0, 1, 0)] 19 = true := by decide +kernel
theorem s_LH_want_25 : dsq c_LH_want 25 [(.astore_n 3, 1, 0), (.aload_n 3, 1, 0)] 27 = true := by decide +kernel
theorem s_LH_want_30 : dsq c_LH_want 30 [(.iconst (-1), 1, (-1))] 31 = true := by decide +kernel
theorem s_LH_want_32 : dsq c_LH_want 32 [(.aload_n 3, 1, 0)] 33 = true := by decide +kernel
theorem s_LH_want_39 : dsq c_LH_want 39 [(.aload_n 0, 1, 0), (.aload_n 3, 1, 0), (.iload_n 1, 1, 0), (.iload_n 2, 1, 0)] 43 = true := by decide +kernel
theorem s_LH_want_47 : dsq c_LH_want 47 [(.aload_n 0, 1, 0), (.aload_n 3, 1, 0), (.iload_n 1, 1, 0), (.iload_n 2, 1, 0), (.iconst 1, 1, 1)] 52 = true := by decide +kernel
theorem s_LH_want_55 : dsq c_LH_want 55 [(.iconst 0, 1, 0)] 56 = true := by decide +kernel
theorem d_LH_want_2 : decode c_LH_want 2 = .ok (.invokevirtual 47, 3) := by decide +kernel
theorem d_LH_want_5 : decode c_LH_want 5 = .ok (.ifCond .eq 10, 3) := by decide +kernel
theorem d_LH_want_9 : decode c_LH_want 9 = .ok (.invokestatic 51, 3) := by decide +kernel
theorem d_LH_want_12 : decode c_LH_want 12 = .ok (.ifCond .ne 5, 3) := by decide +kernel
theorem d_LH_want_16 : decode c_LH_want 16 = .ok (.ireturn, 1) := by decide +kernel
theorem d_LH_want_19 : decode c_LH_want 19 = .ok (.getfield 35, 3) := by decide +kernel
theorem d_LH_want_22 : decode c_LH_want 22 = .ok (.invokevirtual 54, 3) := by decide +kernel
theorem d_LH_want_27 : decode c_LH_want 27 = .ok (.ifnonnull 5, 3) := by decide +kernel
theorem d_LH_want_31 : decode c_LH_want 31 = .ok (.ireturn, 1) := by decide +kernel
theorem d_LH_want_33 : decode c_LH_want 33 = .ok (.invokevirtual 58, 3) := by decide +kernel
theorem d_LH_want_36 : decode c_LH_want 36 = .ok (.ifCond .eq 11, 3) := by decide +kernel
theorem d_LH_want_43 : decode c_LH_want 43 = .ok (.invokevirtual 64, 3) := by decide +kernel
theorem d_LH_want_46 : decode c_LH_want 46 = .ok (.ireturn, 1) := by decide +kernel
theorem d_LH_want_52 : decode c_LH_want 52 = .ok (.invokevirtual 68, 3) := by decide +kernel
theorem d_LH_want_56 : decode c_LH_want 56 = .ok (.ireturn, 1) := by decide +kernel
theorem s_LH_hasNameAnd_0 : dsq c_LH_hasNameAnd 0 [(.aload_n 0, 1, 0)] 1 = true := by decide +kernel
theorem s_LH_hasNameAnd_7 : dsq c_LH_hasNameAnd 7 [(.iload_n 1, 1, 0)] 8 = true := by decide +kernel
theorem s_LH_hasNameAnd_14 : dsq c_LH_hasNameAnd 14 [(.iconst 1, 1, 1), (.goto 4, 3, 0)] 19 = true := by decide +kernel
theorem s_LH_hasNameAnd_18 : dsq c_LH_hasNameAnd 18 [(.iconst 0, 1, 0)] 19 = true := by decide +kernel
theorem d_LH_hasNameAnd_1 : decode c_LH_hasNameAnd 1 = .ok (.getfield 35, 3) := by decide +kernel
theorem d_LH_hasNameAnd_4 : decode c_LH_hasNameAnd 4 = .ok (.ifCond .eq 14, 3) := by decide +kernel
theorem d_LH_hasNameAnd_8 : decode c_LH_hasNameAnd 8 = .ok (.invokestatic 168, 3) := by decide +kernel
theorem d_LH_hasNameAnd_11 : decode c_LH_hasNameAnd 11 = .ok (.ifCond .eq 7, 3) := by decide +kernel
theorem d_LH_hasNameAnd_19 : decode c_LH_hasNameAnd 19 = .ok (.ireturn, 1) := by decide +kernel
theorem s_LH_isClient_0 : dsq c_LH_isClient 0 [(.iload_n 0, 1, 0)] 1 = true := by decide +kernel
theorem s_LH_isClient_4 : dsq c_LH_isClient 4 [(.iload_n 0, 1, 0), (.bipush 16, 2, 16)] 7 = true := by decide +kernel
theorem s_LH_isClient_10 : dsq c_LH_isClient 10 [(.iconst 1, 1, 1), (.goto 4, 3, 0)] 15 = true := by decide +kernel
theorem s_LH_isClient_14 : dsq c_LH_isClient 14 [(.iconst 0, 1, 0)] 15 = true := by decide +kernel
theorem d_LH_isClient_1 : decode c_LH_isClient 1 = .ok (.ifCond .lt 13, 3) := by decide +kernel
theorem d_LH_isClient_7 : decode c_LH_isClient 7 = .ok (.if_icmp .ge 7, 3) := by decide +kernel
theorem d_LH_isClient_15 : decode c_LH_isClient 15 = .ok (.ireturn, 1) := by decide +kernel
theorem s_LH_isLeaseTime_0 : dsq c_LH_isLeaseTime 0 [(.iload_n 0, 1, 0), (.iconst 1, 1, 1)] 2 = true := by decide +kernel
theorem s_LH_isLeaseTime_5 : dsq c_LH_isLeaseTime 5 [(.iload_n 0, 1, 0), (.bipush 100, 2, 100)] 8 = true := by decide +kernel
theorem s_LH_isLeaseTime_11 : dsq c_LH_isLeaseTime 11 [(.iconst 1, 1, 1), (.goto 4, 3, 0)] 16 = true := by decide +kernel
theorem s_LH_isLeaseTime_15 : dsq c_LH_isLeaseTime 15 [(.iconst 0, 1, 0)] 16 = true := by decide +kernel
theorem d_LH_isLeaseTime_2 : decode c_LH_isLeaseTime 2 = .ok (.if_icmp .lt 13, 3) := by decide +kernel
theorem d_LH_isLeaseTime_8 : decode c_LH_isLeaseTime 8 = .ok (.if_icmp .gt 7, 3) := by decide +kernel
theorem d_LH_isLeaseTime_16 : decode c_LH_isLeaseTime 16 = .ok (.ireturn, 1) := by decide +kernel
theorem s_LH_findOrAddThing_0 : dsq c_LH_findOrAddThing 0 [(.aload_n 0, 1, 0), (.iload_n 1, 1, 0)] 2 = true := by decide +kernel
theorem s_LH_findOrAddThing_5 : dsq c_LH_findOrAddThing 5 [(.astore_n 2, 1, 0), (.aload_n 2, 1, 0)] 7 = true := by decide +kernel
theorem s_LH_findOrAddThing_10 : dsq c_LH_findOrAddThing 10 [(.aload_n 0, 1, 0)] 11 = true := by decide +kernel
theorem s_LH_findOrAddThing_17 : dsq c_LH_findOrAddThing 17 [(.sipush 512, 3, 512)] 20 = true := by decide +kernel
theorem s_LH_findOrAddThing_26 : dsq c_LH_findOrAddThing 26 [(.dup, 1, 0), (.iload_n 1, 1, 0)] 28 = true := by decide +kernel
theorem s_LH_findOrAddThing_31 : dsq c_LH_findOrAddThing 31 [(.astore_n 2, 1, 0), (.aload_n 0, 1, 0)] 33 = true := by decide +kernel
theorem s_LH_findOrAddThing_36 : dsq c_LH_findOrAddThing 36 [(.aload_n 2, 1, 0)] 37 = true := by decide +kernel
theorem s_LH_findOrAddThing_40 : dsq c_LH_findOrAddThing 40 [(.pop, 1, 0), (.aload_n 2, 1, 0)] 42 = true := by decide +kernel
theorem s_LH_findOrAddThing_41 : dsq c_LH_findOrAddThing 41 [(.aload_n 2, 1, 0)] 42 = true := by decide +kernel
theorem d_LH_findOrAddThing_2 : decode c_LH_findOrAddThing 2 = .ok (.invokevirtual 85, 3) := by decide +kernel
theorem d_LH_findOrAddThing_7 : decode c_LH_findOrAddThing 7 = .ok (.ifnonnull 34, 3) := by decide +kernel
theorem d_LH_findOrAddThing_11 : decode c_LH_findOrAddThing 11 = .ok (.getfield 10, 3) := by decide +kernel
theorem d_LH_findOrAddThing_14 : decode c_LH_findOrAddThing 14 = .ok (.invokevirtual 98, 3) := by decide +kernel
theorem d_LH_findOrAddThing_20 : decode c_LH_findOrAddThing 20 = .ok (.if_icmp .ge 21, 3) := by decide +kernel
theorem d_LH_findOrAddThing_23 : decode c_LH_findOrAddThing 23 = .ok (.new 59, 3) := by decide +kernel
theorem d_LH_findOrAddThing_28 : decode c_LH_findOrAddThing 28 = .ok (.invokespecial 203, 3) := by decide +kernel
theorem d_LH_findOrAddThing_33 : decode c_LH_findOrAddThing 33 = .ok (.getfield 10, 3) := by decide +kernel
theorem d_LH_findOrAddThing_37 : decode c_LH_findOrAddThing 37 = .ok (.invokevirtual 154, 3) := by decide +kernel
theorem d_LH_findOrAddThing_42 : decode c_LH_findOrAddThing 42 = .ok (.areturn, 1) := by decide +kernel
theorem s_LH_findThing_0 : dsq c_LH_findThing 0 [(.iconst 0, 1, 0), (.istore_n 2, 1, 0)] 2 = true := by decide +kernel
theorem s_LH_findThing_2 : dsq c_LH_findThing 2 [(.iload_n 2, 1, 0), (.aload_n 0, 1, 0)] 4 = true := by decide +kernel
theorem s_LH_findThing_13 : dsq c_LH_findThing 13 [(.aload_n 0, 1, 0)] 14 = true := by decide +kernel
theorem s_LH_findThing_17 : dsq c_LH_findThing 17 [(.iload_n 2, 1, 0)] 18 = true := by decide +kernel
theorem s_LH_findThing_27 : dsq c_LH_findThing 27 [(.iload_n 1, 1, 0)] 28 = true := by decide +kernel
theorem s_LH_findThing_31 : dsq c_LH_findThing 31 [(.aload_n 0, 1, 0)] 32 = true := by decide +kernel
theorem s_LH_findThing_35 : dsq c_LH_findThing 35 [(.iload_n 2, 1, 0)] 36 = true := by decide +kernel
theorem s_LH_findThing_43 : dsq c_LH_findThing 43 [(.iinc 2 1, 3, 1), (.goto (-44), 3, 0)] 2 = true := by decide +kernel
theorem s_LH_findThing_49 : dsq c_LH_findThing 49 [(.aconst_null, 1, 0)] 50 = true := by decide +kernel
theorem d_LH_findThing_4 : decode c_LH_findThing 4 = .ok (.getfield 10, 3) := by decide +kernel
theorem d_LH_findThing_7 : decode c_LH_findThing 7 = .ok (.invokevirtual 98, 3) := by decide +kernel
theorem d_LH_findThing_10 : decode c_LH_findThing 10 = .ok (.if_icmp .ge 39, 3) := by decide +kernel
theorem d_LH_findThing_14 : decode c_LH_findThing 14 = .ok (.getfield 10, 3) := by decide +kernel
theorem d_LH_findThing_18 : decode c_LH_findThing 18 = .ok (.invokevirtual 106, 3) := by decide +kernel
theorem d_LH_findThing_21 : decode c_LH_findThing 21 = .ok (.checkcast 59, 3) := by decide +kernel
theorem d_LH_findThing_24 : decode c_LH_findThing 24 = .ok (.getfield 114, 3) := by decide +kernel
theorem d_LH_findThing_28 : decode c_LH_findThing 28 = .ok (.if_icmp .ne 15, 3) := by decide +kernel
theorem d_LH_findThing_32 : decode c_LH_findThing 32 = .ok (.getfield 10, 3) := by decide +kernel
theorem d_LH_findThing_36 : decode c_LH_findThing 36 = .ok (.invokevirtual 106, 3) := by decide +kernel
theorem d_LH_findThing_39 : decode c_LH_findThing 39 = .ok (.checkcast 59, 3) := by decide +kernel
theorem d_LH_findThing_42 : decode c_LH_findThing 42 = .ok (.areturn, 1) := by decide +kernel
theorem d_LH_findThing_50 : decode c_LH_findThing 50 = .ok (.areturn, 1) := by decide +kernel
theorem s_Thing_init_0 : dsq c_Thing_init 0 [(.aload_n 0, 1, 0)] 1 = true := by decide +kernel
theorem s_Thing_init_4 : dsq c_Thing_init 4 [(.aload_n 0, 1, 0)] 5 = true := by decide +kernel
theorem s_Thing_init_8 : dsq c_Thing_init 8 [(.dup, 1, 0)] 9 = true := by decide +kernel
theorem s_Thing_init_15 : dsq c_Thing_init 15 [(.aload_n 0, 1, 0), (.bipush (-2), 2, (-2))] 18 = true := by decide +kernel
theorem s_Thing_init_21 : dsq c_Thing_init 21 [(.aload_n 0, 1, 0), (.iconst 0, 1, 0)] 23 = true := by decide +kernel
theorem s_Thing_init_26 : dsq c_Thing_init 26 [(.aload_n 0, 1, 0), (.iconst 0, 1, 0)] 28 = true := by decide +kernel
theorem s_Thing_init_31 : dsq c_Thing_init 31 [(.aload_n 0, 1, 0), (.iconst 0, 1, 0)] 33 = true := by decide +kernel
theorem s_Thing_init_36 : dsq c_Thing_init 36 [(.aload_n 0, 1, 0), (.iload_n 1, 1, 0)] 38 = true := by decide +kernel
theorem d_Thing_init_1 : decode c_Thing_init 1 = .ok (.invokespecial 3, 3) := by decide +kernel
theorem d_Thing_init_5 : decode c_Thing_init 5 = .ok (.new 9, 3) := by decide +kernel
theorem d_Thing_init_9 : decode c_Thing_init 9 = .ok (.invokespecial 11, 3) := by decide +kernel
theorem d_Thing_init_12 : decode c_Thing_init 12 = .ok (.putfield 12, 3) := by decide +kernel
theorem d_Thing_init_18 : decode c_Thing_init 18 = .ok (.putfield 18, 3) := by decide +kernel
theorem d_Thing_init_23 : decode c_Thing_init 23 = .ok (.putfield 22, 3) := by decide +kernel
theorem d_Thing_init_28 : decode c_Thing_init 28 = .ok (.putfield 25, 3) := by decide +kernel
theorem d_Thing_init_33 : decode c_Thing_init 33 = .ok (.putfield 28, 3) := by decide +kernel
theorem d_Thing_init_38 : decode c_Thing_init 38 = .ok (.putfield 31, 3) := by decide +kernel
theorem d_Thing_init_41 : decode c_Thing_init 41 = .ok (.return_, 1) := by decide +kernel
theorem s_Thing_isLent_0 : dsq c_Thing_isLent 0 [(.aload_n 0, 1, 0)] 1 = true := by decide +kernel
theorem s_Thing_isLent_4 : dsq c_Thing_isLent 4 [(.bipush (-2), 2, (-2))] 6 = true := by decide +kernel
theorem s_Thing_isLent_9 : dsq c_Thing_isLent 9 [(.iconst 1, 1, 1), (.goto 4, 3, 0)] 14 = true := by decide +kernel
theorem s_Thing_isLent_13 : dsq c_Thing_isLent 13 [(.iconst 0, 1, 0)] 14 = true := by decide +kernel
theorem d_Thing_isLent_1 : decode c_Thing_isLent 1 = .ok (.getfield 18, 3) := by decide +kernel
theorem d_Thing_isLent_6 : decode c_Thing_isLent 6 = .ok (.if_icmp .eq 7, 3) := by decide +kernel
theorem d_Thing_isLent_14 : decode c_Thing_isLent 14 = .ok (.ireturn, 1) := by decide +kernel
theorem s_LH_lineUp_0 : dsq c_LH_lineUp 0 [(.aload_n 1, 1, 0)] 1 = true := by decide +kernel
theorem s_LH_lineUp_4 : dsq c_LH_lineUp 4 [(.iload_n 2, 1, 0)] 5 = true := by decide +kernel
theorem s_LH_lineUp_8 : dsq c_LH_lineUp 8 [(.aload_n 1, 1, 0), (.iload_n 2, 1, 0)] 10 = true := by decide +kernel
theorem s_LH_lineUp_13 : dsq c_LH_lineUp 13 [(.bipush (-2), 2, (-2))] 15 = true := by decide +kernel
theorem s_LH_lineUp_18 : dsq c_LH_lineUp 18 [(.bipush (-2), 2, (-2))] 20 = true := by decide +kernel
theorem s_LH_lineUp_21 : dsq c_LH_lineUp 21 [(.aload_n 1, 1, 0)] 22 = true := by decide +kernel
theorem s_LH_lineUp_28 : dsq c_LH_lineUp 28 [(.iconst 5, 1, 5)] 29 = true := by decide +kernel
theorem s_LH_lineUp_32 : dsq c_LH_lineUp 32 [(.bipush (-3), 2, (-3))] 34 = true := by decide +kernel
theorem s_LH_lineUp_35 : dsq c_LH_lineUp 35 [(.aload_n 1, 1, 0)] 36 = true := by decide +kernel
theorem s_LH_lineUp_42 : dsq c_LH_lineUp 42 [(.dup, 1, 0), (.iload_n 2, 1, 0), (.iload_n 3, 1, 0), (.aload_n 0, 1, 0)] 46 = true := by decide +kernel
theorem s_LH_lineUp_55 : dsq c_LH_lineUp 55 [(.pop, 1, 0), (.aload_n 1, 1, 0)] 57 = true := by decide +kernel
theorem d_LH_lineUp_1 : decode c_LH_lineUp 1 = .ok (.getfield 79, 3) := by decide +kernel
theorem d_LH_lineUp_5 : decode c_LH_lineUp 5 = .ok (.if_icmp .eq 13, 3) := by decide +kernel
theorem d_LH_lineUp_10 : decode c_LH_lineUp 10 = .ok (.invokevirtual 88, 3) := by decide +kernel
theorem d_LH_lineUp_15 : decode c_LH_lineUp 15 = .ok (.if_icmp .eq 6, 3) := by decide +kernel
theorem d_LH_lineUp_20 : decode c_LH_lineUp 20 = .ok (.ireturn, 1) := by decide +kernel
theorem d_LH_lineUp_22 : decode c_LH_lineUp 22 = .ok (.getfield 91, 3) := by decide +kernel
theorem d_LH_lineUp_25 : decode c_LH_lineUp 25 = .ok (.invokevirtual 98, 3) := by decide +kernel
theorem d_LH_lineUp_29 : decode c_LH_lineUp 29 = .ok (.if_icmp .lt 6, 3) := by decide +kernel
theorem d_LH_lineUp_34 : decode c_LH_lineUp 34 = .ok (.ireturn, 1) := by decide +kernel
theorem d_LH_lineUp_36 : decode c_LH_lineUp 36 = .ok (.getfield 91, 3) := by decide +kernel
theorem d_LH_lineUp_39 : decode c_LH_lineUp 39 = .ok (.new 109, 3) := by decide +kernel
theorem d_LH_lineUp_46 : decode c_LH_lineUp 46 = .ok (.getfield 39, 3) := by decide +kernel
theorem d_LH_lineUp_49 : decode c_LH_lineUp 49 = .ok (.invokespecial 210, 3) := by decide +kernel
theorem d_LH_lineUp_52 : decode c_LH_lineUp 52 = .ok (.invokevirtual 154, 3) := by decide +kernel
theorem d_LH_lineUp_57 : decode c_LH_lineUp 57 = .ok (.getfield 91, 3) := by decide +kernel
theorem d_LH_lineUp_60 : decode c_LH_lineUp 60 = .ok (.invokevirtual 98, 3) := by decide +kernel
theorem d_LH_lineUp_63 : decode c_LH_lineUp 63 = .ok (.ireturn, 1) := by decide +kernel
theorem s_Thing_placeOf_0 : dsq c_Thing_placeOf 0 [(.iconst 0, 1, 0), (.istore_n 2, 1, 0)] 2 = true := by decide +kernel
theorem s_Thing_placeOf_2 : dsq c_Thing_placeOf 2 [(.iload_n 2, 1, 0), (.aload_n 0, 1, 0)] 4 = true := by decide +kernel
theorem s_Thing_placeOf_13 : dsq c_Thing_placeOf 13 [(.aload_n 0, 1, 0)] 14 = true := by decide +kernel
theorem s_Thing_placeOf_17 : dsq c_Thing_placeOf 17 [(.iload_n 2, 1, 0)] 18 = true := by decide +kernel
theorem s_Thing_placeOf_27 : dsq c_Thing_placeOf 27 [(.iload_n 1, 1, 0)] 28 = true := by decide +kernel
theorem s_Thing_placeOf_31 : dsq c_Thing_placeOf 31 [(.iload_n 2, 1, 0)] 32 = true := by decide +kernel
theorem s_Thing_placeOf_33 : dsq c_Thing_placeOf 33 [(.iinc 2 1, 3, 1), (.goto (-34), 3, 0)] 2 = true := by decide +kernel
theorem s_Thing_placeOf_39 : dsq c_Thing_placeOf 39 [(.bipush (-2), 2, (-2))] 41 = true := by decide +kernel
theorem d_Thing_placeOf_4 : decode c_Thing_placeOf 4 = .ok (.getfield 12, 3) := by decide +kernel
theorem d_Thing_placeOf_7 : decode c_Thing_placeOf 7 = .ok (.invokevirtual 34, 3) := by decide +kernel
theorem d_Thing_placeOf_10 : decode c_Thing_placeOf 10 = .ok (.if_icmp .ge 29, 3) := by decide +kernel
theorem d_Thing_placeOf_14 : decode c_Thing_placeOf 14 = .ok (.getfield 12, 3) := by decide +kernel
theorem d_Thing_placeOf_18 : decode c_Thing_placeOf 18 = .ok (.invokevirtual 38, 3) := by decide +kernel
theorem d_Thing_placeOf_21 : decode c_Thing_placeOf 21 = .ok (.checkcast 42, 3) := by decide +kernel
theorem d_Thing_placeOf_24 : decode c_Thing_placeOf 24 = .ok (.invokevirtual 44, 3) := by decide +kernel
theorem d_Thing_placeOf_28 : decode c_Thing_placeOf 28 = .ok (.if_icmp .ne 5, 3) := by decide +kernel
theorem d_Thing_placeOf_32 : decode c_Thing_placeOf 32 = .ok (.ireturn, 1) := by decide +kernel
theorem d_Thing_placeOf_41 : decode c_Thing_placeOf 41 = .ok (.ireturn, 1) := by decide +kernel
theorem s_Waiter_client_0 : dsq c_Waiter_client 0 [(.aload_n 0, 1, 0)] 1 = true := by decide +kernel
theorem d_Waiter_client_1 : decode c_Waiter_client 1 = .ok (.getfield 7, 3) := by decide +kernel
theorem d_Waiter_client_4 : decode c_Waiter_client 4 = .ok (.ireturn, 1) := by decide +kernel
theorem s_Waiter_init_0 : dsq c_Waiter_init 0 [(.aload_n 0, 1, 0)] 1 = true := by decide +kernel
theorem s_Waiter_init_4 : dsq c_Waiter_init 4 [(.aload_n 0, 1, 0), (.iload_n 1, 1, 0)] 6 = true := by decide +kernel
theorem s_Waiter_init_9 : dsq c_Waiter_init 9 [(.aload_n 0, 1, 0), (.iload_n 2, 1, 0)] 11 = true := by decide +kernel
theorem s_Waiter_init_14 : dsq c_Waiter_init 14 [(.aload_n 0, 1, 0), (.iload_n 3, 1, 0)] 16 = true := by decide +kernel
theorem d_Waiter_init_1 : decode c_Waiter_init 1 = .ok (.invokespecial 1, 3) := by decide +kernel
theorem d_Waiter_init_6 : decode c_Waiter_init 6 = .ok (.putfield 7, 3) := by decide +kernel
theorem d_Waiter_init_11 : decode c_Waiter_init 11 = .ok (.putfield 13, 3) := by decide +kernel
theorem d_Waiter_init_16 : decode c_Waiter_init 16 = .ok (.putfield 16, 3) := by decide +kernel
theorem d_Waiter_init_19 : decode c_Waiter_init 19 = .ok (.return_, 1) := by decide +kernel
theorem s_Rcd_init_0 : dsq c_Rcd_init 0 [(.aload_n 0, 1, 0)] 1 = true := by decide +kernel
theorem d_Rcd_init_1 : decode c_Rcd_init 1 = .ok (.invokespecial 1, 3) := by decide +kernel
theorem d_Rcd_init_4 : decode c_Rcd_init 4 = .ok (.return_, 1) := by decide +kernel
theorem s_LH_lend_0 : dsq c_LH_lend 0 [(.aload_n 1, 1, 0), (.iload_n 2, 1, 0)] 2 = true := by decide +kernel
theorem s_LH_lend_5 : dsq c_LH_lend 5 [(.aload_n 1, 1, 0), (.aload_n 0, 1, 0)] 7 = true := by decide +kernel
theorem s_LH_lend_10 : dsq c_LH_lend 10 [(.iload_n 3, 1, 0), (.iadd, 1, 0)] 12 = true := by decide +kernel
theorem s_LH_lend_15 : dsq c_LH_lend 15 [(.aload_n 0, 1, 0), (.aload_n 1, 1, 0), (.iload 4, 2, 0)] 19 = true := by decide +kernel
theorem d_LH_lend_2 : decode c_LH_lend 2 = .ok (.putfield 79, 3) := by decide +kernel
theorem d_LH_lend_7 : decode c_LH_lend 7 = .ok (.getfield 39, 3) := by decide +kernel
theorem d_LH_lend_12 : decode c_LH_lend 12 = .ok (.putfield 82, 3) := by decide +kernel
theorem d_LH_lend_19 : decode c_LH_lend 19 = .ok (.invokevirtual 211, 3) := by decide +kernel
theorem d_LH_lend_22 : decode c_LH_lend 22 = .ok (.return_, 1) := by decide +kernel
theorem s_LH_tellChange_0 : dsq c_LH_tellChange 0 [(.aload_n 1, 1, 0), (.dup, 1, 0)] 2 = true := by decide +kernel
theorem s_LH_tellChange_5 : dsq c_LH_tellChange 5 [(.iconst 1, 1, 1), (.iadd, 1, 0)] 7 = true := by decide +kernel
theorem s_LH_tellChange_10 : dsq c_LH_tellChange 10 [(.aload_n 1, 1, 0)] 11 = true := by decide +kernel
theorem s_LH_tellChange_21 : dsq c_LH_tellChange 21 [(.dup, 1, 0), (.aload_n 1, 1, 0)] 23 = true := by decide +kernel
theorem s_LH_tellChange_26 : dsq c_LH_tellChange 26 [(.iload_n 2, 1, 0)] 27 = true := by decide +kernel
theorem s_LH_tellChange_30 : dsq c_LH_tellChange 30 [(.astore_n 3, 1, 0), (.iconst 0, 1, 0), (.istore 4, 2, 0)] 34 = true := by decide +kernel
theorem s_LH_tellChange_34 : dsq c_LH_tellChange 34 [(.iload 4, 2, 0), (.bipush 16, 2, 16)] 38 = true := by decide +kernel
theorem s_LH_tellChange_41 : dsq c_LH_tellChange 41 [(.aload_n 1, 1, 0), (.iload 4, 2, 0)] 44 = true := by decide +kernel
theorem s_LH_tellChange_50 : dsq c_LH_tellChange 50 [(.aload_n 0, 1, 0)] 51 = true := by decide +kernel
theorem s_LH_tellChange_54 : dsq c_LH_tellChange 54 [(.iload 4, 2, 0)] 56 = true := by decide +kernel
theorem s_LH_tellChange_57 : dsq c_LH_tellChange 57 [(.aload_n 3, 1, 0)] 58 = true := by decide +kernel
theorem s_LH_tellChange_61 : dsq c_LH_tellChange 61 [(.iinc 4 1, 3, 1), (.goto (-30), 3, 0)] 34 = true := by decide +kernel
theorem d_LH_tellChange_2 : decode c_LH_tellChange 2 = .ok (.getfield 223, 3) := by decide +kernel
theorem d_LH_tellChange_7 : decode c_LH_tellChange 7 = .ok (.putfield 223, 3) := by decide +kernel
theorem d_LH_tellChange_11 : decode c_LH_tellChange 11 = .ok (.getfield 160, 3) := by decide +kernel
theorem d_LH_tellChange_14 : decode c_LH_tellChange 14 = .ok (.ifCond .ne 4, 3) := by decide +kernel
theorem d_LH_tellChange_17 : decode c_LH_tellChange 17 = .ok (.return_, 1) := by decide +kernel
theorem d_LH_tellChange_18 : decode c_LH_tellChange 18 = .ok (.new 176, 3) := by decide +kernel
theorem d_LH_tellChange_23 : decode c_LH_tellChange 23 = .ok (.getfield 114, 3) := by decide +kernel
theorem d_LH_tellChange_27 : decode c_LH_tellChange 27 = .ok (.invokespecial 226, 3) := by decide +kernel
theorem d_LH_tellChange_38 : decode c_LH_tellChange 38 = .ok (.if_icmp .ge 29, 3) := by decide +kernel
theorem d_LH_tellChange_44 : decode c_LH_tellChange 44 = .ok (.invokevirtual 227, 3) := by decide +kernel
theorem d_LH_tellChange_47 : decode c_LH_tellChange 47 = .ok (.ifCond .eq 14, 3) := by decide +kernel
theorem d_LH_tellChange_51 : decode c_LH_tellChange 51 = .ok (.getfield 24, 3) := by decide +kernel
theorem d_LH_tellChange_56 : decode c_LH_tellChange 56 = .ok (.aaload, 1) := by decide +kernel
theorem d_LH_tellChange_58 : decode c_LH_tellChange 58 = .ok (.invokevirtual 230, 3) := by decide +kernel
theorem d_LH_tellChange_67 : decode c_LH_tellChange 67 = .ok (.return_, 1) := by decide +kernel
theorem s_Note_init_0 : dsq c_Note_init 0 [(.aload_n 0, 1, 0)] 1 = true := by decide +kernel
theorem s_Note_init_4 : dsq c_Note_init 4 [(.aload_n 0, 1, 0), (.iload_n 1, 1, 0)] 6 = true := by decide +kernel
theorem s_Note_init_9 : dsq c_Note_init 9 [(.aload_n 0, 1, 0), (.iload_n 2, 1, 0)] 11 = true := by decide +kernel
theorem d_Note_init_1 : decode c_Note_init 1 = .ok (.invokespecial 1, 3) := by decide +kernel
theorem d_Note_init_6 : decode c_Note_init 6 = .ok (.putfield 7, 3) := by decide +kernel
theorem d_Note_init_11 : decode c_Note_init 11 = .ok (.putfield 13, 3) := by decide +kernel
theorem d_Note_init_14 : decode c_Note_init 14 = .ok (.return_, 1) := by decide +kernel
theorem s_Thing_isWatchedBy_0 : dsq c_Thing_isWatchedBy 0 [(.aload_n 0, 1, 0)] 1 = true := by decide +kernel
theorem s_Thing_isWatchedBy_4 : dsq c_Thing_isWatchedBy 4 [(.iload_n 1, 1, 0), (.ishr, 1, 0), (.iconst 1, 1, 1), (.iand, 1, 0), (.iconst 1, 1, 1)] 9 = true := by decide +kernel
theorem s_Thing_isWatchedBy_12 : dsq c_Thing_isWatchedBy 12 [(.iconst 1, 1, 1), (.goto 4, 3, 0)] 17 = true := by decide +kernel
theorem s_Thing_isWatchedBy_16 : dsq c_Thing_isWatchedBy 16 [(.iconst 0, 1, 0)] 17 = true := by decide +kernel
theorem d_Thing_isWatchedBy_1 : decode c_Thing_isWatchedBy 1 = .ok (.getfield 28, 3) := by decide +kernel
theorem d_Thing_isWatchedBy_9 : decode c_Thing_isWatchedBy 9 = .ok (.if_icmp .ne 7, 3) := by decide +kernel
theorem d_Thing_isWatchedBy_17 : decode c_Thing_isWatchedBy 17 = .ok (.ireturn, 1) := by decide +kernel
theorem s_NoteBox_put_0 : dsq c_NoteBox_put 0 [(.aload_n 0, 1, 0)] 1 = true := by decide +kernel
theorem s_NoteBox_put_7 : dsq c_NoteBox_put 7 [(.bipush 8, 2, 8)] 9 = true := by decide +kernel
theorem s_NoteBox_put_12 : dsq c_NoteBox_put 12 [(.aload_n 0, 1, 0)] 13 = true := by decide +kernel
theorem s_NoteBox_put_16 : dsq c_NoteBox_put 16 [(.iconst 0, 1, 0)] 17 = true := by decide +kernel
theorem s_NoteBox_put_20 : dsq c_NoteBox_put 20 [(.pop, 1, 0), (.aload_n 0, 1, 0)] 22 = true := by decide +kernel
theorem s_NoteBox_put_21 : dsq c_NoteBox_put 21 [(.aload_n 0, 1, 0)] 22 = true := by decide +kernel
theorem s_NoteBox_put_25 : dsq c_NoteBox_put 25 [(.aload_n 1, 1, 0)] 26 = true := by decide +kernel
theorem s_NoteBox_put_29 : dsq c_NoteBox_put 29 [(.pop, 1, 0)] 30 = true := by decide +kernel
theorem d_NoteBox_put_1 : decode c_NoteBox_put 1 = .ok (.getfield 12, 3) := by decide +kernel
theorem d_NoteBox_put_4 : decode c_NoteBox_put 4 = .ok (.invokevirtual 18, 3) := by decide +kernel
theorem d_NoteBox_put_9 : decode c_NoteBox_put 9 = .ok (.if_icmp .lt 12, 3) := by decide +kernel
theorem d_NoteBox_put_13 : decode c_NoteBox_put 13 = .ok (.getfield 12, 3) := by decide +kernel
theorem d_NoteBox_put_17 : decode c_NoteBox_put 17 = .ok (.invokevirtual 22, 3) := by decide +kernel
theorem d_NoteBox_put_22 : decode c_NoteBox_put 22 = .ok (.getfield 12, 3) := by decide +kernel
theorem d_NoteBox_put_26 : decode c_NoteBox_put 26 = .ok (.invokevirtual 26, 3) := by decide +kernel
theorem d_NoteBox_put_30 : decode c_NoteBox_put 30 = .ok (.return_, 1) := by decide +kernel
theorem s_LH_free_0 : dsq c_LH_free 0 [(.aload_n 0, 1, 0), (.iload_n 1, 1, 0)] 2 = true := by decide +kernel
theorem s_LH_free_5 : dsq c_LH_free 5 [(.astore_n 2, 1, 0), (.aload_n 2, 1, 0)] 7 = true := by decide +kernel
theorem s_LH_free_10 : dsq c_LH_free 10 [(.iconst (-1), 1, (-1))] 11 = true := by decide +kernel
theorem s_LH_free_12 : dsq c_LH_free 12 [(.aload_n 0, 1, 0), (.aload_n 2, 1, 0)] 14 = true := by decide +kernel
theorem s_LH_free_17 : dsq c_LH_free 17 [(.aload_n 2, 1, 0)] 18 = true := by decide +kernel
theorem d_LH_free_2 : decode c_LH_free 2 = .ok (.invokevirtual 72, 3) := by decide +kernel
theorem d_LH_free_7 : decode c_LH_free 7 = .ok (.ifnonnull 5, 3) := by decide +kernel
theorem d_LH_free_11 : decode c_LH_free 11 = .ok (.ireturn, 1) := by decide +kernel
theorem d_LH_free_14 : decode c_LH_free 14 = .ok (.invokevirtual 75, 3) := by decide +kernel
theorem d_LH_free_18 : decode c_LH_free 18 = .ok (.getfield 79, 3) := by decide +kernel
theorem d_LH_free_21 : decode c_LH_free 21 = .ok (.ireturn, 1) := by decide +kernel
theorem s_LH_findThingHeldBy_0 : dsq c_LH_findThingHeldBy 0 [(.aload_n 0, 1, 0), (.iload_n 1, 1, 0)] 2 = true := by decide +kernel
theorem s_LH_findThingHeldBy_8 : dsq c_LH_findThingHeldBy 8 [(.aconst_null, 1, 0)] 9 = true := by decide +kernel
theorem s_LH_findThingHeldBy_10 : dsq c_LH_findThingHeldBy 10 [(.aload_n 0, 1, 0), (.aload_n 0, 1, 0)] 12 = true := by decide +kernel
theorem s_LH_findThingHeldBy_18 : dsq c_LH_findThingHeldBy 18 [(.astore_n 2, 1, 0), (.aload_n 2, 1, 0)] 20 = true := by decide +kernel
theorem s_LH_findThingHeldBy_23 : dsq c_LH_findThingHeldBy 23 [(.aload_n 2, 1, 0)] 24 = true := by decide +kernel
theorem s_LH_findThingHeldBy_27 : dsq c_LH_findThingHeldBy 27 [(.iload_n 1, 1, 0)] 28 = true := by decide +kernel
theorem s_LH_findThingHeldBy_31 : dsq c_LH_findThingHeldBy 31 [(.aload_n 2, 1, 0), (.goto 4, 3, 0)] 36 = true := by decide +kernel
theorem s_LH_findThingHeldBy_35 : dsq c_LH_findThingHeldBy 35 [(.aconst_null, 1, 0)] 36 = true := by decide +kernel
theorem d_LH_findThingHeldBy_2 : decode c_LH_findThingHeldBy 2 = .ok (.invokevirtual 47, 3) := by decide +kernel
theorem d_LH_findThingHeldBy_5 : decode c_LH_findThingHeldBy 5 = .ok (.ifCond .ne 5, 3) := by decide +kernel
theorem d_LH_findThingHeldBy_9 : decode c_LH_findThingHeldBy 9 = .ok (.areturn, 1) := by decide +kernel
theorem d_LH_findThingHeldBy_12 : decode c_LH_findThingHeldBy 12 = .ok (.getfield 35, 3) := by decide +kernel
theorem d_LH_findThingHeldBy_15 : decode c_LH_findThingHeldBy 15 = .ok (.invokevirtual 85, 3) := by decide +kernel
theorem d_LH_findThingHeldBy_20 : decode c_LH_findThingHeldBy 20 = .ok (.ifnull 15, 3) := by decide +kernel
theorem d_LH_findThingHeldBy_24 : decode c_LH_findThingHeldBy 24 = .ok (.getfield 79, 3) := by decide +kernel
theorem d_LH_findThingHeldBy_28 : decode c_LH_findThingHeldBy 28 = .ok (.if_icmp .ne 7, 3) := by decide +kernel
theorem d_LH_findThingHeldBy_36 : decode c_LH_findThingHeldBy 36 = .ok (.areturn, 1) := by decide +kernel
theorem s_LH_endLease_0 : dsq c_LH_endLease 0 [(.aload_n 1, 1, 0)] 1 = true := by decide +kernel
theorem s_LH_endLease_10 : dsq c_LH_endLease 10 [(.aload_n 1, 1, 0), (.bipush (-2), 2, (-2))] 13 = true := by decide +kernel
theorem s_LH_endLease_16 : dsq c_LH_endLease 16 [(.aload_n 0, 1, 0), (.aload_n 1, 1, 0), (.iconst 4, 1, 4)] 19 = true := by decide +kernel
theorem s_LH_endLease_23 : dsq c_LH_endLease 23 [(.aload_n 1, 1, 0)] 24 = true := by decide +kernel
theorem s_LH_endLease_27 : dsq c_LH_endLease 27 [(.iconst 0, 1, 0)] 28 = true := by decide +kernel
theorem s_LH_endLease_34 : dsq c_LH_endLease 34 [(.astore_n 2, 1, 0), (.aload_n 0, 1, 0)] 36 = true := by decide +kernel
theorem s_LH_endLease_39 : dsq c_LH_endLease 39 [(.aload_n 0, 1, 0)] 40 = true := by decide +kernel
theorem s_LH_endLease_43 : dsq c_LH_endLease 43 [(.aload_n 2, 1, 0)] 44 = true := by decide +kernel
theorem s_LH_endLease_47 : dsq c_LH_endLease 47 [(.isub, 1, 0)] 48 = true := by decide +kernel
theorem s_LH_endLease_51 : dsq c_LH_endLease 51 [(.aload_n 0, 1, 0), (.aload_n 1, 1, 0), (.aload_n 2, 1, 0)] 54 = true := by decide +kernel
theorem s_LH_endLease_57 : dsq c_LH_endLease 57 [(.aload_n 2, 1, 0)] 58 = true := by decide +kernel
theorem s_LH_endLease_61 : dsq c_LH_endLease 61 [(.iconst 2, 1, 2)] 62 = true := by decide +kernel
theorem d_LH_endLease_1 : decode c_LH_endLease 1 = .ok (.getfield 91, 3) := by decide +kernel
theorem d_LH_endLease_4 : decode c_LH_endLease 4 = .ok (.invokevirtual 130, 3) := by decide +kernel
theorem d_LH_endLease_7 : decode c_LH_endLease 7 = .ok (.ifCond .eq 16, 3) := by decide +kernel
theorem d_LH_endLease_13 : decode c_LH_endLease 13 = .ok (.putfield 79, 3) := by decide +kernel
theorem d_LH_endLease_19 : decode c_LH_endLease 19 = .ok (.invokevirtual 211, 3) := by decide +kernel
theorem d_LH_endLease_22 : decode c_LH_endLease 22 = .ok (.return_, 1) := by decide +kernel
theorem d_LH_endLease_24 : decode c_LH_endLease 24 = .ok (.getfield 91, 3) := by decide +kernel
theorem d_LH_endLease_28 : decode c_LH_endLease 28 = .ok (.invokevirtual 94, 3) := by decide +kernel
theorem d_LH_endLease_31 : decode c_LH_endLease 31 = .ok (.checkcast 109, 3) := by decide +kernel
theorem d_LH_endLease_36 : decode c_LH_endLease 36 = .ok (.getfield 31, 3) := by decide +kernel
theorem d_LH_endLease_40 : decode c_LH_endLease 40 = .ok (.getfield 39, 3) := by decide +kernel
theorem d_LH_endLease_44 : decode c_LH_endLease 44 = .ok (.invokevirtual 215, 3) := by decide +kernel
theorem d_LH_endLease_48 : decode c_LH_endLease 48 = .ok (.invokevirtual 218, 3) := by decide +kernel
theorem d_LH_endLease_54 : decode c_LH_endLease 54 = .ok (.invokevirtual 111, 3) := by decide +kernel
theorem d_LH_endLease_58 : decode c_LH_endLease 58 = .ok (.invokevirtual 220, 3) := by decide +kernel
theorem d_LH_endLease_62 : decode c_LH_endLease 62 = .ok (.invokevirtual 68, 3) := by decide +kernel
theorem d_LH_endLease_65 : decode c_LH_endLease 65 = .ok (.return_, 1) := by decide +kernel
theorem s_Waiter_since_0 : dsq c_Waiter_since 0 [(.aload_n 0, 1, 0)] 1 = true := by decide +kernel
theorem d_Waiter_since_1 : decode c_Waiter_since 1 = .ok (.getfield 16, 3) := by decide +kernel
theorem d_Waiter_since_4 : decode c_Waiter_since 4 = .ok (.ireturn, 1) := by decide +kernel
theorem s_WaitTimes_add_0 : dsq c_WaitTimes_add 0 [(.aload_n 0, 1, 0)] 1 = true := by decide +kernel
theorem s_WaitTimes_add_4 : dsq c_WaitTimes_add 4 [(.aload_n 0, 1, 0)] 5 = true := by decide +kernel
theorem s_WaitTimes_add_12 : dsq c_WaitTimes_add 12 [(.aload_n 0, 1, 0)] 13 = true := by decide +kernel
theorem s_WaitTimes_add_16 : dsq c_WaitTimes_add 16 [(.aload_n 0, 1, 0)] 17 = true := by decide +kernel
theorem s_WaitTimes_add_20 : dsq c_WaitTimes_add 20 [(.iload_n 1, 1, 0)] 21 = true := by decide +kernel
theorem s_WaitTimes_add_22 : dsq c_WaitTimes_add 22 [(.aload_n 0, 1, 0), (.dup, 1, 0)] 24 = true := by decide +kernel
theorem s_WaitTimes_add_27 : dsq c_WaitTimes_add 27 [(.iconst 1, 1, 1), (.iadd, 1, 0)] 29 = true := by decide +kernel
theorem d_WaitTimes_add_1 : decode c_WaitTimes_add 1 = .ok (.getfield 15, 3) := by decide +kernel
theorem d_WaitTimes_add_5 : decode c_WaitTimes_add 5 = .ok (.getfield 9, 3) := by decide +kernel
theorem d_WaitTimes_add_8 : decode c_WaitTimes_add 8 = .ok (.arraylength, 1) := by decide +kernel
theorem d_WaitTimes_add_9 : decode c_WaitTimes_add 9 = .ok (.if_icmp .ge 23, 3) := by decide +kernel
theorem d_WaitTimes_add_13 : decode c_WaitTimes_add 13 = .ok (.getfield 9, 3) := by decide +kernel
theorem d_WaitTimes_add_17 : decode c_WaitTimes_add 17 = .ok (.getfield 15, 3) := by decide +kernel
theorem d_WaitTimes_add_21 : decode c_WaitTimes_add 21 = .ok (.iastore, 1) := by decide +kernel
theorem d_WaitTimes_add_24 : decode c_WaitTimes_add 24 = .ok (.getfield 15, 3) := by decide +kernel
theorem d_WaitTimes_add_29 : decode c_WaitTimes_add 29 = .ok (.putfield 15, 3) := by decide +kernel
theorem d_WaitTimes_add_32 : decode c_WaitTimes_add 32 = .ok (.return_, 1) := by decide +kernel
theorem s_Waiter_ticks_0 : dsq c_Waiter_ticks 0 [(.aload_n 0, 1, 0)] 1 = true := by decide +kernel
theorem d_Waiter_ticks_1 : decode c_Waiter_ticks 1 = .ok (.getfield 13, 3) := by decide +kernel
theorem d_Waiter_ticks_4 : decode c_Waiter_ticks 4 = .ok (.ireturn, 1) := by decide +kernel
theorem s_LH_renew_0 : dsq c_LH_renew 0 [(.aload_n 0, 1, 0), (.iload_n 1, 1, 0)] 2 = true := by decide +kernel
theorem s_LH_renew_5 : dsq c_LH_renew 5 [(.astore_n 3, 1, 0), (.aload_n 3, 1, 0)] 7 = true := by decide +kernel
theorem s_LH_renew_10 : dsq c_LH_renew 10 [(.iload_n 2, 1, 0)] 11 = true := by decide +kernel
theorem s_LH_renew_17 : dsq c_LH_renew 17 [(.iconst (-1), 1, (-1))] 18 = true := by decide +kernel
theorem s_LH_renew_19 : dsq c_LH_renew 19 [(.aload_n 0, 1, 0), (.aload_n 3, 1, 0), (.iload_n 1, 1, 0), (.iload_n 2, 1, 0), (.iconst 3, 1, 3)] 24 = true := by decide +kernel
theorem s_LH_renew_27 : dsq c_LH_renew 27 [(.aload_n 3, 1, 0)] 28 = true := by decide +kernel
theorem d_LH_renew_2 : decode c_LH_renew 2 = .ok (.invokevirtual 72, 3) := by decide +kernel
theorem d_LH_renew_7 : decode c_LH_renew 7 = .ok (.ifnull 10, 3) := by decide +kernel
theorem d_LH_renew_11 : decode c_LH_renew 11 = .ok (.invokestatic 51, 3) := by decide +kernel
theorem d_LH_renew_14 : decode c_LH_renew 14 = .ok (.ifCond .ne 5, 3) := by decide +kernel
theorem d_LH_renew_18 : decode c_LH_renew 18 = .ok (.ireturn, 1) := by decide +kernel
theorem d_LH_renew_24 : decode c_LH_renew 24 = .ok (.invokevirtual 68, 3) := by decide +kernel
theorem d_LH_renew_28 : decode c_LH_renew 28 = .ok (.getfield 82, 3) := by decide +kernel
theorem d_LH_renew_31 : decode c_LH_renew 31 = .ok (.ireturn, 1) := by decide +kernel
theorem s_LH_leave_0 : dsq c_LH_leave 0 [(.aload_n 0, 1, 0), (.iload_n 1, 1, 0)] 2 = true := by decide +kernel
theorem s_LH_leave_8 : dsq c_LH_leave 8 [(.iconst (-1), 1, (-1))] 9 = true := by decide +kernel
theorem s_LH_leave_10 : dsq c_LH_leave 10 [(.aload_n 0, 1, 0), (.aload_n 0, 1, 0)] 12 = true := by decide +kernel
theorem s_LH_leave_18 : dsq c_LH_leave 18 [(.astore_n 2, 1, 0), (.aload_n 2, 1, 0)] 20 = true := by decide +kernel
theorem s_LH_leave_23 : dsq c_LH_leave 23 [(.bipush (-2), 2, (-2))] 25 = true := by decide +kernel
theorem s_LH_leave_26 : dsq c_LH_leave 26 [(.aload_n 2, 1, 0), (.iload_n 1, 1, 0)] 28 = true := by decide +kernel
theorem s_LH_leave_31 : dsq c_LH_leave 31 [(.istore_n 3, 1, 0), (.iload_n 3, 1, 0), (.bipush (-2), 2, (-2))] 35 = true := by decide +kernel
theorem s_LH_leave_38 : dsq c_LH_leave 38 [(.bipush (-2), 2, (-2))] 40 = true := by decide +kernel
theorem s_LH_leave_41 : dsq c_LH_leave 41 [(.aload_n 2, 1, 0)] 42 = true := by decide +kernel
theorem s_LH_leave_45 : dsq c_LH_leave 45 [(.iload_n 3, 1, 0)] 46 = true := by decide +kernel
theorem s_LH_leave_49 : dsq c_LH_leave 49 [(.pop, 1, 0), (.aload_n 2, 1, 0)] 51 = true := by decide +kernel
theorem d_LH_leave_2 : decode c_LH_leave 2 = .ok (.invokevirtual 47, 3) := by decide +kernel
theorem d_LH_leave_5 : decode c_LH_leave 5 = .ok (.ifCond .ne 5, 3) := by decide +kernel
theorem d_LH_leave_9 : decode c_LH_leave 9 = .ok (.ireturn, 1) := by decide +kernel
theorem d_LH_leave_12 : decode c_LH_leave 12 = .ok (.getfield 35, 3) := by decide +kernel
theorem d_LH_leave_15 : decode c_LH_leave 15 = .ok (.invokevirtual 85, 3) := by decide +kernel
theorem d_LH_leave_20 : decode c_LH_leave 20 = .ok (.ifnonnull 6, 3) := by decide +kernel
theorem d_LH_leave_25 : decode c_LH_leave 25 = .ok (.ireturn, 1) := by decide +kernel
theorem d_LH_leave_28 : decode c_LH_leave 28 = .ok (.invokevirtual 88, 3) := by decide +kernel
theorem d_LH_leave_35 : decode c_LH_leave 35 = .ok (.if_icmp .ne 6, 3) := by decide +kernel
theorem d_LH_leave_40 : decode c_LH_leave 40 = .ok (.ireturn, 1) := by decide +kernel
theorem d_LH_leave_42 : decode c_LH_leave 42 = .ok (.getfield 91, 3) := by decide +kernel
theorem d_LH_leave_46 : decode c_LH_leave 46 = .ok (.invokevirtual 94, 3) := by decide +kernel
theorem d_LH_leave_51 : decode c_LH_leave 51 = .ok (.getfield 91, 3) := by decide +kernel
theorem d_LH_leave_54 : decode c_LH_leave 54 = .ok (.invokevirtual 98, 3) := by decide +kernel
theorem d_LH_leave_57 : decode c_LH_leave 57 = .ok (.ireturn, 1) := by decide +kernel
theorem s_LH_tick_0 : dsq c_LH_tick 0 [(.iload_n 1, 1, 0)] 1 = true := by decide +kernel
theorem s_LH_tick_4 : dsq c_LH_tick 4 [(.iload_n 1, 1, 0), (.bipush 60, 2, 60)] 7 = true := by decide +kernel
theorem s_LH_tick_10 : dsq c_LH_tick 10 [(.iconst (-1), 1, (-1))] 11 = true := by decide +kernel
theorem s_LH_tick_12 : dsq c_LH_tick 12 [(.aload_n 0, 1, 0)] 13 = true := by decide +kernel
theorem s_LH_tick_16 : dsq c_LH_tick 16 [(.iload_n 1, 1, 0), (.iadd, 1, 0), (.istore_n 2, 1, 0), (.iload_n 1, 1, 0), (.aload_n 0, 1, 0)] 21 = true := by decide +kernel
theorem s_LH_tick_27 : dsq c_LH_tick 27 [(.imul, 1, 0), (.istore_n 3, 1, 0), (.iconst 0, 1, 0), (.istore 4, 2, 0), (.aload_n 0, 1, 0)] 33 = true := by decide +kernel
theorem s_LH_tick_36 : dsq c_LH_tick 36 [(.astore 5, 2, 0)] 38 = true := by decide +kernel
theorem s_LH_tick_38 : dsq c_LH_tick 38 [(.iload 4, 2, 0), (.iload_n 3, 1, 0)] 41 = true := by decide +kernel
theorem s_LH_tick_44 : dsq c_LH_tick 44 [(.aload 5, 2, 0)] 46 = true := by decide +kernel
theorem s_LH_tick_49 : dsq c_LH_tick 49 [(.aload 5, 2, 0)] 51 = true := by decide +kernel
theorem s_LH_tick_54 : dsq c_LH_tick 54 [(.iload_n 2, 1, 0)] 55 = true := by decide +kernel
theorem s_LH_tick_58 : dsq c_LH_tick 58 [(.aload_n 0, 1, 0), (.aload 5, 2, 0)] 61 = true := by decide +kernel
theorem s_LH_tick_67 : dsq c_LH_tick 67 [(.aload_n 0, 1, 0), (.aload 5, 2, 0)] 70 = true := by decide +kernel
theorem s_LH_tick_73 : dsq c_LH_tick 73 [(.iinc 4 1, 3, 1), (.aload_n 0, 1, 0)] 77 = true := by decide +kernel
theorem s_LH_tick_80 : dsq c_LH_tick 80 [(.astore 5, 2, 0), (.goto (-44), 3, 0)] 38 = true := by decide +kernel
theorem s_LH_tick_85 : dsq c_LH_tick 85 [(.aload_n 0, 1, 0), (.iload_n 2, 1, 0)] 87 = true := by decide +kernel
theorem s_LH_tick_90 : dsq c_LH_tick 90 [(.iload 4, 2, 0)] 92 = true := by decide +kernel
theorem d_LH_tick_1 : decode c_LH_tick 1 = .ok (.ifCond .lt 9, 3) := by decide +kernel
theorem d_LH_tick_7 : decode c_LH_tick 7 = .ok (.if_icmp .le 5, 3) := by decide +kernel
theorem d_LH_tick_11 : decode c_LH_tick 11 = .ok (.ireturn, 1) := by decide +kernel
theorem d_LH_tick_13 : decode c_LH_tick 13 = .ok (.getfield 39, 3) := by decide +kernel
theorem d_LH_tick_21 : decode c_LH_tick 21 = .ok (.getfield 10, 3) := by decide +kernel
theorem d_LH_tick_24 : decode c_LH_tick 24 = .ok (.invokevirtual 98, 3) := by decide +kernel
theorem d_LH_tick_33 : decode c_LH_tick 33 = .ok (.invokevirtual 102, 3) := by decide +kernel
theorem d_LH_tick_41 : decode c_LH_tick 41 = .ok (.if_icmp .ge 44, 3) := by decide +kernel
theorem d_LH_tick_46 : decode c_LH_tick 46 = .ok (.ifnull 39, 3) := by decide +kernel
theorem d_LH_tick_51 : decode c_LH_tick 51 = .ok (.getfield 82, 3) := by decide +kernel
theorem d_LH_tick_55 : decode c_LH_tick 55 = .ok (.if_icmp .gt 30, 3) := by decide +kernel
theorem d_LH_tick_61 : decode c_LH_tick 61 = .ok (.getfield 82, 3) := by decide +kernel
theorem d_LH_tick_64 : decode c_LH_tick 64 = .ok (.putfield 39, 3) := by decide +kernel
theorem d_LH_tick_70 : decode c_LH_tick 70 = .ok (.invokevirtual 75, 3) := by decide +kernel
theorem d_LH_tick_77 : decode c_LH_tick 77 = .ok (.invokevirtual 102, 3) := by decide +kernel
theorem d_LH_tick_87 : decode c_LH_tick 87 = .ok (.putfield 39, 3) := by decide +kernel
theorem d_LH_tick_92 : decode c_LH_tick 92 = .ok (.ireturn, 1) := by decide +kernel
theorem s_LH_findNextToEnd_0 : dsq c_LH_findNextToEnd 0 [(.aconst_null, 1, 0), (.astore_n 1, 1, 0), (.iconst 0, 1, 0), (.istore_n 2, 1, 0)] 4 = true := by decide +kernel
theorem s_LH_findNextToEnd_4 : dsq c_LH_findNextToEnd 4 [(.iload_n 2, 1, 0), (.aload_n 0, 1, 0)] 6 = true := by decide +kernel
theorem s_LH_findNextToEnd_15 : dsq c_LH_findNextToEnd 15 [(.aload_n 0, 1, 0)] 16 = true := by decide +kernel
theorem s_LH_findNextToEnd_19 : dsq c_LH_findNextToEnd 19 [(.iload_n 2, 1, 0)] 20 = true := by decide +kernel
theorem s_LH_findNextToEnd_26 : dsq c_LH_findNextToEnd 26 [(.astore_n 3, 1, 0), (.aload_n 3, 1, 0)] 28 = true := by decide +kernel
theorem s_LH_findNextToEnd_34 : dsq c_LH_findNextToEnd 34 [(.aload_n 1, 1, 0)] 35 = true := by decide +kernel
theorem s_LH_findNextToEnd_38 : dsq c_LH_findNextToEnd 38 [(.aload_n 3, 1, 0), (.aload_n 1, 1, 0)] 40 = true := by decide +kernel
theorem s_LH_findNextToEnd_46 : dsq c_LH_findNextToEnd 46 [(.aload_n 3, 1, 0), (.astore_n 1, 1, 0), (.iinc 2 1, 3, 1), (.goto (-47), 3, 0)] 4 = true := by decide +kernel
theorem s_LH_findNextToEnd_48 : dsq c_LH_findNextToEnd 48 [(.iinc 2 1, 3, 1), (.goto (-47), 3, 0)] 4 = true := by decide +kernel
theorem s_LH_findNextToEnd_54 : dsq c_LH_findNextToEnd 54 [(.aload_n 1, 1, 0)] 55 = true := by decide +kernel
theorem d_LH_findNextToEnd_6 : decode c_LH_findNextToEnd 6 = .ok (.getfield 10, 3) := by decide +kernel
theorem d_LH_findNextToEnd_9 : decode c_LH_findNextToEnd 9 = .ok (.invokevirtual 98, 3) := by decide +kernel
theorem d_LH_findNextToEnd_12 : decode c_LH_findNextToEnd 12 = .ok (.if_icmp .ge 42, 3) := by decide +kernel
theorem d_LH_findNextToEnd_16 : decode c_LH_findNextToEnd 16 = .ok (.getfield 10, 3) := by decide +kernel
theorem d_LH_findNextToEnd_20 : decode c_LH_findNextToEnd 20 = .ok (.invokevirtual 106, 3) := by decide +kernel
theorem d_LH_findNextToEnd_23 : decode c_LH_findNextToEnd 23 = .ok (.checkcast 59, 3) := by decide +kernel
theorem d_LH_findNextToEnd_28 : decode c_LH_findNextToEnd 28 = .ok (.invokevirtual 58, 3) := by decide +kernel
theorem d_LH_findNextToEnd_31 : decode c_LH_findNextToEnd 31 = .ok (.ifCond .eq 17, 3) := by decide +kernel
theorem d_LH_findNextToEnd_35 : decode c_LH_findNextToEnd 35 = .ok (.ifnull 11, 3) := by decide +kernel
theorem d_LH_findNextToEnd_40 : decode c_LH_findNextToEnd 40 = .ok (.invokevirtual 206, 3) := by decide +kernel
theorem d_LH_findNextToEnd_43 : decode c_LH_findNextToEnd 43 = .ok (.ifCond .eq 5, 3) := by decide +kernel
theorem d_LH_findNextToEnd_55 : decode c_LH_findNextToEnd 55 = .ok (.areturn, 1) := by decide +kernel
theorem s_Thing_endsBefore_0 : dsq c_Thing_endsBefore 0 [(.aload_n 0, 1, 0)] 1 = true := by decide +kernel
theorem s_Thing_endsBefore_4 : dsq c_Thing_endsBefore 4 [(.aload_n 1, 1, 0)] 5 = true := by decide +kernel
theorem s_Thing_endsBefore_11 : dsq c_Thing_endsBefore 11 [(.aload_n 0, 1, 0)] 12 = true := by decide +kernel
theorem s_Thing_endsBefore_15 : dsq c_Thing_endsBefore 15 [(.aload_n 1, 1, 0)] 16 = true := by decide +kernel
theorem s_Thing_endsBefore_22 : dsq c_Thing_endsBefore 22 [(.iconst 1, 1, 1), (.goto 23, 3, 0)] 46 = true := by decide +kernel
theorem s_Thing_endsBefore_26 : dsq c_Thing_endsBefore 26 [(.iconst 0, 1, 0), (.goto 19, 3, 0)] 46 = true := by decide +kernel
theorem s_Thing_endsBefore_30 : dsq c_Thing_endsBefore 30 [(.aload_n 0, 1, 0)] 31 = true := by decide +kernel
theorem s_Thing_endsBefore_34 : dsq c_Thing_endsBefore 34 [(.aload_n 1, 1, 0)] 35 = true := by decide +kernel
theorem s_Thing_endsBefore_41 : dsq c_Thing_endsBefore 41 [(.iconst 1, 1, 1), (.goto 4, 3, 0)] 46 = true := by decide +kernel
theorem s_Thing_endsBefore_45 : dsq c_Thing_endsBefore 45 [(.iconst 0, 1, 0)] 46 = true := by decide +kernel
theorem d_Thing_endsBefore_1 : decode c_Thing_endsBefore 1 = .ok (.getfield 22, 3) := by decide +kernel
theorem d_Thing_endsBefore_5 : decode c_Thing_endsBefore 5 = .ok (.getfield 22, 3) := by decide +kernel
theorem d_Thing_endsBefore_8 : decode c_Thing_endsBefore 8 = .ok (.if_icmp .eq 22, 3) := by decide +kernel
theorem d_Thing_endsBefore_12 : decode c_Thing_endsBefore 12 = .ok (.getfield 22, 3) := by decide +kernel
theorem d_Thing_endsBefore_16 : decode c_Thing_endsBefore 16 = .ok (.getfield 22, 3) := by decide +kernel
theorem d_Thing_endsBefore_19 : decode c_Thing_endsBefore 19 = .ok (.if_icmp .ge 7, 3) := by decide +kernel
theorem d_Thing_endsBefore_31 : decode c_Thing_endsBefore 31 = .ok (.getfield 31, 3) := by decide +kernel
theorem d_Thing_endsBefore_35 : decode c_Thing_endsBefore 35 = .ok (.getfield 31, 3) := by decide +kernel
theorem d_Thing_endsBefore_38 : decode c_Thing_endsBefore 38 = .ok (.if_icmp .ge 7, 3) := by decide +kernel
theorem d_Thing_endsBefore_46 : decode c_Thing_endsBefore 46 = .ok (.ireturn, 1) := by decide +kernel
theorem s_LH_holder_0 : dsq c_LH_holder 0 [(.aload_n 0, 1, 0)] 1 = true := by decide +kernel
theorem s_LH_holder_7 : dsq c_LH_holder 7 [(.iconst (-1), 1, (-1))] 8 = true := by decide +kernel
theorem s_LH_holder_9 : dsq c_LH_holder 9 [(.aload_n 0, 1, 0), (.aload_n 0, 1, 0)] 11 = true := by decide +kernel
theorem s_LH_holder_17 : dsq c_LH_holder 17 [(.astore_n 1, 1, 0), (.aload_n 1, 1, 0)] 19 = true := by decide +kernel
theorem s_LH_holder_22 : dsq c_LH_holder 22 [(.bipush (-2), 2, (-2)), (.goto 7, 3, 0)] 31 = true := by decide +kernel
theorem s_LH_holder_27 : dsq c_LH_holder 27 [(.aload_n 1, 1, 0)] 28 = true := by decide +kernel
theorem d_LH_holder_1 : decode c_LH_holder 1 = .ok (.getfield 35, 3) := by decide +kernel
theorem d_LH_holder_4 : decode c_LH_holder 4 = .ok (.ifCond .ne 5, 3) := by decide +kernel
theorem d_LH_holder_8 : decode c_LH_holder 8 = .ok (.ireturn, 1) := by decide +kernel
theorem d_LH_holder_11 : decode c_LH_holder 11 = .ok (.getfield 35, 3) := by decide +kernel
theorem d_LH_holder_14 : decode c_LH_holder 14 = .ok (.invokevirtual 85, 3) := by decide +kernel
theorem d_LH_holder_19 : decode c_LH_holder 19 = .ok (.ifnonnull 8, 3) := by decide +kernel
theorem d_LH_holder_28 : decode c_LH_holder 28 = .ok (.getfield 79, 3) := by decide +kernel
theorem d_LH_holder_31 : decode c_LH_holder 31 = .ok (.ireturn, 1) := by decide +kernel
theorem s_LH_left_0 : dsq c_LH_left 0 [(.aload_n 0, 1, 0)] 1 = true := by decide +kernel
theorem s_LH_left_7 : dsq c_LH_left 7 [(.iconst (-1), 1, (-1))] 8 = true := by decide +kernel
theorem s_LH_left_9 : dsq c_LH_left 9 [(.aload_n 0, 1, 0), (.aload_n 0, 1, 0)] 11 = true := by decide +kernel
theorem s_LH_left_17 : dsq c_LH_left 17 [(.astore_n 1, 1, 0), (.aload_n 1, 1, 0)] 19 = true := by decide +kernel
theorem s_LH_left_22 : dsq c_LH_left 22 [(.aload_n 1, 1, 0)] 23 = true := by decide +kernel
theorem s_LH_left_29 : dsq c_LH_left 29 [(.bipush (-2), 2, (-2)), (.goto 12, 3, 0)] 43 = true := by decide +kernel
theorem s_LH_left_34 : dsq c_LH_left 34 [(.aload_n 1, 1, 0)] 35 = true := by decide +kernel
theorem s_LH_left_38 : dsq c_LH_left 38 [(.aload_n 0, 1, 0)] 39 = true := by decide +kernel
theorem s_LH_left_42 : dsq c_LH_left 42 [(.isub, 1, 0)] 43 = true := by decide +kernel
theorem d_LH_left_1 : decode c_LH_left 1 = .ok (.getfield 35, 3) := by decide +kernel
theorem d_LH_left_4 : decode c_LH_left 4 = .ok (.ifCond .ne 5, 3) := by decide +kernel
theorem d_LH_left_8 : decode c_LH_left 8 = .ok (.ireturn, 1) := by decide +kernel
theorem d_LH_left_11 : decode c_LH_left 11 = .ok (.getfield 35, 3) := by decide +kernel
theorem d_LH_left_14 : decode c_LH_left 14 = .ok (.invokevirtual 85, 3) := by decide +kernel
theorem d_LH_left_19 : decode c_LH_left 19 = .ok (.ifnull 10, 3) := by decide +kernel
theorem d_LH_left_23 : decode c_LH_left 23 = .ok (.invokevirtual 58, 3) := by decide +kernel
theorem d_LH_left_26 : decode c_LH_left 26 = .ok (.ifCond .ne 8, 3) := by decide +kernel
theorem d_LH_left_35 : decode c_LH_left 35 = .ok (.getfield 82, 3) := by decide +kernel
theorem d_LH_left_39 : decode c_LH_left 39 = .ok (.getfield 39, 3) := by decide +kernel
theorem d_LH_left_43 : decode c_LH_left 43 = .ok (.ireturn, 1) := by decide +kernel
theorem s_LH_waiting_0 : dsq c_LH_waiting 0 [(.aload_n 0, 1, 0)] 1 = true := by decide +kernel
theorem s_LH_waiting_7 : dsq c_LH_waiting 7 [(.iconst (-1), 1, (-1))] 8 = true := by decide +kernel
theorem s_LH_waiting_9 : dsq c_LH_waiting 9 [(.aload_n 0, 1, 0), (.aload_n 0, 1, 0)] 11 = true := by decide +kernel
theorem s_LH_waiting_17 : dsq c_LH_waiting 17 [(.astore_n 2, 1, 0), (.aload_n 2, 1, 0)] 19 = true := by decide +kernel
theorem s_LH_waiting_22 : dsq c_LH_waiting 22 [(.iload_n 1, 1, 0)] 23 = true := by decide +kernel
theorem s_LH_waiting_26 : dsq c_LH_waiting 26 [(.iload_n 1, 1, 0), (.aload_n 2, 1, 0)] 28 = true := by decide +kernel
theorem s_LH_waiting_37 : dsq c_LH_waiting 37 [(.bipush (-2), 2, (-2))] 39 = true := by decide +kernel
theorem s_LH_waiting_40 : dsq c_LH_waiting 40 [(.aload_n 2, 1, 0)] 41 = true := by decide +kernel
theorem s_LH_waiting_44 : dsq c_LH_waiting 44 [(.iload_n 1, 1, 0)] 45 = true := by decide +kernel
theorem d_LH_waiting_1 : decode c_LH_waiting 1 = .ok (.getfield 35, 3) := by decide +kernel
theorem d_LH_waiting_4 : decode c_LH_waiting 4 = .ok (.ifCond .ne 5, 3) := by decide +kernel
theorem d_LH_waiting_8 : decode c_LH_waiting 8 = .ok (.ireturn, 1) := by decide +kernel
theorem d_LH_waiting_11 : decode c_LH_waiting 11 = .ok (.getfield 35, 3) := by decide +kernel
theorem d_LH_waiting_14 : decode c_LH_waiting 14 = .ok (.invokevirtual 85, 3) := by decide +kernel
theorem d_LH_waiting_19 : decode c_LH_waiting 19 = .ok (.ifnull 18, 3) := by decide +kernel
theorem d_LH_waiting_23 : decode c_LH_waiting 23 = .ok (.ifCond .lt 14, 3) := by decide +kernel
theorem d_LH_waiting_28 : decode c_LH_waiting 28 = .ok (.getfield 91, 3) := by decide +kernel
theorem d_LH_waiting_31 : decode c_LH_waiting 31 = .ok (.invokevirtual 98, 3) := by decide +kernel
theorem d_LH_waiting_34 : decode c_LH_waiting 34 = .ok (.if_icmp .lt 6, 3) := by decide +kernel
theorem d_LH_waiting_39 : decode c_LH_waiting 39 = .ok (.ireturn, 1) := by decide +kernel
theorem d_LH_waiting_41 : decode c_LH_waiting 41 = .ok (.getfield 91, 3) := by decide +kernel
theorem d_LH_waiting_45 : decode c_LH_waiting 45 = .ok (.invokevirtual 106, 3) := by decide +kernel
theorem d_LH_waiting_48 : decode c_LH_waiting 48 = .ok (.checkcast 109, 3) := by decide +kernel
theorem d_LH_waiting_51 : decode c_LH_waiting 51 = .ok (.invokevirtual 111, 3) := by decide +kernel
theorem d_LH_waiting_54 : decode c_LH_waiting 54 = .ok (.ireturn, 1) := by decide +kernel
theorem s_LH_first_0 : dsq c_LH_first 0 [(.aload_n 0, 1, 0)] 1 = true := by decide +kernel
theorem s_LH_first_4 : dsq c_LH_first 4 [(.astore_n 1, 1, 0), (.aload_n 1, 1, 0)] 6 = true := by decide +kernel
theorem s_LH_first_9 : dsq c_LH_first 9 [(.bipush (-2), 2, (-2))] 11 = true := by decide +kernel
theorem s_LH_first_12 : dsq c_LH_first 12 [(.aload_n 0, 1, 0), (.aload_n 1, 1, 0)] 14 = true := by decide +kernel
theorem s_LH_first_20 : dsq c_LH_first 20 [(.aload_n 1, 1, 0)] 21 = true := by decide +kernel
theorem d_LH_first_1 : decode c_LH_first 1 = .ok (.invokevirtual 102, 3) := by decide +kernel
theorem d_LH_first_6 : decode c_LH_first 6 = .ok (.ifnonnull 6, 3) := by decide +kernel
theorem d_LH_first_11 : decode c_LH_first 11 = .ok (.ireturn, 1) := by decide +kernel
theorem d_LH_first_14 : decode c_LH_first 14 = .ok (.getfield 114, 3) := by decide +kernel
theorem d_LH_first_17 : decode c_LH_first 17 = .ok (.putfield 35, 3) := by decide +kernel
theorem d_LH_first_21 : decode c_LH_first 21 = .ok (.getfield 79, 3) := by decide +kernel
theorem d_LH_first_24 : decode c_LH_first 24 = .ok (.ireturn, 1) := by decide +kernel
theorem s_LH_job_0 : dsq c_LH_job 0 [(.aload_n 0, 1, 0)] 1 = true := by decide +kernel
theorem s_LH_job_7 : dsq c_LH_job 7 [(.iconst (-1), 1, (-1))] 8 = true := by decide +kernel
theorem s_LH_job_9 : dsq c_LH_job 9 [(.aload_n 0, 1, 0)] 10 = true := by decide +kernel
theorem s_LH_job_16 : dsq c_LH_job 16 [(.bipush 30, 2, 30)] 18 = true := by decide +kernel
theorem s_LH_job_21 : dsq c_LH_job 21 [(.bipush (-3), 2, (-3))] 23 = true := by decide +kernel
theorem s_LH_job_27 : dsq c_LH_job 27 [(.dup, 1, 0), (.aload_n 0, 1, 0)] 29 = true := by decide +kernel
theorem s_LH_job_32 : dsq c_LH_job 32 [(.iload_n 1, 1, 0), (.iload_n 2, 1, 0)] 34 = true := by decide +kernel
theorem s_LH_job_37 : dsq c_LH_job 37 [(.astore_n 3, 1, 0), (.aload_n 0, 1, 0)] 39 = true := by decide +kernel
theorem s_LH_job_42 : dsq c_LH_job 42 [(.aload_n 0, 1, 0), (.aload_n 3, 1, 0)] 44 = true := by decide +kernel
theorem s_LH_job_47 : dsq c_LH_job 47 [(.aload_n 3, 1, 0)] 48 = true := by decide +kernel
theorem s_LH_job_51 : dsq c_LH_job 51 [(.aload_n 0, 1, 0)] 52 = true := by decide +kernel
theorem d_LH_job_1 : decode c_LH_job 1 = .ok (.getfield 35, 3) := by decide +kernel
theorem d_LH_job_4 : decode c_LH_job 4 = .ok (.ifCond .ne 5, 3) := by decide +kernel
theorem d_LH_job_8 : decode c_LH_job 8 = .ok (.ireturn, 1) := by decide +kernel
theorem d_LH_job_10 : decode c_LH_job 10 = .ok (.getfield 16, 3) := by decide +kernel
theorem d_LH_job_13 : decode c_LH_job 13 = .ok (.invokevirtual 98, 3) := by decide +kernel
theorem d_LH_job_18 : decode c_LH_job 18 = .ok (.if_icmp .lt 6, 3) := by decide +kernel
theorem d_LH_job_23 : decode c_LH_job 23 = .ok (.ireturn, 1) := by decide +kernel
theorem d_LH_job_24 : decode c_LH_job 24 = .ok (.new 117, 3) := by decide +kernel
theorem d_LH_job_29 : decode c_LH_job 29 = .ok (.getfield 35, 3) := by decide +kernel
theorem d_LH_job_34 : decode c_LH_job 34 = .ok (.invokespecial 119, 3) := by decide +kernel
theorem d_LH_job_39 : decode c_LH_job 39 = .ok (.getfield 16, 3) := by decide +kernel
theorem d_LH_job_44 : decode c_LH_job 44 = .ok (.invokevirtual 122, 3) := by decide +kernel
theorem d_LH_job_48 : decode c_LH_job 48 = .ok (.invokevirtual 126, 3) := by decide +kernel
theorem d_LH_job_52 : decode c_LH_job 52 = .ok (.getfield 16, 3) := by decide +kernel
theorem d_LH_job_55 : decode c_LH_job 55 = .ok (.invokevirtual 98, 3) := by decide +kernel
theorem d_LH_job_58 : decode c_LH_job 58 = .ok (.ireturn, 1) := by decide +kernel
theorem s_Job_init_0 : dsq c_Job_init 0 [(.aload_n 0, 1, 0)] 1 = true := by decide +kernel
theorem s_Job_init_4 : dsq c_Job_init 4 [(.aload_n 0, 1, 0), (.iload_n 1, 1, 0)] 6 = true := by decide +kernel
theorem s_Job_init_9 : dsq c_Job_init 9 [(.aload_n 0, 1, 0), (.iload_n 2, 1, 0)] 11 = true := by decide +kernel
theorem s_Job_init_14 : dsq c_Job_init 14 [(.aload_n 0, 1, 0), (.iload_n 3, 1, 0)] 16 = true := by decide +kernel
theorem d_Job_init_1 : decode c_Job_init 1 = .ok (.invokespecial 1, 3) := by decide +kernel
theorem d_Job_init_6 : decode c_Job_init 6 = .ok (.putfield 7, 3) := by decide +kernel
theorem d_Job_init_11 : decode c_Job_init 11 = .ok (.putfield 13, 3) := by decide +kernel
theorem d_Job_init_16 : decode c_Job_init 16 = .ok (.putfield 16, 3) := by decide +kernel
theorem d_Job_init_19 : decode c_Job_init 19 = .ok (.return_, 1) := by decide +kernel
theorem s_LH_findTurnOf_0 : dsq c_LH_findTurnOf 0 [(.iconst 0, 1, 0), (.istore_n 2, 1, 0)] 2 = true := by decide +kernel
theorem s_LH_findTurnOf_2 : dsq c_LH_findTurnOf 2 [(.iload_n 2, 1, 0), (.aload_n 0, 1, 0)] 4 = true := by decide +kernel
theorem s_LH_findTurnOf_13 : dsq c_LH_findTurnOf 13 [(.aload_n 1, 1, 0), (.aload_n 0, 1, 0)] 15 = true := by decide +kernel
theorem s_LH_findTurnOf_18 : dsq c_LH_findTurnOf 18 [(.iload_n 2, 1, 0)] 19 = true := by decide +kernel
theorem s_LH_findTurnOf_31 : dsq c_LH_findTurnOf 31 [(.iinc 2 1, 3, 1), (.goto (-32), 3, 0)] 2 = true := by decide +kernel
theorem s_LH_findTurnOf_37 : dsq c_LH_findTurnOf 37 [(.iload_n 2, 1, 0)] 38 = true := by decide +kernel
theorem d_LH_findTurnOf_4 : decode c_LH_findTurnOf 4 = .ok (.getfield 16, 3) := by decide +kernel
theorem d_LH_findTurnOf_7 : decode c_LH_findTurnOf 7 = .ok (.invokevirtual 98, 3) := by decide +kernel
theorem d_LH_findTurnOf_10 : decode c_LH_findTurnOf 10 = .ok (.if_icmp .ge 27, 3) := by decide +kernel
theorem d_LH_findTurnOf_15 : decode c_LH_findTurnOf 15 = .ok (.getfield 16, 3) := by decide +kernel
theorem d_LH_findTurnOf_19 : decode c_LH_findTurnOf 19 = .ok (.invokevirtual 106, 3) := by decide +kernel
theorem d_LH_findTurnOf_22 : decode c_LH_findTurnOf 22 = .ok (.checkcast 117, 3) := by decide +kernel
theorem d_LH_findTurnOf_25 : decode c_LH_findTurnOf 25 = .ok (.invokevirtual 234, 3) := by decide +kernel
theorem d_LH_findTurnOf_28 : decode c_LH_findTurnOf 28 = .ok (.ifCond .ne 9, 3) := by decide +kernel
theorem d_LH_findTurnOf_38 : decode c_LH_findTurnOf 38 = .ok (.ireturn, 1) := by decide +kernel
theorem s_Job_goesBefore_0 : dsq c_Job_goesBefore 0 [(.aload_n 0, 1, 0)] 1 = true := by decide +kernel
theorem s_Job_goesBefore_4 : dsq c_Job_goesBefore 4 [(.aload_n 1, 1, 0)] 5 = true := by decide +kernel
theorem s_Job_goesBefore_11 : dsq c_Job_goesBefore 11 [(.aload_n 0, 1, 0)] 12 = true := by decide +kernel
theorem s_Job_goesBefore_15 : dsq c_Job_goesBefore 15 [(.aload_n 1, 1, 0)] 16 = true := by decide +kernel
theorem s_Job_goesBefore_22 : dsq c_Job_goesBefore 22 [(.iconst 1, 1, 1), (.goto 23, 3, 0)] 46 = true := by decide +kernel
theorem s_Job_goesBefore_26 : dsq c_Job_goesBefore 26 [(.iconst 0, 1, 0), (.goto 19, 3, 0)] 46 = true := by decide +kernel
theorem s_Job_goesBefore_30 : dsq c_Job_goesBefore 30 [(.aload_n 0, 1, 0)] 31 = true := by decide +kernel
theorem s_Job_goesBefore_34 : dsq c_Job_goesBefore 34 [(.aload_n 1, 1, 0)] 35 = true := by decide +kernel
theorem s_Job_goesBefore_41 : dsq c_Job_goesBefore 41 [(.iconst 1, 1, 1), (.goto 4, 3, 0)] 46 = true := by decide +kernel
theorem s_Job_goesBefore_45 : dsq c_Job_goesBefore 45 [(.iconst 0, 1, 0)] 46 = true := by decide +kernel
theorem d_Job_goesBefore_1 : decode c_Job_goesBefore 1 = .ok (.getfield 13, 3) := by decide +kernel
theorem d_Job_goesBefore_5 : decode c_Job_goesBefore 5 = .ok (.getfield 13, 3) := by decide +kernel
theorem d_Job_goesBefore_8 : decode c_Job_goesBefore 8 = .ok (.if_icmp .eq 22, 3) := by decide +kernel
theorem d_Job_goesBefore_12 : decode c_Job_goesBefore 12 = .ok (.getfield 13, 3) := by decide +kernel
theorem d_Job_goesBefore_16 : decode c_Job_goesBefore 16 = .ok (.getfield 13, 3) := by decide +kernel
theorem d_Job_goesBefore_19 : decode c_Job_goesBefore 19 = .ok (.if_icmp .ge 7, 3) := by decide +kernel
theorem d_Job_goesBefore_31 : decode c_Job_goesBefore 31 = .ok (.getfield 16, 3) := by decide +kernel
theorem d_Job_goesBefore_35 : decode c_Job_goesBefore 35 = .ok (.getfield 16, 3) := by decide +kernel
theorem d_Job_goesBefore_38 : decode c_Job_goesBefore 38 = .ok (.if_icmp .ge 7, 3) := by decide +kernel
theorem d_Job_goesBefore_46 : decode c_Job_goesBefore 46 = .ok (.ireturn, 1) := by decide +kernel
theorem s_LH_work_0 : dsq c_LH_work 0 [(.aload_n 0, 1, 0)] 1 = true := by decide +kernel
theorem s_LH_work_10 : dsq c_LH_work 10 [(.aload_n 0, 1, 0)] 11 = true := by decide +kernel
theorem s_LH_work_14 : dsq c_LH_work 14 [(.iconst 0, 1, 0)] 15 = true := by decide +kernel
theorem s_LH_work_24 : dsq c_LH_work 24 [(.aload_n 0, 1, 0)] 25 = true := by decide +kernel
theorem s_LH_work_35 : dsq c_LH_work 35 [(.aload_n 0, 1, 0)] 36 = true := by decide +kernel
theorem s_LH_work_39 : dsq c_LH_work 39 [(.iconst 0, 1, 0)] 40 = true := by decide +kernel
theorem s_LH_work_46 : dsq c_LH_work 46 [(.astore_n 1, 1, 0), (.aload_n 0, 1, 0), (.aload_n 1, 1, 0)] 49 = true := by decide +kernel
theorem s_LH_work_55 : dsq c_LH_work 55 [(.aload_n 1, 1, 0)] 56 = true := by decide +kernel
theorem s_LH_work_59 : dsq c_LH_work 59 [(.i2l, 1, 0)] 60 = true := by decide +kernel
theorem d_LH_work_1 : decode c_LH_work 1 = .ok (.getfield 16, 3) := by decide +kernel
theorem d_LH_work_4 : decode c_LH_work 4 = .ok (.invokevirtual 130, 3) := by decide +kernel
theorem d_LH_work_7 : decode c_LH_work 7 = .ok (.ifCond .ne 24, 3) := by decide +kernel
theorem d_LH_work_11 : decode c_LH_work 11 = .ok (.getfield 16, 3) := by decide +kernel
theorem d_LH_work_15 : decode c_LH_work 15 = .ok (.invokevirtual 106, 3) := by decide +kernel
theorem d_LH_work_18 : decode c_LH_work 18 = .ok (.checkcast 117, 3) := by decide +kernel
theorem d_LH_work_21 : decode c_LH_work 21 = .ok (.invokevirtual 133, 3) := by decide +kernel
theorem d_LH_work_25 : decode c_LH_work 25 = .ok (.getfield 39, 3) := by decide +kernel
theorem d_LH_work_28 : decode c_LH_work 28 = .ok (.if_icmp .le 7, 3) := by decide +kernel
theorem d_LH_work_31 : decode c_LH_work 31 = .ok (.ldc2_w 136, 3) := by decide +kernel
theorem d_LH_work_34 : decode c_LH_work 34 = .ok (.lreturn, 1) := by decide +kernel
theorem d_LH_work_36 : decode c_LH_work 36 = .ok (.getfield 16, 3) := by decide +kernel
theorem d_LH_work_40 : decode c_LH_work 40 = .ok (.invokevirtual 94, 3) := by decide +kernel
theorem d_LH_work_43 : decode c_LH_work 43 = .ok (.checkcast 117, 3) := by decide +kernel
theorem d_LH_work_49 : decode c_LH_work 49 = .ok (.invokevirtual 138, 3) := by decide +kernel
theorem d_LH_work_52 : decode c_LH_work 52 = .ok (.putfield 35, 3) := by decide +kernel
theorem d_LH_work_56 : decode c_LH_work 56 = .ok (.invokevirtual 140, 3) := by decide +kernel
theorem d_LH_work_60 : decode c_LH_work 60 = .ok (.lreturn, 1) := by decide +kernel
theorem s_Job_due_0 : dsq c_Job_due 0 [(.aload_n 0, 1, 0)] 1 = true := by decide +kernel
theorem d_Job_due_1 : decode c_Job_due 1 = .ok (.getfield 16, 3) := by decide +kernel
theorem d_Job_due_4 : decode c_Job_due 4 = .ok (.ireturn, 1) := by decide +kernel
theorem s_Job_name_0 : dsq c_Job_name 0 [(.aload_n 0, 1, 0)] 1 = true := by decide +kernel
theorem d_Job_name_1 : decode c_Job_name 1 = .ok (.getfield 7, 3) := by decide +kernel
theorem d_Job_name_4 : decode c_Job_name 4 = .ok (.ireturn, 1) := by decide +kernel
theorem s_Job_rank_0 : dsq c_Job_rank 0 [(.aload_n 0, 1, 0)] 1 = true := by decide +kernel
theorem d_Job_rank_1 : decode c_Job_rank 1 = .ok (.getfield 13, 3) := by decide +kernel
theorem d_Job_rank_4 : decode c_Job_rank 4 = .ok (.ireturn, 1) := by decide +kernel
theorem s_LH_cancel_0 : dsq c_LH_cancel 0 [(.aload_n 0, 1, 0)] 1 = true := by decide +kernel
theorem s_LH_cancel_7 : dsq c_LH_cancel 7 [(.iconst (-1), 1, (-1))] 8 = true := by decide +kernel
theorem s_LH_cancel_9 : dsq c_LH_cancel 9 [(.aload_n 0, 1, 0)] 10 = true := by decide +kernel
theorem s_LH_cancel_16 : dsq c_LH_cancel 16 [(.istore_n 1, 1, 0), (.iload_n 1, 1, 0), (.iconst 1, 1, 1), (.isub, 1, 0), (.istore_n 2, 1, 0)] 21 = true := by decide +kernel
theorem s_LH_cancel_21 : dsq c_LH_cancel 21 [(.iload_n 2, 1, 0)] 22 = true := by decide +kernel
theorem s_LH_cancel_25 : dsq c_LH_cancel 25 [(.aload_n 0, 1, 0)] 26 = true := by decide +kernel
theorem s_LH_cancel_29 : dsq c_LH_cancel 29 [(.iload_n 2, 1, 0)] 30 = true := by decide +kernel
theorem s_LH_cancel_39 : dsq c_LH_cancel 39 [(.aload_n 0, 1, 0)] 40 = true := by decide +kernel
theorem s_LH_cancel_46 : dsq c_LH_cancel 46 [(.aload_n 0, 1, 0)] 47 = true := by decide +kernel
theorem s_LH_cancel_50 : dsq c_LH_cancel 50 [(.iload_n 2, 1, 0)] 51 = true := by decide +kernel
theorem s_LH_cancel_54 : dsq c_LH_cancel 54 [(.pop, 1, 0), (.iinc 2 (-1), 3, (-1)), (.goto (-37), 3, 0)] 21 = true := by decide +kernel
theorem s_LH_cancel_55 : dsq c_LH_cancel 55 [(.iinc 2 (-1), 3, (-1)), (.goto (-37), 3, 0)] 21 = true := by decide +kernel
theorem s_LH_cancel_61 : dsq c_LH_cancel 61 [(.iload_n 1, 1, 0), (.aload_n 0, 1, 0)] 63 = true := by decide +kernel
theorem s_LH_cancel_69 : dsq c_LH_cancel 69 [(.isub, 1, 0)] 70 = true := by decide +kernel
theorem d_LH_cancel_1 : decode c_LH_cancel 1 = .ok (.getfield 35, 3) := by decide +kernel
theorem d_LH_cancel_4 : decode c_LH_cancel 4 = .ok (.ifCond .ne 5, 3) := by decide +kernel
theorem d_LH_cancel_8 : decode c_LH_cancel 8 = .ok (.ireturn, 1) := by decide +kernel
theorem d_LH_cancel_10 : decode c_LH_cancel 10 = .ok (.getfield 16, 3) := by decide +kernel
theorem d_LH_cancel_13 : decode c_LH_cancel 13 = .ok (.invokevirtual 98, 3) := by decide +kernel
theorem d_LH_cancel_22 : decode c_LH_cancel 22 = .ok (.ifCond .lt 39, 3) := by decide +kernel
theorem d_LH_cancel_26 : decode c_LH_cancel 26 = .ok (.getfield 16, 3) := by decide +kernel
theorem d_LH_cancel_30 : decode c_LH_cancel 30 = .ok (.invokevirtual 106, 3) := by decide +kernel
theorem d_LH_cancel_33 : decode c_LH_cancel 33 = .ok (.checkcast 117, 3) := by decide +kernel
theorem d_LH_cancel_36 : decode c_LH_cancel 36 = .ok (.invokevirtual 138, 3) := by decide +kernel
theorem d_LH_cancel_40 : decode c_LH_cancel 40 = .ok (.getfield 35, 3) := by decide +kernel
theorem d_LH_cancel_43 : decode c_LH_cancel 43 = .ok (.if_icmp .ne 12, 3) := by decide +kernel
theorem d_LH_cancel_47 : decode c_LH_cancel 47 = .ok (.getfield 16, 3) := by decide +kernel
theorem d_LH_cancel_51 : decode c_LH_cancel 51 = .ok (.invokevirtual 94, 3) := by decide +kernel
theorem d_LH_cancel_63 : decode c_LH_cancel 63 = .ok (.getfield 16, 3) := by decide +kernel
theorem d_LH_cancel_66 : decode c_LH_cancel 66 = .ok (.invokevirtual 98, 3) := by decide +kernel
theorem d_LH_cancel_70 : decode c_LH_cancel 70 = .ok (.ireturn, 1) := by decide +kernel
theorem s_LH_ask_0 : dsq c_LH_ask 0 [(.aload_n 0, 1, 0)] 1 = true := by decide +kernel
theorem s_LH_ask_7 : dsq c_LH_ask 7 [(.iconst (-1), 1, (-1))] 8 = true := by decide +kernel
theorem s_LH_ask_9 : dsq c_LH_ask 9 [(.aload_n 0, 1, 0), (.aload_n 0, 1, 0)] 11 = true := by decide +kernel
theorem s_LH_ask_17 : dsq c_LH_ask 17 [(.istore_n 1, 1, 0), (.iload_n 1, 1, 0), (.bipush (-2), 2, (-2))] 21 = true := by decide +kernel
theorem s_LH_ask_27 : dsq c_LH_ask 27 [(.dup, 1, 0), (.aload_n 0, 1, 0)] 29 = true := by decide +kernel
theorem s_LH_ask_32 : dsq c_LH_ask 32 [(.sipush 1000, 3, 1000), (.aload_n 0, 1, 0), (.aload_n 0, 1, 0)] 37 = true := by decide +kernel
theorem s_LH_ask_43 : dsq c_LH_ask 43 [(.imul, 1, 0), (.aload_n 0, 1, 0)] 45 = true := by decide +kernel
theorem s_LH_ask_48 : dsq c_LH_ask 48 [(.iadd, 1, 0)] 49 = true := by decide +kernel
theorem s_LH_ask_52 : dsq c_LH_ask 52 [(.goto 14, 3, 0), (.astore_n 2, 1, 0), (.aload_n 0, 1, 0)] 68 = true := by decide +kernel
theorem s_LH_ask_55 : dsq c_LH_ask 55 [(.aload_n 0, 1, 0)] 56 = true := by decide +kernel
theorem s_LH_ask_59 : dsq c_LH_ask 59 [(.iload_n 1, 1, 0)] 60 = true := by decide +kernel
theorem s_LH_ask_66 : dsq c_LH_ask 66 [(.astore_n 2, 1, 0), (.aload_n 0, 1, 0)] 68 = true := by decide +kernel
theorem s_LH_ask_74 : dsq c_LH_ask 74 [(.iconst 4, 1, 4)] 75 = true := by decide +kernel
theorem s_LH_ask_78 : dsq c_LH_ask 78 [(.aload_n 0, 1, 0)] 79 = true := by decide +kernel
theorem s_LH_ask_82 : dsq c_LH_ask 82 [(.iconst 0, 1, 0)] 83 = true := by decide +kernel
theorem s_LH_ask_86 : dsq c_LH_ask 86 [(.pop, 1, 0), (.aload_n 0, 1, 0)] 88 = true := by decide +kernel
theorem s_LH_ask_87 : dsq c_LH_ask 87 [(.aload_n 0, 1, 0)] 88 = true := by decide +kernel
theorem s_LH_ask_91 : dsq c_LH_ask 91 [(.aload_n 2, 1, 0)] 92 = true := by decide +kernel
theorem s_LH_ask_95 : dsq c_LH_ask 95 [(.pop, 1, 0), (.aload_n 2, 1, 0)] 97 = true := by decide +kernel
theorem d_LH_ask_1 : decode c_LH_ask 1 = .ok (.getfield 35, 3) := by decide +kernel
theorem d_LH_ask_4 : decode c_LH_ask 4 = .ok (.ifCond .ne 5, 3) := by decide +kernel
theorem d_LH_ask_8 : decode c_LH_ask 8 = .ok (.ireturn, 1) := by decide +kernel
theorem d_LH_ask_11 : decode c_LH_ask 11 = .ok (.getfield 35, 3) := by decide +kernel
theorem d_LH_ask_14 : decode c_LH_ask 14 = .ok (.invokevirtual 143, 3) := by decide +kernel
theorem d_LH_ask_21 : decode c_LH_ask 21 = .ok (.if_icmp .ne 34, 3) := by decide +kernel
theorem d_LH_ask_24 : decode c_LH_ask 24 = .ok (.new 146, 3) := by decide +kernel
theorem d_LH_ask_29 : decode c_LH_ask 29 = .ok (.getfield 35, 3) := by decide +kernel
theorem d_LH_ask_37 : decode c_LH_ask 37 = .ok (.getfield 35, 3) := by decide +kernel
theorem d_LH_ask_40 : decode c_LH_ask 40 = .ok (.invokevirtual 148, 3) := by decide +kernel
theorem d_LH_ask_45 : decode c_LH_ask 45 = .ok (.getfield 39, 3) := by decide +kernel
theorem d_LH_ask_49 : decode c_LH_ask 49 = .ok (.invokespecial 151, 3) := by decide +kernel
theorem d_LH_ask_56 : decode c_LH_ask 56 = .ok (.getfield 19, 3) := by decide +kernel
theorem d_LH_ask_60 : decode c_LH_ask 60 = .ok (.invokevirtual 94, 3) := by decide +kernel
theorem d_LH_ask_63 : decode c_LH_ask 63 = .ok (.checkcast 146, 3) := by decide +kernel
theorem d_LH_ask_68 : decode c_LH_ask 68 = .ok (.getfield 19, 3) := by decide +kernel
theorem d_LH_ask_71 : decode c_LH_ask 71 = .ok (.invokevirtual 98, 3) := by decide +kernel
theorem d_LH_ask_75 : decode c_LH_ask 75 = .ok (.if_icmp .lt 12, 3) := by decide +kernel
theorem d_LH_ask_79 : decode c_LH_ask 79 = .ok (.getfield 19, 3) := by decide +kernel
theorem d_LH_ask_83 : decode c_LH_ask 83 = .ok (.invokevirtual 94, 3) := by decide +kernel
theorem d_LH_ask_88 : decode c_LH_ask 88 = .ok (.getfield 19, 3) := by decide +kernel
theorem d_LH_ask_92 : decode c_LH_ask 92 = .ok (.invokevirtual 154, 3) := by decide +kernel
theorem d_LH_ask_97 : decode c_LH_ask 97 = .ok (.invokevirtual 157, 3) := by decide +kernel
theorem d_LH_ask_100 : decode c_LH_ask 100 = .ok (.ireturn, 1) := by decide +kernel
theorem s_LH_findInCache_0 : dsq c_LH_findInCache 0 [(.iconst 0, 1, 0), (.istore_n 2, 1, 0)] 2 = true := by decide +kernel
theorem s_LH_findInCache_2 : dsq c_LH_findInCache 2 [(.iload_n 2, 1, 0), (.aload_n 0, 1, 0)] 4 = true := by decide +kernel
theorem s_LH_findInCache_13 : dsq c_LH_findInCache 13 [(.aload_n 0, 1, 0)] 14 = true := by decide +kernel
theorem s_LH_findInCache_17 : dsq c_LH_findInCache 17 [(.iload_n 2, 1, 0)] 18 = true := by decide +kernel
theorem s_LH_findInCache_27 : dsq c_LH_findInCache 27 [(.iload_n 1, 1, 0)] 28 = true := by decide +kernel
theorem s_LH_findInCache_31 : dsq c_LH_findInCache 31 [(.iload_n 2, 1, 0)] 32 = true := by decide +kernel
theorem s_LH_findInCache_33 : dsq c_LH_findInCache 33 [(.iinc 2 1, 3, 1), (.goto (-34), 3, 0)] 2 = true := by decide +kernel
theorem s_LH_findInCache_39 : dsq c_LH_findInCache 39 [(.bipush (-2), 2, (-2))] 41 = true := by decide +kernel
theorem d_LH_findInCache_4 : decode c_LH_findInCache 4 = .ok (.getfield 19, 3) := by decide +kernel
theorem d_LH_findInCache_7 : decode c_LH_findInCache 7 = .ok (.invokevirtual 98, 3) := by decide +kernel
theorem d_LH_findInCache_10 : decode c_LH_findInCache 10 = .ok (.if_icmp .ge 29, 3) := by decide +kernel
theorem d_LH_findInCache_14 : decode c_LH_findInCache 14 = .ok (.getfield 19, 3) := by decide +kernel
theorem d_LH_findInCache_18 : decode c_LH_findInCache 18 = .ok (.invokevirtual 106, 3) := by decide +kernel
theorem d_LH_findInCache_21 : decode c_LH_findInCache 21 = .ok (.checkcast 146, 3) := by decide +kernel
theorem d_LH_findInCache_24 : decode c_LH_findInCache 24 = .ok (.invokevirtual 238, 3) := by decide +kernel
theorem d_LH_findInCache_28 : decode c_LH_findInCache 28 = .ok (.if_icmp .ne 5, 3) := by decide +kernel
theorem d_LH_findInCache_32 : decode c_LH_findInCache 32 = .ok (.ireturn, 1) := by decide +kernel
theorem d_LH_findInCache_41 : decode c_LH_findInCache 41 = .ok (.ireturn, 1) := by decide +kernel
theorem s_Cached_name_0 : dsq c_Cached_name 0 [(.aload_n 0, 1, 0)] 1 = true := by decide +kernel
theorem d_Cached_name_1 : decode c_Cached_name 1 = .ok (.getfield 7, 3) := by decide +kernel
theorem d_Cached_name_4 : decode c_Cached_name 4 = .ok (.ireturn, 1) := by decide +kernel
theorem s_LH_changesOf_0 : dsq c_LH_changesOf 0 [(.aload_n 0, 1, 0), (.iload_n 1, 1, 0)] 2 = true := by decide +kernel
theorem s_LH_changesOf_5 : dsq c_LH_changesOf 5 [(.astore_n 2, 1, 0), (.aload_n 2, 1, 0)] 7 = true := by decide +kernel
theorem s_LH_changesOf_10 : dsq c_LH_changesOf 10 [(.iconst 0, 1, 0), (.goto 7, 3, 0)] 18 = true := by decide +kernel
theorem s_LH_changesOf_14 : dsq c_LH_changesOf 14 [(.aload_n 2, 1, 0)] 15 = true := by decide +kernel
theorem d_LH_changesOf_2 : decode c_LH_changesOf 2 = .ok (.invokevirtual 85, 3) := by decide +kernel
theorem d_LH_changesOf_7 : decode c_LH_changesOf 7 = .ok (.ifnonnull 7, 3) := by decide +kernel
theorem d_LH_changesOf_15 : decode c_LH_changesOf 15 = .ok (.getfield 223, 3) := by decide +kernel
theorem d_LH_changesOf_18 : decode c_LH_changesOf 18 = .ok (.ireturn, 1) := by decide +kernel
theorem s_Cached_init_0 : dsq c_Cached_init 0 [(.aload_n 0, 1, 0)] 1 = true := by decide +kernel
theorem s_Cached_init_4 : dsq c_Cached_init 4 [(.aload_n 0, 1, 0), (.iload_n 1, 1, 0)] 6 = true := by decide +kernel
theorem s_Cached_init_9 : dsq c_Cached_init 9 [(.aload_n 0, 1, 0), (.iload_n 2, 1, 0)] 11 = true := by decide +kernel
theorem d_Cached_init_1 : decode c_Cached_init 1 = .ok (.invokespecial 1, 3) := by decide +kernel
theorem d_Cached_init_6 : decode c_Cached_init 6 = .ok (.putfield 7, 3) := by decide +kernel
theorem d_Cached_init_11 : decode c_Cached_init 11 = .ok (.putfield 13, 3) := by decide +kernel
theorem d_Cached_init_14 : decode c_Cached_init 14 = .ok (.return_, 1) := by decide +kernel
theorem s_Cached_number_0 : dsq c_Cached_number 0 [(.aload_n 0, 1, 0)] 1 = true := by decide +kernel
theorem d_Cached_number_1 : decode c_Cached_number 1 = .ok (.getfield 13, 3) := by decide +kernel
theorem d_Cached_number_4 : decode c_Cached_number 4 = .ok (.ireturn, 1) := by decide +kernel
theorem s_LH_known_0 : dsq c_LH_known 0 [(.aload_n 0, 1, 0)] 1 = true := by decide +kernel
theorem s_LH_known_7 : dsq c_LH_known 7 [(.aload_n 0, 1, 0), (.aload_n 0, 1, 0)] 9 = true := by decide +kernel
theorem s_LH_known_15 : dsq c_LH_known 15 [(.bipush (-2), 2, (-2))] 17 = true := by decide +kernel
theorem s_LH_known_20 : dsq c_LH_known 20 [(.iconst 1, 1, 1), (.goto 4, 3, 0)] 25 = true := by decide +kernel
theorem s_LH_known_24 : dsq c_LH_known 24 [(.iconst 0, 1, 0)] 25 = true := by decide +kernel
theorem d_LH_known_1 : decode c_LH_known 1 = .ok (.getfield 35, 3) := by decide +kernel
theorem d_LH_known_4 : decode c_LH_known 4 = .ok (.ifCond .eq 20, 3) := by decide +kernel
theorem d_LH_known_9 : decode c_LH_known 9 = .ok (.getfield 35, 3) := by decide +kernel
theorem d_LH_known_12 : decode c_LH_known 12 = .ok (.invokevirtual 143, 3) := by decide +kernel
theorem d_LH_known_17 : decode c_LH_known 17 = .ok (.if_icmp .eq 7, 3) := by decide +kernel
theorem d_LH_known_25 : decode c_LH_known 25 = .ok (.ireturn, 1) := by decide +kernel
theorem s_LH_watch_0 : dsq c_LH_watch 0 [(.aload_n 0, 1, 0), (.iload_n 1, 1, 0)] 2 = true := by decide +kernel
theorem s_LH_watch_8 : dsq c_LH_watch 8 [(.iconst (-1), 1, (-1))] 9 = true := by decide +kernel
theorem s_LH_watch_10 : dsq c_LH_watch 10 [(.aload_n 0, 1, 0), (.aload_n 0, 1, 0)] 12 = true := by decide +kernel
theorem s_LH_watch_18 : dsq c_LH_watch 18 [(.astore_n 2, 1, 0), (.aload_n 2, 1, 0)] 20 = true := by decide +kernel
theorem s_LH_watch_23 : dsq c_LH_watch 23 [(.iconst (-1), 1, (-1))] 24 = true := by decide +kernel
theorem s_LH_watch_25 : dsq c_LH_watch 25 [(.aload_n 2, 1, 0), (.dup, 1, 0)] 27 = true := by decide +kernel
theorem s_LH_watch_30 : dsq c_LH_watch 30 [(.iconst 1, 1, 1), (.iload_n 1, 1, 0), (.ishl, 1, 0), (.ixor, 1, 0)] 34 = true := by decide +kernel
theorem s_LH_watch_37 : dsq c_LH_watch 37 [(.aload_n 2, 1, 0)] 38 = true := by decide +kernel
theorem d_LH_watch_2 : decode c_LH_watch 2 = .ok (.invokevirtual 47, 3) := by decide +kernel
theorem d_LH_watch_5 : decode c_LH_watch 5 = .ok (.ifCond .ne 5, 3) := by decide +kernel
theorem d_LH_watch_9 : decode c_LH_watch 9 = .ok (.ireturn, 1) := by decide +kernel
theorem d_LH_watch_12 : decode c_LH_watch 12 = .ok (.getfield 35, 3) := by decide +kernel
theorem d_LH_watch_15 : decode c_LH_watch 15 = .ok (.invokevirtual 54, 3) := by decide +kernel
theorem d_LH_watch_20 : decode c_LH_watch 20 = .ok (.ifnonnull 5, 3) := by decide +kernel
theorem d_LH_watch_24 : decode c_LH_watch 24 = .ok (.ireturn, 1) := by decide +kernel
theorem d_LH_watch_27 : decode c_LH_watch 27 = .ok (.getfield 160, 3) := by decide +kernel
theorem d_LH_watch_34 : decode c_LH_watch 34 = .ok (.putfield 160, 3) := by decide +kernel
theorem d_LH_watch_38 : decode c_LH_watch 38 = .ok (.getfield 160, 3) := by decide +kernel
theorem d_LH_watch_41 : decode c_LH_watch 41 = .ok (.invokestatic 163, 3) := by decide +kernel
theorem d_LH_watch_44 : decode c_LH_watch 44 = .ok (.ireturn, 1) := by decide +kernel
theorem s_LH_note_0 : dsq c_LH_note 0 [(.iload_n 1, 1, 0)] 1 = true := by decide +kernel
theorem s_LH_note_7 : dsq c_LH_note 7 [(.iconst (-1), 1, (-1))] 8 = true := by decide +kernel
theorem s_LH_note_9 : dsq c_LH_note 9 [(.aload_n 0, 1, 0)] 10 = true := by decide +kernel
theorem s_LH_note_13 : dsq c_LH_note 13 [(.iload_n 1, 1, 0)] 14 = true := by decide +kernel
theorem s_LH_note_18 : dsq c_LH_note 18 [(.astore_n 2, 1, 0), (.aload_n 2, 1, 0)] 20 = true := by decide +kernel
theorem s_LH_note_23 : dsq c_LH_note 23 [(.bipush (-2), 2, (-2))] 25 = true := by decide +kernel
theorem s_LH_note_26 : dsq c_LH_note 26 [(.aload_n 0, 1, 0), (.aload_n 2, 1, 0)] 28 = true := by decide +kernel
theorem s_LH_note_34 : dsq c_LH_note 34 [(.aload_n 2, 1, 0)] 35 = true := by decide +kernel
theorem d_LH_note_1 : decode c_LH_note 1 = .ok (.invokestatic 168, 3) := by decide +kernel
theorem d_LH_note_4 : decode c_LH_note 4 = .ok (.ifCond .ne 5, 3) := by decide +kernel
theorem d_LH_note_8 : decode c_LH_note 8 = .ok (.ireturn, 1) := by decide +kernel
theorem d_LH_note_10 : decode c_LH_note 10 = .ok (.getfield 24, 3) := by decide +kernel
theorem d_LH_note_14 : decode c_LH_note 14 = .ok (.aaload, 1) := by decide +kernel
theorem d_LH_note_15 : decode c_LH_note 15 = .ok (.invokevirtual 171, 3) := by decide +kernel
theorem d_LH_note_20 : decode c_LH_note 20 = .ok (.ifnonnull 6, 3) := by decide +kernel
theorem d_LH_note_25 : decode c_LH_note 25 = .ok (.ireturn, 1) := by decide +kernel
theorem d_LH_note_28 : decode c_LH_note 28 = .ok (.invokevirtual 175, 3) := by decide +kernel
theorem d_LH_note_31 : decode c_LH_note 31 = .ok (.putfield 35, 3) := by decide +kernel
theorem d_LH_note_35 : decode c_LH_note 35 = .ok (.invokevirtual 178, 3) := by decide +kernel
theorem d_LH_note_38 : decode c_LH_note 38 = .ok (.ireturn, 1) := by decide +kernel
theorem s_NoteBox_takeOldest_0 : dsq c_NoteBox_takeOldest 0 [(.aload_n 0, 1, 0)] 1 = true := by decide +kernel
theorem s_NoteBox_takeOldest_10 : dsq c_NoteBox_takeOldest 10 [(.aconst_null, 1, 0), (.goto 14, 3, 0)] 25 = true := by decide +kernel
theorem s_NoteBox_takeOldest_14 : dsq c_NoteBox_takeOldest 14 [(.aload_n 0, 1, 0)] 15 = true := by decide +kernel
theorem s_NoteBox_takeOldest_18 : dsq c_NoteBox_takeOldest 18 [(.iconst 0, 1, 0)] 19 = true := by decide +kernel
theorem d_NoteBox_takeOldest_1 : decode c_NoteBox_takeOldest 1 = .ok (.getfield 12, 3) := by decide +kernel
theorem d_NoteBox_takeOldest_4 : decode c_NoteBox_takeOldest 4 = .ok (.invokevirtual 30, 3) := by decide +kernel
theorem d_NoteBox_takeOldest_7 : decode c_NoteBox_takeOldest 7 = .ok (.ifCond .eq 7, 3) := by decide +kernel
theorem d_NoteBox_takeOldest_15 : decode c_NoteBox_takeOldest 15 = .ok (.getfield 12, 3) := by decide +kernel
theorem d_NoteBox_takeOldest_19 : decode c_NoteBox_takeOldest 19 = .ok (.invokevirtual 22, 3) := by decide +kernel
theorem d_NoteBox_takeOldest_22 : decode c_NoteBox_takeOldest 22 = .ok (.checkcast 34, 3) := by decide +kernel
theorem d_NoteBox_takeOldest_25 : decode c_NoteBox_takeOldest 25 = .ok (.areturn, 1) := by decide +kernel
theorem s_Note_name_0 : dsq c_Note_name 0 [(.aload_n 0, 1, 0)] 1 = true := by decide +kernel
theorem d_Note_name_1 : decode c_Note_name 1 = .ok (.getfield 7, 3) := by decide +kernel
theorem d_Note_name_4 : decode c_Note_name 4 = .ok (.ireturn, 1) := by decide +kernel
theorem s_Note_kind_0 : dsq c_Note_kind 0 [(.aload_n 0, 1, 0)] 1 = true := by decide +kernel
theorem d_Note_kind_1 : decode c_Note_kind 1 = .ok (.getfield 13, 3) := by decide +kernel
theorem d_Note_kind_4 : decode c_Note_kind 4 = .ok (.ireturn, 1) := by decide +kernel
theorem s_LH_waits_0 : dsq c_LH_waits 0 [(.aload_n 0, 1, 0)] 1 = true := by decide +kernel
theorem s_LH_waits_4 : dsq c_LH_waits 4 [(.iload_n 1, 1, 0), (.iload_n 2, 1, 0)] 6 = true := by decide +kernel
theorem d_LH_waits_1 : decode c_LH_waits 1 = .ok (.getfield 31, 3) := by decide +kernel
theorem d_LH_waits_6 : decode c_LH_waits 6 = .ok (.invokevirtual 181, 3) := by decide +kernel
theorem d_LH_waits_9 : decode c_LH_waits 9 = .ok (.ireturn, 1) := by decide +kernel
theorem s_WaitTimes_countFrom_0 : dsq c_WaitTimes_countFrom 0 [(.iconst 0, 1, 0), (.istore_n 3, 1, 0), (.iconst 0, 1, 0), (.istore 4, 2, 0)] 5 = true := by decide +kernel
theorem s_WaitTimes_countFrom_5 : dsq c_WaitTimes_countFrom 5 [(.iload 4, 2, 0), (.aload_n 0, 1, 0)] 8 = true := by decide +kernel
theorem s_WaitTimes_countFrom_14 : dsq c_WaitTimes_countFrom 14 [(.aload_n 0, 1, 0)] 15 = true := by decide +kernel
theorem s_WaitTimes_countFrom_18 : dsq c_WaitTimes_countFrom 18 [(.iload 4, 2, 0)] 20 = true := by decide +kernel
theorem s_WaitTimes_countFrom_21 : dsq c_WaitTimes_countFrom 21 [(.iload_n 1, 1, 0)] 22 = true := by decide +kernel
theorem s_WaitTimes_countFrom_25 : dsq c_WaitTimes_countFrom 25 [(.aload_n 0, 1, 0)] 26 = true := by decide +kernel
theorem s_WaitTimes_countFrom_29 : dsq c_WaitTimes_countFrom 29 [(.iload 4, 2, 0)] 31 = true := by decide +kernel
theorem s_WaitTimes_countFrom_32 : dsq c_WaitTimes_countFrom 32 [(.iload_n 2, 1, 0)] 33 = true := by decide +kernel
theorem s_WaitTimes_countFrom_36 : dsq c_WaitTimes_countFrom 36 [(.iinc 3 1, 3, 1), (.iinc 4 1, 3, 1), (.goto (-37), 3, 0)] 5 = true := by decide +kernel
theorem s_WaitTimes_countFrom_39 : dsq c_WaitTimes_countFrom 39 [(.iinc 4 1, 3, 1), (.goto (-37), 3, 0)] 5 = true := by decide +kernel
theorem s_WaitTimes_countFrom_45 : dsq c_WaitTimes_countFrom 45 [(.iload_n 3, 1, 0)] 46 = true := by decide +kernel
theorem d_WaitTimes_countFrom_8 : decode c_WaitTimes_countFrom 8 = .ok (.getfield 15, 3) := by decide +kernel
theorem d_WaitTimes_countFrom_11 : decode c_WaitTimes_countFrom 11 = .ok (.if_icmp .ge 34, 3) := by decide +kernel
theorem d_WaitTimes_countFrom_15 : decode c_WaitTimes_countFrom 15 = .ok (.getfield 9, 3) := by decide +kernel
theorem d_WaitTimes_countFrom_20 : decode c_WaitTimes_countFrom 20 = .ok (.iaload, 1) := by decide +kernel
theorem d_WaitTimes_countFrom_22 : decode c_WaitTimes_countFrom 22 = .ok (.if_icmp .lt 17, 3) := by decide +kernel
theorem d_WaitTimes_countFrom_26 : decode c_WaitTimes_countFrom 26 = .ok (.getfield 9, 3) := by decide +kernel
theorem d_WaitTimes_countFrom_31 : decode c_WaitTimes_countFrom 31 = .ok (.iaload, 1) := by decide +kernel
theorem d_WaitTimes_countFrom_33 : decode c_WaitTimes_countFrom 33 = .ok (.if_icmp .ge 6, 3) := by decide +kernel
theorem d_WaitTimes_countFrom_46 : decode c_WaitTimes_countFrom 46 = .ok (.ireturn, 1) := by decide +kernel
theorem s_LH_waited_0 : dsq c_LH_waited 0 [(.aload_n 0, 1, 0)] 1 = true := by decide +kernel
theorem s_LH_waited_4 : dsq c_LH_waited 4 [(.iload_n 1, 1, 0)] 5 = true := by decide +kernel
theorem d_LH_waited_1 : decode c_LH_waited 1 = .ok (.getfield 31, 3) := by decide +kernel
theorem d_LH_waited_5 : decode c_LH_waited 5 = .ok (.invokevirtual 185, 3) := by decide +kernel
theorem d_LH_waited_8 : decode c_LH_waited 8 = .ok (.ireturn, 1) := by decide +kernel
theorem s_WaitTimes_greatestUpTo_0 : dsq c_WaitTimes_greatestUpTo 0 [(.bipush (-2), 2, (-2)), (.istore_n 2, 1, 0), (.iconst 0, 1, 0), (.istore_n 3, 1, 0)] 5 = true := by decide +kernel
theorem s_WaitTimes_greatestUpTo_5 : dsq c_WaitTimes_greatestUpTo 5 [(.iload_n 3, 1, 0), (.aload_n 0, 1, 0)] 7 = true := by decide +kernel
theorem s_WaitTimes_greatestUpTo_13 : dsq c_WaitTimes_greatestUpTo 13 [(.aload_n 0, 1, 0)] 14 = true := by decide +kernel
theorem s_WaitTimes_greatestUpTo_17 : dsq c_WaitTimes_greatestUpTo 17 [(.iload_n 3, 1, 0)] 18 = true := by decide +kernel
theorem s_WaitTimes_greatestUpTo_19 : dsq c_WaitTimes_greatestUpTo 19 [(.iload_n 1, 1, 0)] 20 = true := by decide +kernel
theorem s_WaitTimes_greatestUpTo_23 : dsq c_WaitTimes_greatestUpTo 23 [(.aload_n 0, 1, 0)] 24 = true := by decide +kernel
theorem s_WaitTimes_greatestUpTo_27 : dsq c_WaitTimes_greatestUpTo 27 [(.iload_n 3, 1, 0)] 28 = true := by decide +kernel
theorem s_WaitTimes_greatestUpTo_29 : dsq c_WaitTimes_greatestUpTo 29 [(.iload_n 2, 1, 0)] 30 = true := by decide +kernel
theorem s_WaitTimes_greatestUpTo_33 : dsq c_WaitTimes_greatestUpTo 33 [(.aload_n 0, 1, 0)] 34 = true := by decide +kernel
theorem s_WaitTimes_greatestUpTo_37 : dsq c_WaitTimes_greatestUpTo 37 [(.iload_n 3, 1, 0)] 38 = true := by decide +kernel
theorem s_WaitTimes_greatestUpTo_39 : dsq c_WaitTimes_greatestUpTo 39 [(.istore_n 2, 1, 0), (.iinc 3 1, 3, 1), (.goto (-38), 3, 0)] 5 = true := by decide +kernel
theorem s_WaitTimes_greatestUpTo_40 : dsq c_WaitTimes_greatestUpTo 40 [(.iinc 3 1, 3, 1), (.goto (-38), 3, 0)] 5 = true := by decide +kernel
theorem s_WaitTimes_greatestUpTo_46 : dsq c_WaitTimes_greatestUpTo 46 [(.iload_n 2, 1, 0)] 47 = true := by decide +kernel
theorem d_WaitTimes_greatestUpTo_7 : decode c_WaitTimes_greatestUpTo 7 = .ok (.getfield 15, 3) := by decide +kernel
theorem d_WaitTimes_greatestUpTo_10 : decode c_WaitTimes_greatestUpTo 10 = .ok (.if_icmp .ge 36, 3) := by decide +kernel
theorem d_WaitTimes_greatestUpTo_14 : decode c_WaitTimes_greatestUpTo 14 = .ok (.getfield 9, 3) := by decide +kernel
theorem d_WaitTimes_greatestUpTo_18 : decode c_WaitTimes_greatestUpTo 18 = .ok (.iaload, 1) := by decide +kernel
theorem d_WaitTimes_greatestUpTo_20 : decode c_WaitTimes_greatestUpTo 20 = .ok (.if_icmp .gt 20, 3) := by decide +kernel
theorem d_WaitTimes_greatestUpTo_24 : decode c_WaitTimes_greatestUpTo 24 = .ok (.getfield 9, 3) := by decide +kernel
theorem d_WaitTimes_greatestUpTo_28 : decode c_WaitTimes_greatestUpTo 28 = .ok (.iaload, 1) := by decide +kernel
theorem d_WaitTimes_greatestUpTo_30 : decode c_WaitTimes_greatestUpTo 30 = .ok (.if_icmp .le 10, 3) := by decide +kernel
theorem d_WaitTimes_greatestUpTo_34 : decode c_WaitTimes_greatestUpTo 34 = .ok (.getfield 9, 3) := by decide +kernel
theorem d_WaitTimes_greatestUpTo_38 : decode c_WaitTimes_greatestUpTo 38 = .ok (.iaload, 1) := by decide +kernel
theorem d_WaitTimes_greatestUpTo_47 : decode c_WaitTimes_greatestUpTo 47 = .ok (.ireturn, 1) := by decide +kernel
theorem s_LH_letter_0 : dsq c_LH_letter 0 [(.aload_n 0, 1, 0)] 1 = true := by decide +kernel
theorem s_LH_letter_7 : dsq c_LH_letter 7 [(.istore_n 2, 1, 0), (.iload_n 1, 1, 0)] 9 = true := by decide +kernel
theorem s_LH_letter_12 : dsq c_LH_letter 12 [(.iload_n 1, 1, 0), (.iload_n 2, 1, 0)] 14 = true := by decide +kernel
theorem s_LH_letter_17 : dsq c_LH_letter 17 [(.bipush (-2), 2, (-2))] 19 = true := by decide +kernel
theorem s_LH_letter_20 : dsq c_LH_letter 20 [(.aload_n 0, 1, 0)] 21 = true := by decide +kernel
theorem s_LH_letter_24 : dsq c_LH_letter 24 [(.istore_n 3, 1, 0), (.iload_n 2, 1, 0), (.iconst 1, 1, 1), (.isub, 1, 0), (.istore 4, 2, 0)] 30 = true := by decide +kernel
theorem s_LH_letter_30 : dsq c_LH_letter 30 [(.iload 4, 2, 0), (.iload_n 1, 1, 0)] 33 = true := by decide +kernel
theorem s_LH_letter_36 : dsq c_LH_letter 36 [(.iload_n 3, 1, 0)] 37 = true := by decide +kernel
theorem s_LH_letter_40 : dsq c_LH_letter 40 [(.istore_n 3, 1, 0), (.iinc 4 (-1), 3, (-1)), (.goto (-14), 3, 0)] 30 = true := by decide +kernel
theorem s_LH_letter_47 : dsq c_LH_letter 47 [(.bipush 97, 2, 97), (.iload_n 3, 1, 0), (.iconst 1, 1, 1), (.isub, 1, 0), (.bipush 26, 2, 26)] 54 = true := by decide +kernel
theorem s_LH_letter_55 : dsq c_LH_letter 55 [(.iadd, 1, 0)] 56 = true := by decide +kernel
theorem d_LH_letter_1 : decode c_LH_letter 1 = .ok (.getfield 35, 3) := by decide +kernel
theorem d_LH_letter_4 : decode c_LH_letter 4 = .ok (.invokestatic 43, 3) := by decide +kernel
theorem d_LH_letter_9 : decode c_LH_letter 9 = .ok (.ifCond .lt 8, 3) := by decide +kernel
theorem d_LH_letter_14 : decode c_LH_letter 14 = .ok (.if_icmp .lt 6, 3) := by decide +kernel
theorem d_LH_letter_19 : decode c_LH_letter 19 = .ok (.ireturn, 1) := by decide +kernel
theorem d_LH_letter_21 : decode c_LH_letter 21 = .ok (.getfield 35, 3) := by decide +kernel
theorem d_LH_letter_33 : decode c_LH_letter 33 = .ok (.if_icmp .le 14, 3) := by decide +kernel
theorem d_LH_letter_37 : decode c_LH_letter 37 = .ok (.invokestatic 188, 3) := by decide +kernel
theorem d_LH_letter_54 : decode c_LH_letter 54 = .ok (.irem, 1) := by decide +kernel
theorem d_LH_letter_56 : decode c_LH_letter 56 = .ok (.ireturn, 1) := by decide +kernel
theorem s_LH_count_0 : dsq c_LH_count 0 [(.iload_n 1, 1, 0)] 1 = true := by decide +kernel
theorem s_LH_count_48 : dsq c_LH_count 48 [(.aload_n 0, 1, 0)] 49 = true := by decide +kernel
theorem s_LH_count_53 : dsq c_LH_count 53 [(.aload_n 0, 1, 0)] 54 = true := by decide +kernel
theorem s_LH_count_58 : dsq c_LH_count 58 [(.aload_n 0, 1, 0)] 59 = true := by decide +kernel
theorem s_LH_count_63 : dsq c_LH_count 63 [(.aload_n 0, 1, 0)] 64 = true := by decide +kernel
theorem s_LH_count_71 : dsq c_LH_count 71 [(.aload_n 0, 1, 0)] 72 = true := by decide +kernel
theorem s_LH_count_79 : dsq c_LH_count 79 [(.aload_n 0, 1, 0)] 80 = true := by decide +kernel
theorem s_LH_count_84 : dsq c_LH_count 84 [(.aload_n 0, 1, 0), (.aload_n 0, 1, 0)] 86 = true := by decide +kernel
theorem s_LH_count_93 : dsq c_LH_count 93 [(.aload_n 0, 1, 0)] 94 = true := by decide +kernel
theorem s_LH_count_98 : dsq c_LH_count 98 [(.iconst (-1), 1, (-1))] 99 = true := by decide +kernel
theorem d_LH_count_1 : decode c_LH_count 1 = .ok (.tableswitch 97 0 7 #[47, 52, 57, 62, 70, 78, 83, 92], 47) := by decide +kernel
theorem d_LH_count_49 : decode c_LH_count 49 = .ok (.getfield 39, 3) := by decide +kernel
theorem d_LH_count_52 : decode c_LH_count 52 = .ok (.ireturn, 1) := by decide +kernel
theorem d_LH_count_54 : decode c_LH_count 54 = .ok (.invokevirtual 191, 3) := by decide +kernel
theorem d_LH_count_57 : decode c_LH_count 57 = .ok (.ireturn, 1) := by decide +kernel
theorem d_LH_count_59 : decode c_LH_count 59 = .ok (.invokevirtual 194, 3) := by decide +kernel
theorem d_LH_count_62 : decode c_LH_count 62 = .ok (.ireturn, 1) := by decide +kernel
theorem d_LH_count_64 : decode c_LH_count 64 = .ok (.getfield 16, 3) := by decide +kernel
theorem d_LH_count_67 : decode c_LH_count 67 = .ok (.invokevirtual 98, 3) := by decide +kernel
theorem d_LH_count_70 : decode c_LH_count 70 = .ok (.ireturn, 1) := by decide +kernel
theorem d_LH_count_72 : decode c_LH_count 72 = .ok (.getfield 19, 3) := by decide +kernel
theorem d_LH_count_75 : decode c_LH_count 75 = .ok (.invokevirtual 98, 3) := by decide +kernel
theorem d_LH_count_78 : decode c_LH_count 78 = .ok (.ireturn, 1) := by decide +kernel
theorem d_LH_count_80 : decode c_LH_count 80 = .ok (.invokevirtual 197, 3) := by decide +kernel
theorem d_LH_count_83 : decode c_LH_count 83 = .ok (.ireturn, 1) := by decide +kernel
theorem d_LH_count_86 : decode c_LH_count 86 = .ok (.getfield 35, 3) := by decide +kernel
theorem d_LH_count_89 : decode c_LH_count 89 = .ok (.invokevirtual 148, 3) := by decide +kernel
theorem d_LH_count_92 : decode c_LH_count 92 = .ok (.ireturn, 1) := by decide +kernel
theorem d_LH_count_94 : decode c_LH_count 94 = .ok (.invokevirtual 200, 3) := by decide +kernel
theorem d_LH_count_97 : decode c_LH_count 97 = .ok (.ireturn, 1) := by decide +kernel
theorem d_LH_count_99 : decode c_LH_count 99 = .ok (.ireturn, 1) := by decide +kernel
theorem s_LH_countLeases_0 : dsq c_LH_countLeases 0 [(.iconst 0, 1, 0), (.istore_n 1, 1, 0), (.iconst 0, 1, 0), (.istore_n 2, 1, 0)] 4 = true := by decide +kernel
theorem s_LH_countLeases_4 : dsq c_LH_countLeases 4 [(.iload_n 2, 1, 0), (.aload_n 0, 1, 0)] 6 = true := by decide +kernel
theorem s_LH_countLeases_15 : dsq c_LH_countLeases 15 [(.aload_n 0, 1, 0)] 16 = true := by decide +kernel
theorem s_LH_countLeases_19 : dsq c_LH_countLeases 19 [(.iload_n 2, 1, 0)] 20 = true := by decide +kernel
theorem s_LH_countLeases_32 : dsq c_LH_countLeases 32 [(.iinc 1 1, 3, 1), (.iinc 2 1, 3, 1), (.goto (-34), 3, 0)] 4 = true := by decide +kernel
theorem s_LH_countLeases_35 : dsq c_LH_countLeases 35 [(.iinc 2 1, 3, 1), (.goto (-34), 3, 0)] 4 = true := by decide +kernel
theorem s_LH_countLeases_41 : dsq c_LH_countLeases 41 [(.iload_n 1, 1, 0)] 42 = true := by decide +kernel
theorem d_LH_countLeases_6 : decode c_LH_countLeases 6 = .ok (.getfield 10, 3) := by decide +kernel
theorem d_LH_countLeases_9 : decode c_LH_countLeases 9 = .ok (.invokevirtual 98, 3) := by decide +kernel
theorem d_LH_countLeases_12 : decode c_LH_countLeases 12 = .ok (.if_icmp .ge 29, 3) := by decide +kernel
theorem d_LH_countLeases_16 : decode c_LH_countLeases 16 = .ok (.getfield 10, 3) := by decide +kernel
theorem d_LH_countLeases_20 : decode c_LH_countLeases 20 = .ok (.invokevirtual 106, 3) := by decide +kernel
theorem d_LH_countLeases_23 : decode c_LH_countLeases 23 = .ok (.checkcast 59, 3) := by decide +kernel
theorem d_LH_countLeases_26 : decode c_LH_countLeases 26 = .ok (.invokevirtual 58, 3) := by decide +kernel
theorem d_LH_countLeases_29 : decode c_LH_countLeases 29 = .ok (.ifCond .eq 6, 3) := by decide +kernel
theorem d_LH_countLeases_42 : decode c_LH_countLeases 42 = .ok (.ireturn, 1) := by decide +kernel
theorem s_LH_countWaiting_0 : dsq c_LH_countWaiting 0 [(.iconst 0, 1, 0), (.istore_n 1, 1, 0), (.iconst 0, 1, 0), (.istore_n 2, 1, 0)] 4 = true := by decide +kernel
theorem s_LH_countWaiting_4 : dsq c_LH_countWaiting 4 [(.iload_n 2, 1, 0), (.aload_n 0, 1, 0)] 6 = true := by decide +kernel
theorem s_LH_countWaiting_15 : dsq c_LH_countWaiting 15 [(.iload_n 1, 1, 0), (.aload_n 0, 1, 0)] 17 = true := by decide +kernel
theorem s_LH_countWaiting_20 : dsq c_LH_countWaiting 20 [(.iload_n 2, 1, 0)] 21 = true := by decide +kernel
theorem s_LH_countWaiting_33 : dsq c_LH_countWaiting 33 [(.iadd, 1, 0), (.istore_n 1, 1, 0), (.iinc 2 1, 3, 1), (.goto (-34), 3, 0)] 4 = true := by decide +kernel
theorem s_LH_countWaiting_41 : dsq c_LH_countWaiting 41 [(.iload_n 1, 1, 0)] 42 = true := by decide +kernel
theorem d_LH_countWaiting_6 : decode c_LH_countWaiting 6 = .ok (.getfield 10, 3) := by decide +kernel
theorem d_LH_countWaiting_9 : decode c_LH_countWaiting 9 = .ok (.invokevirtual 98, 3) := by decide +kernel
theorem d_LH_countWaiting_12 : decode c_LH_countWaiting 12 = .ok (.if_icmp .ge 29, 3) := by decide +kernel
theorem d_LH_countWaiting_17 : decode c_LH_countWaiting 17 = .ok (.getfield 10, 3) := by decide +kernel
theorem d_LH_countWaiting_21 : decode c_LH_countWaiting 21 = .ok (.invokevirtual 106, 3) := by decide +kernel
theorem d_LH_countWaiting_24 : decode c_LH_countWaiting 24 = .ok (.checkcast 59, 3) := by decide +kernel
theorem d_LH_countWaiting_27 : decode c_LH_countWaiting 27 = .ok (.getfield 91, 3) := by decide +kernel
theorem d_LH_countWaiting_30 : decode c_LH_countWaiting 30 = .ok (.invokevirtual 98, 3) := by decide +kernel
theorem d_LH_countWaiting_42 : decode c_LH_countWaiting 42 = .ok (.ireturn, 1) := by decide +kernel
theorem s_LH_countWatchedNames_0 : dsq c_LH_countWatchedNames 0 [(.iconst 0, 1, 0), (.istore_n 1, 1, 0), (.iconst 0, 1, 0), (.istore_n 2, 1, 0)] 4 = true := by decide +kernel
theorem s_LH_countWatchedNames_4 : dsq c_LH_countWatchedNames 4 [(.iload_n 2, 1, 0), (.aload_n 0, 1, 0)] 6 = true := by decide +kernel
theorem s_LH_countWatchedNames_15 : dsq c_LH_countWatchedNames 15 [(.aload_n 0, 1, 0)] 16 = true := by decide +kernel
theorem s_LH_countWatchedNames_19 : dsq c_LH_countWatchedNames 19 [(.iload_n 2, 1, 0)] 20 = true := by decide +kernel
theorem s_LH_countWatchedNames_32 : dsq c_LH_countWatchedNames 32 [(.iinc 1 1, 3, 1), (.iinc 2 1, 3, 1), (.goto (-34), 3, 0)] 4 = true := by decide +kernel
theorem s_LH_countWatchedNames_35 : dsq c_LH_countWatchedNames 35 [(.iinc 2 1, 3, 1), (.goto (-34), 3, 0)] 4 = true := by decide +kernel
theorem s_LH_countWatchedNames_41 : dsq c_LH_countWatchedNames 41 [(.iload_n 1, 1, 0)] 42 = true := by decide +kernel
theorem d_LH_countWatchedNames_6 : decode c_LH_countWatchedNames 6 = .ok (.getfield 10, 3) := by decide +kernel
theorem d_LH_countWatchedNames_9 : decode c_LH_countWatchedNames 9 = .ok (.invokevirtual 98, 3) := by decide +kernel
theorem d_LH_countWatchedNames_12 : decode c_LH_countWatchedNames 12 = .ok (.if_icmp .ge 29, 3) := by decide +kernel
theorem d_LH_countWatchedNames_16 : decode c_LH_countWatchedNames 16 = .ok (.getfield 10, 3) := by decide +kernel
theorem d_LH_countWatchedNames_20 : decode c_LH_countWatchedNames 20 = .ok (.invokevirtual 106, 3) := by decide +kernel
theorem d_LH_countWatchedNames_23 : decode c_LH_countWatchedNames 23 = .ok (.checkcast 59, 3) := by decide +kernel
theorem d_LH_countWatchedNames_26 : decode c_LH_countWatchedNames 26 = .ok (.getfield 160, 3) := by decide +kernel
theorem d_LH_countWatchedNames_29 : decode c_LH_countWatchedNames 29 = .ok (.ifCond .eq 6, 3) := by decide +kernel
theorem d_LH_countWatchedNames_42 : decode c_LH_countWatchedNames 42 = .ok (.ireturn, 1) := by decide +kernel
theorem s_LH_countNotes_0 : dsq c_LH_countNotes 0 [(.iconst 0, 1, 0), (.istore_n 1, 1, 0), (.iconst 0, 1, 0), (.istore_n 2, 1, 0)] 4 = true := by decide +kernel
theorem s_LH_countNotes_4 : dsq c_LH_countNotes 4 [(.iload_n 2, 1, 0), (.bipush 16, 2, 16)] 7 = true := by decide +kernel
theorem s_LH_countNotes_10 : dsq c_LH_countNotes 10 [(.iload_n 1, 1, 0), (.aload_n 0, 1, 0)] 12 = true := by decide +kernel
theorem s_LH_countNotes_15 : dsq c_LH_countNotes 15 [(.iload_n 2, 1, 0)] 16 = true := by decide +kernel
theorem s_LH_countNotes_20 : dsq c_LH_countNotes 20 [(.iadd, 1, 0), (.istore_n 1, 1, 0), (.iinc 2 1, 3, 1), (.goto (-21), 3, 0)] 4 = true := by decide +kernel
theorem s_LH_countNotes_28 : dsq c_LH_countNotes 28 [(.iload_n 1, 1, 0)] 29 = true := by decide +kernel
theorem d_LH_countNotes_7 : decode c_LH_countNotes 7 = .ok (.if_icmp .ge 21, 3) := by decide +kernel
theorem d_LH_countNotes_12 : decode c_LH_countNotes 12 = .ok (.getfield 24, 3) := by decide +kernel
theorem d_LH_countNotes_16 : decode c_LH_countNotes 16 = .ok (.aaload, 1) := by decide +kernel
theorem d_LH_countNotes_17 : decode c_LH_countNotes 17 = .ok (.invokevirtual 239, 3) := by decide +kernel
theorem d_LH_countNotes_29 : decode c_LH_countNotes 29 = .ok (.ireturn, 1) := by decide +kernel
theorem s_NoteBox_size_0 : dsq c_NoteBox_size 0 [(.aload_n 0, 1, 0)] 1 = true := by decide +kernel
theorem d_NoteBox_size_1 : decode c_NoteBox_size 1 = .ok (.getfield 12, 3) := by decide +kernel
theorem d_NoteBox_size_4 : decode c_NoteBox_size 4 = .ok (.invokevirtual 18, 3) := by decide +kernel
theorem d_NoteBox_size_7 : decode c_NoteBox_size 7 = .ok (.ireturn, 1) := by decide +kernel
