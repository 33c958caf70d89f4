theorem d_In_getChars_85 : decode c_In_getChars 85 = .ok (.iload_n 0, 1) := by decide +kernel
theorem d_In_getChars_86 : decode c_In_getChars 86 = .ok (.bipush (-9), 2) := by decide +kernel
theorem d_In_getChars_88 : decode c_In_getChars 88 = .ok (.if_icmp .ge 16, 3) := by decide +kernel
theorem d_In_getChars_91 : decode c_In_getChars 91 = .ok (.aload_n 2, 1) := by decide +kernel
theorem d_In_getChars_92 : decode c_In_getChars 92 = .ok (.iinc 5 (-1), 3) := by decide +kernel
theorem d_In_getChars_95 : decode c_In_getChars 95 = .ok (.iload 5, 2) := by decide +kernel
theorem d_In_getChars_97 : decode c_In_getChars 97 = .ok (.getstatic 87, 3) := by decide +kernel
theorem d_In_getChars_100 : decode c_In_getChars 100 = .ok (.iload_n 0, 1) := by decide +kernel
theorem d_In_getChars_101 : decode c_In_getChars 101 = .ok (.ineg, 1) := by decide +kernel
theorem d_In_getChars_102 : decode c_In_getChars 102 = .ok (.baload, 1) := by decide +kernel
theorem d_In_getChars_103 : decode c_In_getChars 103 = .ok (.bastore, 1) := by decide +kernel
theorem d_In_getChars_104 : decode c_In_getChars 104 = .ok (.iload 6, 2) := by decide +kernel
theorem d_In_getChars_106 : decode c_In_getChars 106 = .ok (.ifCond .eq 12, 3) := by decide +kernel
theorem d_In_getChars_109 : decode c_In_getChars 109 = .ok (.aload_n 2, 1) := by decide +kernel
theorem d_In_getChars_110 : decode c_In_getChars 110 = .ok (.iinc 5 (-1), 3) := by decide +kernel
theorem d_In_getChars_113 : decode c_In_getChars 113 = .ok (.iload 5, 2) := by decide +kernel
theorem d_In_getChars_115 : decode c_In_getChars 115 = .ok (.bipush 45, 2) := by decide +kernel
theorem d_In_getChars_117 : decode c_In_getChars 117 = .ok (.bastore, 1) := by decide +kernel
theorem d_In_getChars_118 : decode c_In_getChars 118 = .ok (.iload 5, 2) := by decide +kernel
theorem d_In_getChars_120 : decode c_In_getChars 120 = .ok (.ireturn, 1) := by decide +kernel
theorem d_AB_append_I_0 : decode c_AB_append_I 0 = .ok (.aload_n 0, 1) := by decide +kernel
theorem d_AB_append_I_1 : decode c_AB_append_I 1 = .ok (.getfield 79, 3) := by decide +kernel
theorem d_AB_append_I_4 : decode c_AB_append_I 4 = .ok (.istore_n 2, 1) := by decide +kernel
theorem d_AB_append_I_5 : decode c_AB_append_I 5 = .ok (.iload_n 2, 1) := by decide +kernel
theorem d_AB_append_I_6 : decode c_AB_append_I 6 = .ok (.iload_n 1, 1) := by decide +kernel
theorem d_AB_append_I_7 : decode c_AB_append_I 7 = .ok (.invokestatic 245, 3) := by decide +kernel
theorem d_AB_append_I_10 : decode c_AB_append_I 10 = .ok (.iadd, 1) := by decide +kernel
theorem d_AB_append_I_11 : decode c_AB_append_I 11 = .ok (.istore_n 3, 1) := by decide +kernel
theorem d_AB_append_I_12 : decode c_AB_append_I 12 = .ok (.aload_n 0, 1) := by decide +kernel
theorem d_AB_append_I_13 : decode c_AB_append_I 13 = .ok (.iload_n 3, 1) := by decide +kernel
theorem d_AB_append_I_14 : decode c_AB_append_I 14 = .ok (.invokevirtual 100, 3) := by decide +kernel
theorem d_AB_append_I_17 : decode c_AB_append_I 17 = .ok (.aload_n 0, 1) := by decide +kernel
theorem d_AB_append_I_18 : decode c_AB_append_I 18 = .ok (.invokevirtual 83, 3) := by decide +kernel
theorem d_AB_append_I_21 : decode c_AB_append_I 21 = .ok (.ifCond .eq 16, 3) := by decide +kernel
theorem d_AB_append_I_24 : decode c_AB_append_I 24 = .ok (.iload_n 1, 1) := by decide +kernel
theorem d_AB_append_I_25 : decode c_AB_append_I 25 = .ok (.iload_n 3, 1) := by decide +kernel
theorem d_AB_append_I_26 : decode c_AB_append_I 26 = .ok (.aload_n 0, 1) := by decide +kernel
theorem d_AB_append_I_27 : decode c_AB_append_I 27 = .ok (.getfield 15, 3) := by decide +kernel
theorem d_AB_append_I_30 : decode c_AB_append_I 30 = .ok (.invokestatic 248, 3) := by decide +kernel
theorem d_AB_append_I_33 : decode c_AB_append_I 33 = .ok (.pop, 1) := by decide +kernel
theorem d_AB_append_I_34 : decode c_AB_append_I 34 = .ok (.goto 14, 3) := by decide +kernel
theorem d_AB_append_I_37 : decode c_AB_append_I 37 = .ok (.iload_n 1, 1) := by decide +kernel
theorem d_AB_append_I_38 : decode c_AB_append_I 38 = .ok (.iload_n 2, 1) := by decide +kernel
theorem d_AB_append_I_39 : decode c_AB_append_I 39 = .ok (.iload_n 3, 1) := by decide +kernel
theorem d_AB_append_I_40 : decode c_AB_append_I 40 = .ok (.aload_n 0, 1) := by decide +kernel
theorem d_AB_append_I_41 : decode c_AB_append_I 41 = .ok (.getfield 15, 3) := by decide +kernel
theorem d_AB_append_I_44 : decode c_AB_append_I 44 = .ok (.invokestatic 251, 3) := by decide +kernel
theorem d_AB_append_I_47 : decode c_AB_append_I 47 = .ok (.pop, 1) := by decide +kernel
theorem d_AB_append_I_48 : decode c_AB_append_I 48 = .ok (.aload_n 0, 1) := by decide +kernel
theorem d_AB_append_I_49 : decode c_AB_append_I 49 = .ok (.iload_n 3, 1) := by decide +kernel
theorem d_AB_append_I_50 : decode c_AB_append_I 50 = .ok (.putfield 79, 3) := by decide +kernel
theorem d_AB_append_I_53 : decode c_AB_append_I 53 = .ok (.aload_n 0, 1) := by decide +kernel
theorem d_AB_append_I_54 : decode c_AB_append_I 54 = .ok (.areturn, 1) := by decide +kernel
theorem d_SB_append_I_0 : decode c_SB_append_I 0 = .ok (.aload_n 0, 1) := by decide +kernel
theorem d_SB_append_I_1 : decode c_SB_append_I 1 = .ok (.iload_n 1, 1) := by decide +kernel
theorem d_SB_append_I_2 : decode c_SB_append_I 2 = .ok (.invokespecial 53, 3) := by decide +kernel
theorem d_SB_append_I_5 : decode c_SB_append_I 5 = .ok (.pop, 1) := by decide +kernel
theorem d_SB_append_I_6 : decode c_SB_append_I 6 = .ok (.aload_n 0, 1) := by decide +kernel
theorem d_SB_append_I_7 : decode c_SB_append_I 7 = .ok (.areturn, 1) := by decide +kernel
theorem d_X_writeEnds_0 : decode c_X_writeEnds 0 = .ok (.aload_n 0, 1) := by decide +kernel
theorem d_X_writeEnds_1 : decode c_X_writeEnds 1 = .ok (.getfield 33, 3) := by decide +kernel
theorem d_X_writeEnds_4 : decode c_X_writeEnds 4 = .ok (.iconst 0, 1) := by decide +kernel
theorem d_X_writeEnds_5 : decode c_X_writeEnds 5 = .ok (.invokevirtual 120, 3) := by decide +kernel
theorem d_X_writeEnds_8 : decode c_X_writeEnds 8 = .ok (.istore_n 1, 1) := by decide +kernel
theorem d_X_writeEnds_9 : decode c_X_writeEnds 9 = .ok (.aload_n 0, 1) := by decide +kernel
theorem d_X_writeEnds_10 : decode c_X_writeEnds 10 = .ok (.getfield 33, 3) := by decide +kernel
theorem d_X_writeEnds_13 : decode c_X_writeEnds 13 = .ok (.aload_n 0, 1) := by decide +kernel
theorem d_X_writeEnds_14 : decode c_X_writeEnds 14 = .ok (.getfield 33, 3) := by decide +kernel
theorem d_X_writeEnds_17 : decode c_X_writeEnds 17 = .ok (.getfield 117, 3) := by decide +kernel
theorem d_X_writeEnds_20 : decode c_X_writeEnds 20 = .ok (.iconst 1, 1) := by decide +kernel
theorem d_X_writeEnds_21 : decode c_X_writeEnds 21 = .ok (.isub, 1) := by decide +kernel
theorem d_X_writeEnds_22 : decode c_X_writeEnds 22 = .ok (.invokevirtual 120, 3) := by decide +kernel
theorem d_X_writeEnds_25 : decode c_X_writeEnds 25 = .ok (.istore_n 2, 1) := by decide +kernel
theorem d_X_writeEnds_26 : decode c_X_writeEnds 26 = .ok (.aload_n 0, 1) := by decide +kernel
theorem d_X_writeEnds_27 : decode c_X_writeEnds 27 = .ok (.getfield 40, 3) := by decide +kernel
theorem d_X_writeEnds_30 : decode c_X_writeEnds 30 = .ok (.bipush 9, 2) := by decide +kernel
theorem d_X_writeEnds_32 : decode c_X_writeEnds 32 = .ok (.invokevirtual 154, 3) := by decide +kernel
theorem d_X_writeEnds_35 : decode c_X_writeEnds 35 = .ok (.pop, 1) := by decide +kernel
theorem d_X_writeEnds_36 : decode c_X_writeEnds 36 = .ok (.aload_n 0, 1) := by decide +kernel
theorem d_X_writeEnds_37 : decode c_X_writeEnds 37 = .ok (.getfield 40, 3) := by decide +kernel
theorem d_X_writeEnds_40 : decode c_X_writeEnds 40 = .ok (.iload_n 1, 1) := by decide +kernel
theorem d_X_writeEnds_41 : decode c_X_writeEnds 41 = .ok (.aload_n 0, 1) := by decide +kernel
theorem d_X_writeEnds_42 : decode c_X_writeEnds 42 = .ok (.getfield 47, 3) := by decide +kernel
theorem d_X_writeEnds_45 : decode c_X_writeEnds 45 = .ok (.aload_n 0, 1) := by decide +kernel
theorem d_X_writeEnds_46 : decode c_X_writeEnds 46 = .ok (.getfield 47, 3) := by decide +kernel
theorem d_X_writeEnds_49 : decode c_X_writeEnds 49 = .ok (.getfield 236, 3) := by decide +kernel
theorem d_X_writeEnds_52 : decode c_X_writeEnds 52 = .ok (.iload_n 1, 1) := by decide +kernel
theorem d_X_writeEnds_53 : decode c_X_writeEnds 53 = .ok (.iaload, 1) := by decide +kernel
theorem d_X_writeEnds_54 : decode c_X_writeEnds 54 = .ok (.invokevirtual 239, 3) := by decide +kernel
theorem d_X_writeEnds_57 : decode c_X_writeEnds 57 = .ok (.isub, 1) := by decide +kernel
theorem d_X_writeEnds_58 : decode c_X_writeEnds 58 = .ok (.invokevirtual 158, 3) := by decide +kernel
theorem d_X_writeEnds_61 : decode c_X_writeEnds 61 = .ok (.pop, 1) := by decide +kernel
theorem d_X_writeEnds_62 : decode c_X_writeEnds 62 = .ok (.aload_n 0, 1) := by decide +kernel
theorem d_X_writeEnds_63 : decode c_X_writeEnds 63 = .ok (.getfield 40, 3) := by decide +kernel
theorem d_X_writeEnds_66 : decode c_X_writeEnds 66 = .ok (.bipush 9, 2) := by decide +kernel
theorem d_X_writeEnds_68 : decode c_X_writeEnds 68 = .ok (.invokevirtual 154, 3) := by decide +kernel
theorem d_X_writeEnds_71 : decode c_X_writeEnds 71 = .ok (.pop, 1) := by decide +kernel
theorem d_X_writeEnds_72 : decode c_X_writeEnds 72 = .ok (.aload_n 0, 1) := by decide +kernel
theorem d_X_writeEnds_73 : decode c_X_writeEnds 73 = .ok (.getfield 40, 3) := by decide +kernel
theorem d_X_writeEnds_76 : decode c_X_writeEnds 76 = .ok (.aload_n 0, 1) := by decide +kernel
theorem d_X_writeEnds_77 : decode c_X_writeEnds 77 = .ok (.getfield 47, 3) := by decide +kernel
theorem d_X_writeEnds_80 : decode c_X_writeEnds 80 = .ok (.aload_n 0, 1) := by decide +kernel
theorem d_X_writeEnds_81 : decode c_X_writeEnds 81 = .ok (.getfield 47, 3) := by decide +kernel
theorem d_X_writeEnds_84 : decode c_X_writeEnds 84 = .ok (.getfield 236, 3) := by decide +kernel
theorem d_X_writeEnds_87 : decode c_X_writeEnds 87 = .ok (.iload_n 2, 1) := by decide +kernel
theorem d_X_writeEnds_88 : decode c_X_writeEnds 88 = .ok (.iaload, 1) := by decide +kernel
theorem d_X_writeEnds_89 : decode c_X_writeEnds 89 = .ok (.invokevirtual 242, 3) := by decide +kernel
theorem d_X_writeEnds_92 : decode c_X_writeEnds 92 = .ok (.iload_n 2, 1) := by decide +kernel
theorem d_X_writeEnds_93 : decode c_X_writeEnds 93 = .ok (.isub, 1) := by decide +kernel
theorem d_X_writeEnds_94 : decode c_X_writeEnds 94 = .ok (.invokevirtual 158, 3) := by decide +kernel
theorem d_X_writeEnds_97 : decode c_X_writeEnds 97 = .ok (.pop, 1) := by decide +kernel
theorem d_X_writeEnds_98 : decode c_X_writeEnds 98 = .ok (.return_, 1) := by decide +kernel
theorem d_X_writeEdits_0 : decode c_X_writeEdits 0 = .ok (.iconst 0, 1) := by decide +kernel
theorem d_X_writeEdits_1 : decode c_X_writeEdits 1 = .ok (.istore_n 1, 1) := by decide +kernel
theorem d_X_writeEdits_2 : decode c_X_writeEdits 2 = .ok (.iconst 0, 1) := by decide +kernel
theorem d_X_writeEdits_3 : decode c_X_writeEdits 3 = .ok (.istore_n 2, 1) := by decide +kernel
theorem d_X_writeEdits_4 : decode c_X_writeEdits 4 = .ok (.iload_n 2, 1) := by decide +kernel
theorem d_X_writeEdits_5 : decode c_X_writeEdits 5 = .ok (.aload_n 0, 1) := by decide +kernel
theorem d_X_writeEdits_6 : decode c_X_writeEdits 6 = .ok (.getfield 33, 3) := by decide +kernel
theorem d_X_writeEdits_9 : decode c_X_writeEdits 9 = .ok (.getfield 124, 3) := by decide +kernel
theorem d_X_writeEdits_12 : decode c_X_writeEdits 12 = .ok (.if_icmp .ge 83, 3) := by decide +kernel
theorem d_X_writeEdits_15 : decode c_X_writeEdits 15 = .ok (.iinc 1 1, 3) := by decide +kernel
theorem d_X_writeEdits_18 : decode c_X_writeEdits 18 = .ok (.iload_n 2, 1) := by decide +kernel
theorem d_X_writeEdits_19 : decode c_X_writeEdits 19 = .ok (.iconst 1, 1) := by decide +kernel
theorem d_X_writeEdits_20 : decode c_X_writeEdits 20 = .ok (.iadd, 1) := by decide +kernel
theorem d_X_writeEdits_21 : decode c_X_writeEdits 21 = .ok (.aload_n 0, 1) := by decide +kernel
theorem d_X_writeEdits_22 : decode c_X_writeEdits 22 = .ok (.getfield 33, 3) := by decide +kernel
theorem d_X_writeEdits_25 : decode c_X_writeEdits 25 = .ok (.getfield 124, 3) := by decide +kernel
theorem d_X_writeEdits_28 : decode c_X_writeEdits 28 = .ok (.if_icmp .eq 24, 3) := by decide +kernel
theorem d_X_writeEdits_31 : decode c_X_writeEdits 31 = .ok (.aload_n 0, 1) := by decide +kernel
theorem d_X_writeEdits_32 : decode c_X_writeEdits 32 = .ok (.getfield 33, 3) := by decide +kernel
theorem d_X_writeEdits_35 : decode c_X_writeEdits 35 = .ok (.iload_n 2, 1) := by decide +kernel
theorem d_X_writeEdits_36 : decode c_X_writeEdits 36 = .ok (.iconst 1, 1) := by decide +kernel
theorem d_X_writeEdits_37 : decode c_X_writeEdits 37 = .ok (.iadd, 1) := by decide +kernel
theorem d_X_writeEdits_38 : decode c_X_writeEdits 38 = .ok (.invokevirtual 127, 3) := by decide +kernel
theorem d_X_writeEdits_41 : decode c_X_writeEdits 41 = .ok (.aload_n 0, 1) := by decide +kernel
theorem d_X_writeEdits_42 : decode c_X_writeEdits 42 = .ok (.getfield 33, 3) := by decide +kernel
theorem d_X_writeEdits_45 : decode c_X_writeEdits 45 = .ok (.iload_n 2, 1) := by decide +kernel
theorem d_X_writeEdits_46 : decode c_X_writeEdits 46 = .ok (.invokevirtual 127, 3) := by decide +kernel
theorem d_X_writeEdits_49 : decode c_X_writeEdits 49 = .ok (.if_icmp .eq 7, 3) := by decide +kernel
theorem d_X_writeEdits_52 : decode c_X_writeEdits 52 = .ok (.iconst 1, 1) := by decide +kernel
theorem d_X_writeEdits_53 : decode c_X_writeEdits 53 = .ok (.goto 4, 3) := by decide +kernel
theorem d_X_writeEdits_56 : decode c_X_writeEdits 56 = .ok (.iconst 0, 1) := by decide +kernel
theorem d_X_writeEdits_57 : decode c_X_writeEdits 57 = .ok (.istore_n 3, 1) := by decide +kernel
theorem d_X_writeEdits_58 : decode c_X_writeEdits 58 = .ok (.iload_n 3, 1) := by decide +kernel
theorem d_X_writeEdits_59 : decode c_X_writeEdits 59 = .ok (.ifCond .eq 30, 3) := by decide +kernel
theorem d_X_writeEdits_62 : decode c_X_writeEdits 62 = .ok (.aload_n 0, 1) := by decide +kernel
theorem d_X_writeEdits_63 : decode c_X_writeEdits 63 = .ok (.getfield 40, 3) := by decide +kernel
theorem d_X_writeEdits_66 : decode c_X_writeEdits 66 = .ok (.iload_n 1, 1) := by decide +kernel
theorem d_X_writeEdits_67 : decode c_X_writeEdits 67 = .ok (.invokevirtual 158, 3) := by decide +kernel
theorem d_X_writeEdits_70 : decode c_X_writeEdits 70 = .ok (.pop, 1) := by decide +kernel
theorem d_X_writeEdits_71 : decode c_X_writeEdits 71 = .ok (.aload_n 0, 1) := by decide +kernel
theorem d_X_writeEdits_72 : decode c_X_writeEdits 72 = .ok (.getfield 40, 3) := by decide +kernel
theorem d_X_writeEdits_75 : decode c_X_writeEdits 75 = .ok (.aload_n 0, 1) := by decide +kernel
theorem d_X_writeEdits_76 : decode c_X_writeEdits 76 = .ok (.getfield 33, 3) := by decide +kernel
theorem d_X_writeEdits_79 : decode c_X_writeEdits 79 = .ok (.iload_n 2, 1) := by decide +kernel
theorem d_X_writeEdits_80 : decode c_X_writeEdits 80 = .ok (.invokevirtual 127, 3) := by decide +kernel
theorem d_X_writeEdits_83 : decode c_X_writeEdits 83 = .ok (.invokevirtual 154, 3) := by decide +kernel
theorem d_X_writeEdits_86 : decode c_X_writeEdits 86 = .ok (.pop, 1) := by decide +kernel
theorem d_X_writeEdits_87 : decode c_X_writeEdits 87 = .ok (.iconst 0, 1) := by decide +kernel
theorem d_X_writeEdits_88 : decode c_X_writeEdits 88 = .ok (.istore_n 1, 1) := by decide +kernel
theorem d_X_writeEdits_89 : decode c_X_writeEdits 89 = .ok (.iinc 2 1, 3) := by decide +kernel
theorem d_X_writeEdits_92 : decode c_X_writeEdits 92 = .ok (.goto (-88), 3) := by decide +kernel
theorem d_X_writeEdits_95 : decode c_X_writeEdits 95 = .ok (.return_, 1) := by decide +kernel
theorem d_AB_length_0 : decode c_AB_length 0 = .ok (.aload_n 0, 1) := by decide +kernel
theorem d_AB_length_1 : decode c_AB_length 1 = .ok (.getfield 79, 3) := by decide +kernel
theorem d_AB_length_4 : decode c_AB_length 4 = .ok (.ireturn, 1) := by decide +kernel
theorem d_SB_length_0 : decode c_SB_length 0 = .ok (.aload_n 0, 1) := by decide +kernel
theorem d_SB_length_1 : decode c_SB_length 1 = .ok (.invokespecial 343, 3) := by decide +kernel
theorem d_SB_length_4 : decode c_SB_length 4 = .ok (.ireturn, 1) := by decide +kernel
theorem d_X_tell_0 : decode c_X_tell 0 = .ok (.aload_n 0, 1) := by decide +kernel
theorem d_X_tell_1 : decode c_X_tell 1 = .ok (.getfield 33, 3) := by decide +kernel
theorem d_X_tell_4 : decode c_X_tell 4 = .ok (.getfield 72, 3) := by decide +kernel
theorem d_X_tell_7 : decode c_X_tell 7 = .ok (.ifCond .ne 5, 3) := by decide +kernel
theorem d_X_tell_10 : decode c_X_tell 10 = .ok (.iconst (-1), 1) := by decide +kernel
theorem d_X_tell_11 : decode c_X_tell 11 = .ok (.ireturn, 1) := by decide +kernel
theorem d_X_tell_12 : decode c_X_tell 12 = .ok (.aload_n 0, 1) := by decide +kernel
theorem d_X_tell_13 : decode c_X_tell 13 = .ok (.getfield 40, 3) := by decide +kernel
theorem d_X_tell_16 : decode c_X_tell 16 = .ok (.iconst 0, 1) := by decide +kernel
theorem d_X_tell_17 : decode c_X_tell 17 = .ok (.invokevirtual 144, 3) := by decide +kernel
theorem d_X_tell_20 : decode c_X_tell 20 = .ok (.aload_n 0, 1) := by decide +kernel
theorem d_X_tell_21 : decode c_X_tell 21 = .ok (.invokevirtual 148, 3) := by decide +kernel
theorem d_X_tell_24 : decode c_X_tell 24 = .ok (.aload_n 0, 1) := by decide +kernel
theorem d_X_tell_25 : decode c_X_tell 25 = .ok (.invokevirtual 151, 3) := by decide +kernel
theorem d_X_tell_28 : decode c_X_tell 28 = .ok (.aload_n 0, 1) := by decide +kernel
theorem d_X_tell_29 : decode c_X_tell 29 = .ok (.getfield 40, 3) := by decide +kernel
theorem d_X_tell_32 : decode c_X_tell 32 = .ok (.bipush 9, 2) := by decide +kernel
theorem d_X_tell_34 : decode c_X_tell 34 = .ok (.invokevirtual 154, 3) := by decide +kernel
theorem d_X_tell_37 : decode c_X_tell 37 = .ok (.pop, 1) := by decide +kernel
theorem d_X_tell_38 : decode c_X_tell 38 = .ok (.aload_n 0, 1) := by decide +kernel
theorem d_X_tell_39 : decode c_X_tell 39 = .ok (.getfield 40, 3) := by decide +kernel
theorem d_X_tell_42 : decode c_X_tell 42 = .ok (.aload_n 0, 1) := by decide +kernel
theorem d_X_tell_43 : decode c_X_tell 43 = .ok (.getfield 33, 3) := by decide +kernel
theorem d_X_tell_46 : decode c_X_tell 46 = .ok (.getfield 110, 3) := by decide +kernel
theorem d_X_tell_49 : decode c_X_tell 49 = .ok (.invokevirtual 158, 3) := by decide +kernel
theorem d_X_tell_52 : decode c_X_tell 52 = .ok (.pop, 1) := by decide +kernel
theorem d_X_tell_53 : decode c_X_tell 53 = .ok (.aload_n 0, 1) := by decide +kernel
theorem d_X_tell_54 : decode c_X_tell 54 = .ok (.getfield 40, 3) := by decide +kernel
theorem d_X_tell_57 : decode c_X_tell 57 = .ok (.bipush 9, 2) := by decide +kernel
theorem d_X_tell_59 : decode c_X_tell 59 = .ok (.invokevirtual 154, 3) := by decide +kernel
theorem d_X_tell_62 : decode c_X_tell 62 = .ok (.pop, 1) := by decide +kernel
theorem d_X_tell_63 : decode c_X_tell 63 = .ok (.aload_n 0, 1) := by decide +kernel
theorem d_X_tell_64 : decode c_X_tell 64 = .ok (.invokevirtual 161, 3) := by decide +kernel
theorem d_X_tell_67 : decode c_X_tell 67 = .ok (.aload_n 0, 1) := by decide +kernel
theorem d_X_tell_68 : decode c_X_tell 68 = .ok (.getfield 40, 3) := by decide +kernel
theorem d_X_tell_71 : decode c_X_tell 71 = .ok (.invokevirtual 164, 3) := by decide +kernel
theorem d_X_tell_74 : decode c_X_tell 74 = .ok (.ireturn, 1) := by decide +kernel
theorem d_Pr_checkIndex_0 : decode c_Pr_checkIndex 0 = .ok (.iload_n 0, 1) := by decide +kernel
theorem d_Pr_checkIndex_1 : decode c_Pr_checkIndex 1 = .ok (.ifCond .lt 8, 3) := by decide +kernel
theorem d_Pr_checkIndex_4 : decode c_Pr_checkIndex 4 = .ok (.iload_n 0, 1) := by decide +kernel
theorem d_Pr_checkIndex_5 : decode c_Pr_checkIndex 5 = .ok (.iload_n 1, 1) := by decide +kernel
theorem d_Pr_checkIndex_6 : decode c_Pr_checkIndex 6 = .ok (.if_icmp .lt 10, 3) := by decide +kernel
theorem d_Pr_checkIndex_9 : decode c_Pr_checkIndex 9 = .ok (.aload_n 2, 1) := by decide +kernel
theorem d_Pr_checkIndex_10 : decode c_Pr_checkIndex 10 = .ok (.iload_n 0, 1) := by decide +kernel
theorem d_Pr_checkIndex_11 : decode c_Pr_checkIndex 11 = .ok (.iload_n 1, 1) := by decide +kernel
theorem d_Pr_checkIndex_12 : decode c_Pr_checkIndex 12 = .ok (.invokestatic 95, 3) := by decide +kernel
theorem d_Pr_checkIndex_15 : decode c_Pr_checkIndex 15 = .ok (.athrow, 1) := by decide +kernel
theorem d_Pr_checkIndex_16 : decode c_Pr_checkIndex 16 = .ok (.iload_n 0, 1) := by decide +kernel
theorem d_Pr_checkIndex_17 : decode c_Pr_checkIndex 17 = .ok (.ireturn, 1) := by decide +kernel
theorem d_St_checkIndex_0 : decode c_St_checkIndex 0 = .ok (.iload_n 0, 1) := by decide +kernel
theorem d_St_checkIndex_1 : decode c_St_checkIndex 1 = .ok (.iload_n 1, 1) := by decide +kernel
theorem d_St_checkIndex_2 : decode c_St_checkIndex 2 = .ok (.getstatic 1053, 3) := by decide +kernel
theorem d_St_checkIndex_5 : decode c_St_checkIndex 5 = .ok (.invokestatic 1059, 3) := by decide +kernel
theorem d_St_checkIndex_8 : decode c_St_checkIndex 8 = .ok (.pop, 1) := by decide +kernel
theorem d_St_checkIndex_9 : decode c_St_checkIndex 9 = .ok (.return_, 1) := by decide +kernel
theorem d_AB_charAt_0 : decode c_AB_charAt 0 = .ok (.aload_n 0, 1) := by decide +kernel
theorem d_AB_charAt_1 : decode c_AB_charAt 1 = .ok (.getfield 22, 3) := by decide +kernel
theorem d_AB_charAt_4 : decode c_AB_charAt 4 = .ok (.istore_n 2, 1) := by decide +kernel
theorem d_AB_charAt_5 : decode c_AB_charAt 5 = .ok (.aload_n 0, 1) := by decide +kernel
theorem d_AB_charAt_6 : decode c_AB_charAt 6 = .ok (.getfield 15, 3) := by decide +kernel
theorem d_AB_charAt_9 : decode c_AB_charAt 9 = .ok (.astore_n 3, 1) := by decide +kernel
theorem d_AB_charAt_10 : decode c_AB_charAt 10 = .ok (.aload_n 0, 1) := by decide +kernel
theorem d_AB_charAt_11 : decode c_AB_charAt 11 = .ok (.getfield 79, 3) := by decide +kernel
theorem d_AB_charAt_14 : decode c_AB_charAt 14 = .ok (.aload_n 3, 1) := by decide +kernel
theorem d_AB_charAt_15 : decode c_AB_charAt 15 = .ok (.arraylength, 1) := by decide +kernel
theorem d_AB_charAt_16 : decode c_AB_charAt 16 = .ok (.iload_n 2, 1) := by decide +kernel
theorem d_AB_charAt_17 : decode c_AB_charAt 17 = .ok (.ishr, 1) := by decide +kernel
theorem d_AB_charAt_18 : decode c_AB_charAt 18 = .ok (.invokestatic 138, 3) := by decide +kernel
theorem d_AB_charAt_21 : decode c_AB_charAt 21 = .ok (.istore 4, 2) := by decide +kernel
theorem d_AB_charAt_23 : decode c_AB_charAt 23 = .ok (.iload_n 1, 1) := by decide +kernel
theorem d_AB_charAt_24 : decode c_AB_charAt 24 = .ok (.iload 4, 2) := by decide +kernel
theorem d_AB_charAt_26 : decode c_AB_charAt 26 = .ok (.invokestatic 144, 3) := by decide +kernel
theorem d_AB_charAt_29 : decode c_AB_charAt 29 = .ok (.iload_n 2, 1) := by decide +kernel
theorem d_AB_charAt_30 : decode c_AB_charAt 30 = .ok (.ifCond .ne 12, 3) := by decide +kernel
theorem d_AB_charAt_33 : decode c_AB_charAt 33 = .ok (.aload_n 3, 1) := by decide +kernel
theorem d_AB_charAt_34 : decode c_AB_charAt 34 = .ok (.iload_n 1, 1) := by decide +kernel
theorem d_AB_charAt_35 : decode c_AB_charAt 35 = .ok (.baload, 1) := by decide +kernel
theorem d_AB_charAt_36 : decode c_AB_charAt 36 = .ok (.sipush 255, 3) := by decide +kernel
theorem d_AB_charAt_39 : decode c_AB_charAt 39 = .ok (.iand, 1) := by decide +kernel
theorem d_AB_charAt_40 : decode c_AB_charAt 40 = .ok (.i2c, 1) := by decide +kernel
theorem d_AB_charAt_41 : decode c_AB_charAt 41 = .ok (.ireturn, 1) := by decide +kernel
theorem d_AB_charAt_42 : decode c_AB_charAt 42 = .ok (.aload_n 3, 1) := by decide +kernel
theorem d_AB_charAt_43 : decode c_AB_charAt 43 = .ok (.iload_n 1, 1) := by decide +kernel
theorem d_AB_charAt_44 : decode c_AB_charAt 44 = .ok (.invokestatic 148, 3) := by decide +kernel
theorem d_AB_charAt_47 : decode c_AB_charAt 47 = .ok (.ireturn, 1) := by decide +kernel
theorem d_SB_charAt_0 : decode c_SB_charAt 0 = .ok (.aload_n 0, 1) := by decide +kernel
theorem d_SB_charAt_1 : decode c_SB_charAt 1 = .ok (.iload_n 1, 1) := by decide +kernel
theorem d_SB_charAt_2 : decode c_SB_charAt 2 = .ok (.invokespecial 329, 3) := by decide +kernel
theorem d_SB_charAt_5 : decode c_SB_charAt 5 = .ok (.ireturn, 1) := by decide +kernel
theorem d_X_letter_0 : decode c_X_letter 0 = .ok (.iload_n 1, 1) := by decide +kernel
theorem d_X_letter_1 : decode c_X_letter 1 = .ok (.ifCond .lt 25, 3) := by decide +kernel
theorem d_X_letter_4 : decode c_X_letter 4 = .ok (.iload_n 1, 1) := by decide +kernel
theorem d_X_letter_5 : decode c_X_letter 5 = .ok (.aload_n 0, 1) := by decide +kernel
theorem d_X_letter_6 : decode c_X_letter 6 = .ok (.getfield 40, 3) := by decide +kernel
theorem d_X_letter_9 : decode c_X_letter 9 = .ok (.invokevirtual 164, 3) := by decide +kernel
theorem d_X_letter_12 : decode c_X_letter 12 = .ok (.if_icmp .ge 14, 3) := by decide +kernel
theorem d_X_letter_15 : decode c_X_letter 15 = .ok (.aload_n 0, 1) := by decide +kernel
theorem d_X_letter_16 : decode c_X_letter 16 = .ok (.getfield 40, 3) := by decide +kernel
theorem d_X_letter_19 : decode c_X_letter 19 = .ok (.iload_n 1, 1) := by decide +kernel
theorem d_X_letter_20 : decode c_X_letter 20 = .ok (.invokevirtual 167, 3) := by decide +kernel
theorem d_X_letter_23 : decode c_X_letter 23 = .ok (.goto 4, 3) := by decide +kernel
theorem d_X_letter_26 : decode c_X_letter 26 = .ok (.iconst (-1), 1) := by decide +kernel
theorem d_X_letter_27 : decode c_X_letter 27 = .ok (.ireturn, 1) := by decide +kernel
theorem d_Mo_type_0 : decode c_Mo_type 0 = .ok (.iload_n 1, 1) := by decide +kernel
theorem d_Mo_type_1 : decode c_Mo_type 1 = .ok (.bipush 9, 2) := by decide +kernel
theorem d_Mo_type_3 : decode c_Mo_type 3 = .ok (.if_icmp .eq 21, 3) := by decide +kernel
theorem d_Mo_type_6 : decode c_Mo_type 6 = .ok (.iload_n 1, 1) := by decide +kernel
theorem d_Mo_type_7 : decode c_Mo_type 7 = .ok (.bipush 10, 2) := by decide +kernel
theorem d_Mo_type_9 : decode c_Mo_type 9 = .ok (.if_icmp .eq 15, 3) := by decide +kernel
theorem d_Mo_type_12 : decode c_Mo_type 12 = .ok (.iload_n 1, 1) := by decide +kernel
theorem d_Mo_type_13 : decode c_Mo_type 13 = .ok (.bipush 32, 2) := by decide +kernel
theorem d_Mo_type_15 : decode c_Mo_type 15 = .ok (.if_icmp .lt 19, 3) := by decide +kernel
theorem d_Mo_type_18 : decode c_Mo_type 18 = .ok (.iload_n 1, 1) := by decide +kernel
theorem d_Mo_type_19 : decode c_Mo_type 19 = .ok (.bipush 126, 2) := by decide +kernel
theorem d_Mo_type_21 : decode c_Mo_type 21 = .ok (.if_icmp .gt 13, 3) := by decide +kernel
theorem d_Mo_type_24 : decode c_Mo_type 24 = .ok (.aload_n 0, 1) := by decide +kernel
theorem d_Mo_type_25 : decode c_Mo_type 25 = .ok (.getfield 74, 3) := by decide +kernel
theorem d_Mo_type_28 : decode c_Mo_type 28 = .ok (.sipush 400, 3) := by decide +kernel
theorem d_Mo_type_31 : decode c_Mo_type 31 = .ok (.if_icmp .ne 5, 3) := by decide +kernel
theorem d_Mo_type_34 : decode c_Mo_type 34 = .ok (.iconst 0, 1) := by decide +kernel
theorem d_Mo_type_35 : decode c_Mo_type 35 = .ok (.ireturn, 1) := by decide +kernel
theorem d_Mo_type_36 : decode c_Mo_type 36 = .ok (.aload_n 0, 1) := by decide +kernel
theorem d_Mo_type_37 : decode c_Mo_type 37 = .ok (.getfield 7, 3) := by decide +kernel
theorem d_Mo_type_40 : decode c_Mo_type 40 = .ok (.aload_n 0, 1) := by decide +kernel
theorem d_Mo_type_41 : decode c_Mo_type 41 = .ok (.getfield 74, 3) := by decide +kernel
theorem d_Mo_type_44 : decode c_Mo_type 44 = .ok (.iload_n 1, 1) := by decide +kernel
theorem d_Mo_type_45 : decode c_Mo_type 45 = .ok (.castore, 1) := by decide +kernel
theorem d_Mo_type_46 : decode c_Mo_type 46 = .ok (.aload_n 0, 1) := by decide +kernel
theorem d_Mo_type_47 : decode c_Mo_type 47 = .ok (.dup, 1) := by decide +kernel
theorem d_Mo_type_48 : decode c_Mo_type 48 = .ok (.getfield 74, 3) := by decide +kernel
theorem d_Mo_type_51 : decode c_Mo_type 51 = .ok (.iconst 1, 1) := by decide +kernel
theorem d_Mo_type_52 : decode c_Mo_type 52 = .ok (.iadd, 1) := by decide +kernel
theorem d_Mo_type_53 : decode c_Mo_type 53 = .ok (.putfield 74, 3) := by decide +kernel
theorem d_Mo_type_56 : decode c_Mo_type 56 = .ok (.iconst 1, 1) := by decide +kernel
theorem d_Mo_type_57 : decode c_Mo_type 57 = .ok (.ireturn, 1) := by decide +kernel
theorem d_Mo_clear_0 : decode c_Mo_clear 0 = .ok (.aload_n 0, 1) := by decide +kernel
theorem d_Mo_clear_1 : decode c_Mo_clear 1 = .ok (.iconst 0, 1) := by decide +kernel
theorem d_Mo_clear_2 : decode c_Mo_clear 2 = .ok (.putfield 74, 3) := by decide +kernel
theorem d_Mo_clear_5 : decode c_Mo_clear 5 = .ok (.return_, 1) := by decide +kernel
theorem d_Mo_eat_0 : decode c_Mo_eat 0 = .ok (.aload_n 0, 1) := by decide +kernel
theorem d_Mo_eat_1 : decode c_Mo_eat 1 = .ok (.getfield 78, 3) := by decide +kernel
theorem d_Mo_eat_4 : decode c_Mo_eat 4 = .ok (.aload_n 0, 1) := by decide +kernel
theorem d_Mo_eat_5 : decode c_Mo_eat 5 = .ok (.getfield 81, 3) := by decide +kernel
theorem d_Mo_eat_8 : decode c_Mo_eat 8 = .ok (.if_icmp .ge 16, 3) := by decide +kernel
theorem d_Mo_eat_11 : decode c_Mo_eat 11 = .ok (.aload_n 0, 1) := by decide +kernel
theorem d_Mo_eat_12 : decode c_Mo_eat 12 = .ok (.getfield 7, 3) := by decide +kernel
theorem d_Mo_eat_15 : decode c_Mo_eat 15 = .ok (.aload_n 0, 1) := by decide +kernel
theorem d_Mo_eat_16 : decode c_Mo_eat 16 = .ok (.getfield 78, 3) := by decide +kernel
theorem d_Mo_eat_19 : decode c_Mo_eat 19 = .ok (.caload, 1) := by decide +kernel
theorem d_Mo_eat_20 : decode c_Mo_eat 20 = .ok (.iload_n 1, 1) := by decide +kernel
theorem d_Mo_eat_21 : decode c_Mo_eat 21 = .ok (.if_icmp .eq 5, 3) := by decide +kernel
theorem d_Mo_eat_24 : decode c_Mo_eat 24 = .ok (.iconst 0, 1) := by decide +kernel
theorem d_Mo_eat_25 : decode c_Mo_eat 25 = .ok (.ireturn, 1) := by decide +kernel
theorem d_Mo_eat_26 : decode c_Mo_eat 26 = .ok (.aload_n 0, 1) := by decide +kernel
theorem d_Mo_eat_27 : decode c_Mo_eat 27 = .ok (.dup, 1) := by decide +kernel
theorem d_Mo_eat_28 : decode c_Mo_eat 28 = .ok (.getfield 78, 3) := by decide +kernel
theorem d_Mo_eat_31 : decode c_Mo_eat 31 = .ok (.iconst 1, 1) := by decide +kernel
theorem d_Mo_eat_32 : decode c_Mo_eat 32 = .ok (.iadd, 1) := by decide +kernel
theorem d_Mo_eat_33 : decode c_Mo_eat 33 = .ok (.putfield 78, 3) := by decide +kernel
theorem d_Mo_eat_36 : decode c_Mo_eat 36 = .ok (.iconst 1, 1) := by decide +kernel
theorem d_Mo_eat_37 : decode c_Mo_eat 37 = .ok (.ireturn, 1) := by decide +kernel
theorem d_Mo_inName_0 : decode c_Mo_inName 0 = .ok (.iload_n 0, 1) := by decide +kernel
theorem d_Mo_inName_1 : decode c_Mo_inName 1 = .ok (.bipush 97, 2) := by decide +kernel
theorem d_Mo_inName_3 : decode c_Mo_inName 3 = .ok (.if_icmp .lt 9, 3) := by decide +kernel
theorem d_Mo_inName_6 : decode c_Mo_inName 6 = .ok (.iload_n 0, 1) := by decide +kernel
theorem d_Mo_inName_7 : decode c_Mo_inName 7 = .ok (.bipush 122, 2) := by decide +kernel
theorem d_Mo_inName_9 : decode c_Mo_inName 9 = .ok (.if_icmp .le 15, 3) := by decide +kernel
theorem d_Mo_inName_12 : decode c_Mo_inName 12 = .ok (.iload_n 0, 1) := by decide +kernel
theorem d_Mo_inName_13 : decode c_Mo_inName 13 = .ok (.bipush 48, 2) := by decide +kernel
theorem d_Mo_inName_15 : decode c_Mo_inName 15 = .ok (.if_icmp .lt 13, 3) := by decide +kernel
theorem d_Mo_inName_18 : decode c_Mo_inName 18 = .ok (.iload_n 0, 1) := by decide +kernel
theorem d_Mo_inName_19 : decode c_Mo_inName 19 = .ok (.bipush 57, 2) := by decide +kernel
theorem d_Mo_inName_21 : decode c_Mo_inName 21 = .ok (.if_icmp .gt 7, 3) := by decide +kernel
theorem d_Mo_inName_24 : decode c_Mo_inName 24 = .ok (.iconst 1, 1) := by decide +kernel
theorem d_Mo_inName_25 : decode c_Mo_inName 25 = .ok (.goto 4, 3) := by decide +kernel
theorem d_Mo_inName_28 : decode c_Mo_inName 28 = .ok (.iconst 0, 1) := by decide +kernel
theorem d_Mo_inName_29 : decode c_Mo_inName 29 = .ok (.ireturn, 1) := by decide +kernel
theorem d_Mo_eatName_0 : decode c_Mo_eatName 0 = .ok (.aload_n 0, 1) := by decide +kernel
theorem d_Mo_eatName_1 : decode c_Mo_eatName 1 = .ok (.aload_n 0, 1) := by decide +kernel
theorem d_Mo_eatName_2 : decode c_Mo_eatName 2 = .ok (.getfield 78, 3) := by decide +kernel
theorem d_Mo_eatName_5 : decode c_Mo_eatName 5 = .ok (.putfield 84, 3) := by decide +kernel
theorem d_Mo_eatName_8 : decode c_Mo_eatName 8 = .ok (.aload_n 0, 1) := by decide +kernel
theorem d_Mo_eatName_9 : decode c_Mo_eatName 9 = .ok (.getfield 78, 3) := by decide +kernel
theorem d_Mo_eatName_12 : decode c_Mo_eatName 12 = .ok (.aload_n 0, 1) := by decide +kernel
theorem d_Mo_eatName_13 : decode c_Mo_eatName 13 = .ok (.getfield 81, 3) := by decide +kernel
theorem d_Mo_eatName_16 : decode c_Mo_eatName 16 = .ok (.if_icmp .ge 31, 3) := by decide +kernel
theorem d_Mo_eatName_19 : decode c_Mo_eatName 19 = .ok (.aload_n 0, 1) := by decide +kernel
theorem d_Mo_eatName_20 : decode c_Mo_eatName 20 = .ok (.getfield 7, 3) := by decide +kernel
theorem d_Mo_eatName_23 : decode c_Mo_eatName 23 = .ok (.aload_n 0, 1) := by decide +kernel
theorem d_Mo_eatName_24 : decode c_Mo_eatName 24 = .ok (.getfield 78, 3) := by decide +kernel
theorem d_Mo_eatName_27 : decode c_Mo_eatName 27 = .ok (.caload, 1) := by decide +kernel
theorem d_Mo_eatName_28 : decode c_Mo_eatName 28 = .ok (.invokestatic 87, 3) := by decide +kernel
theorem d_Mo_eatName_31 : decode c_Mo_eatName 31 = .ok (.ifCond .eq 16, 3) := by decide +kernel
theorem d_Mo_eatName_34 : decode c_Mo_eatName 34 = .ok (.aload_n 0, 1) := by decide +kernel
theorem d_Mo_eatName_35 : decode c_Mo_eatName 35 = .ok (.dup, 1) := by decide +kernel
theorem d_Mo_eatName_36 : decode c_Mo_eatName 36 = .ok (.getfield 78, 3) := by decide +kernel
theorem d_Mo_eatName_39 : decode c_Mo_eatName 39 = .ok (.iconst 1, 1) := by decide +kernel
theorem d_Mo_eatName_40 : decode c_Mo_eatName 40 = .ok (.iadd, 1) := by decide +kernel
theorem d_Mo_eatName_41 : decode c_Mo_eatName 41 = .ok (.putfield 78, 3) := by decide +kernel
theorem d_Mo_eatName_44 : decode c_Mo_eatName 44 = .ok (.goto (-36), 3) := by decide +kernel
theorem d_Mo_eatName_47 : decode c_Mo_eatName 47 = .ok (.aload_n 0, 1) := by decide +kernel
theorem d_Mo_eatName_48 : decode c_Mo_eatName 48 = .ok (.aload_n 0, 1) := by decide +kernel
theorem d_Mo_eatName_49 : decode c_Mo_eatName 49 = .ok (.getfield 78, 3) := by decide +kernel
theorem d_Mo_eatName_52 : decode c_Mo_eatName 52 = .ok (.aload_n 0, 1) := by decide +kernel
theorem d_Mo_eatName_53 : decode c_Mo_eatName 53 = .ok (.getfield 84, 3) := by decide +kernel
theorem d_Mo_eatName_56 : decode c_Mo_eatName 56 = .ok (.isub, 1) := by decide +kernel
theorem d_Mo_eatName_57 : decode c_Mo_eatName 57 = .ok (.putfield 91, 3) := by decide +kernel
theorem d_Mo_eatName_60 : decode c_Mo_eatName 60 = .ok (.aload_n 0, 1) := by decide +kernel
theorem d_Mo_eatName_61 : decode c_Mo_eatName 61 = .ok (.getfield 91, 3) := by decide +kernel
theorem d_Mo_eatName_64 : decode c_Mo_eatName 64 = .ok (.iconst 1, 1) := by decide +kernel
theorem d_Mo_eatName_65 : decode c_Mo_eatName 65 = .ok (.if_icmp .lt 15, 3) := by decide +kernel
theorem d_Mo_eatName_68 : decode c_Mo_eatName 68 = .ok (.aload_n 0, 1) := by decide +kernel
theorem d_Mo_eatName_69 : decode c_Mo_eatName 69 = .ok (.getfield 91, 3) := by decide +kernel
theorem d_Mo_eatName_72 : decode c_Mo_eatName 72 = .ok (.iconst 3, 1) := by decide +kernel
theorem d_Mo_eatName_73 : decode c_Mo_eatName 73 = .ok (.if_icmp .gt 7, 3) := by decide +kernel
theorem d_Mo_eatName_76 : decode c_Mo_eatName 76 = .ok (.iconst 1, 1) := by decide +kernel
theorem d_Mo_eatName_77 : decode c_Mo_eatName 77 = .ok (.goto 4, 3) := by decide +kernel
theorem d_Mo_eatName_80 : decode c_Mo_eatName 80 = .ok (.iconst 0, 1) := by decide +kernel
theorem d_Mo_eatName_81 : decode c_Mo_eatName 81 = .ok (.ireturn, 1) := by decide +kernel
theorem d_Mo_segmentNamed_0 : decode c_Mo_segmentNamed 0 = .ok (.iconst 0, 1) := by decide +kernel
theorem d_Mo_segmentNamed_1 : decode c_Mo_segmentNamed 1 = .ok (.istore_n 1, 1) := by decide +kernel
theorem d_Mo_segmentNamed_2 : decode c_Mo_segmentNamed 2 = .ok (.iload_n 1, 1) := by decide +kernel
theorem d_Mo_segmentNamed_3 : decode c_Mo_segmentNamed 3 = .ok (.aload_n 0, 1) := by decide +kernel
theorem d_Mo_segmentNamed_4 : decode c_Mo_segmentNamed 4 = .ok (.getfield 13, 3) := by decide +kernel
theorem d_Mo_segmentNamed_7 : decode c_Mo_segmentNamed 7 = .ok (.iconst 1, 1) := by decide +kernel
theorem d_Mo_segmentNamed_8 : decode c_Mo_segmentNamed 8 = .ok (.iaload, 1) := by decide +kernel
theorem d_Mo_segmentNamed_9 : decode c_Mo_segmentNamed 9 = .ok (.if_icmp .ge 90, 3) := by decide +kernel
theorem d_Mo_segmentNamed_12 : decode c_Mo_segmentNamed 12 = .ok (.aload_n 0, 1) := by decide +kernel
theorem d_Mo_segmentNamed_13 : decode c_Mo_segmentNamed 13 = .ok (.getfield 20, 3) := by decide +kernel
theorem d_Mo_segmentNamed_16 : decode c_Mo_segmentNamed 16 = .ok (.bipush 8, 2) := by decide +kernel
theorem d_Mo_segmentNamed_18 : decode c_Mo_segmentNamed 18 = .ok (.iload_n 1, 1) := by decide +kernel
theorem d_Mo_segmentNamed_19 : decode c_Mo_segmentNamed 19 = .ok (.iadd, 1) := by decide +kernel
theorem d_Mo_segmentNamed_20 : decode c_Mo_segmentNamed 20 = .ok (.iaload, 1) := by decide +kernel
theorem d_Mo_segmentNamed_21 : decode c_Mo_segmentNamed 21 = .ok (.aload_n 0, 1) := by decide +kernel
theorem d_Mo_segmentNamed_22 : decode c_Mo_segmentNamed 22 = .ok (.getfield 91, 3) := by decide +kernel
theorem d_Mo_segmentNamed_25 : decode c_Mo_segmentNamed 25 = .ok (.if_icmp .ne 7, 3) := by decide +kernel
theorem d_Mo_segmentNamed_28 : decode c_Mo_segmentNamed 28 = .ok (.iconst 1, 1) := by decide +kernel
theorem d_Mo_segmentNamed_29 : decode c_Mo_segmentNamed 29 = .ok (.goto 4, 3) := by decide +kernel
theorem d_Mo_segmentNamed_32 : decode c_Mo_segmentNamed 32 = .ok (.iconst 0, 1) := by decide +kernel
theorem d_Mo_segmentNamed_33 : decode c_Mo_segmentNamed 33 = .ok (.istore_n 2, 1) := by decide +kernel
theorem d_Mo_segmentNamed_34 : decode c_Mo_segmentNamed 34 = .ok (.iconst 0, 1) := by decide +kernel
theorem d_Mo_segmentNamed_35 : decode c_Mo_segmentNamed 35 = .ok (.istore_n 3, 1) := by decide +kernel
theorem d_Mo_segmentNamed_36 : decode c_Mo_segmentNamed 36 = .ok (.iload_n 3, 1) := by decide +kernel
theorem d_Mo_segmentNamed_37 : decode c_Mo_segmentNamed 37 = .ok (.aload_n 0, 1) := by decide +kernel
theorem d_Mo_segmentNamed_38 : decode c_Mo_segmentNamed 38 = .ok (.getfield 91, 3) := by decide +kernel
theorem d_Mo_segmentNamed_41 : decode c_Mo_segmentNamed 41 = .ok (.if_icmp .ge 46, 3) := by decide +kernel
theorem d_Mo_segmentNamed_44 : decode c_Mo_segmentNamed 44 = .ok (.iload_n 2, 1) := by decide +kernel
theorem d_Mo_segmentNamed_45 : decode c_Mo_segmentNamed 45 = .ok (.ifCond .eq 42, 3) := by decide +kernel
theorem d_Mo_segmentNamed_48 : decode c_Mo_segmentNamed 48 = .ok (.aload_n 0, 1) := by decide +kernel
theorem d_Mo_segmentNamed_49 : decode c_Mo_segmentNamed 49 = .ok (.getfield 17, 3) := by decide +kernel
theorem d_Mo_segmentNamed_52 : decode c_Mo_segmentNamed 52 = .ok (.bipush 24, 2) := by decide +kernel
theorem d_Mo_segmentNamed_54 : decode c_Mo_segmentNamed 54 = .ok (.iconst 3, 1) := by decide +kernel
theorem d_Mo_segmentNamed_55 : decode c_Mo_segmentNamed 55 = .ok (.iload_n 1, 1) := by decide +kernel
theorem d_Mo_segmentNamed_56 : decode c_Mo_segmentNamed 56 = .ok (.imul, 1) := by decide +kernel
theorem d_Mo_segmentNamed_57 : decode c_Mo_segmentNamed 57 = .ok (.iadd, 1) := by decide +kernel
theorem d_Mo_segmentNamed_58 : decode c_Mo_segmentNamed 58 = .ok (.iload_n 3, 1) := by decide +kernel
theorem d_Mo_segmentNamed_59 : decode c_Mo_segmentNamed 59 = .ok (.iadd, 1) := by decide +kernel
theorem d_Mo_segmentNamed_60 : decode c_Mo_segmentNamed 60 = .ok (.caload, 1) := by decide +kernel
theorem d_Mo_segmentNamed_61 : decode c_Mo_segmentNamed 61 = .ok (.aload_n 0, 1) := by decide +kernel
theorem d_Mo_segmentNamed_62 : decode c_Mo_segmentNamed 62 = .ok (.getfield 7, 3) := by decide +kernel
theorem d_Mo_segmentNamed_65 : decode c_Mo_segmentNamed 65 = .ok (.aload_n 0, 1) := by decide +kernel
theorem d_Mo_segmentNamed_66 : decode c_Mo_segmentNamed 66 = .ok (.getfield 84, 3) := by decide +kernel
theorem d_Mo_segmentNamed_69 : decode c_Mo_segmentNamed 69 = .ok (.iload_n 3, 1) := by decide +kernel
theorem d_Mo_segmentNamed_70 : decode c_Mo_segmentNamed 70 = .ok (.iadd, 1) := by decide +kernel
theorem d_Mo_segmentNamed_71 : decode c_Mo_segmentNamed 71 = .ok (.caload, 1) := by decide +kernel
theorem d_Mo_segmentNamed_72 : decode c_Mo_segmentNamed 72 = .ok (.if_icmp .ne 7, 3) := by decide +kernel
theorem d_Mo_segmentNamed_75 : decode c_Mo_segmentNamed 75 = .ok (.iconst 1, 1) := by decide +kernel
theorem d_Mo_segmentNamed_76 : decode c_Mo_segmentNamed 76 = .ok (.goto 4, 3) := by decide +kernel
theorem d_Mo_segmentNamed_79 : decode c_Mo_segmentNamed 79 = .ok (.iconst 0, 1) := by decide +kernel
theorem d_Mo_segmentNamed_80 : decode c_Mo_segmentNamed 80 = .ok (.istore_n 2, 1) := by decide +kernel
theorem d_Mo_segmentNamed_81 : decode c_Mo_segmentNamed 81 = .ok (.iinc 3 1, 3) := by decide +kernel
theorem d_Mo_segmentNamed_84 : decode c_Mo_segmentNamed 84 = .ok (.goto (-48), 3) := by decide +kernel
theorem d_Mo_segmentNamed_87 : decode c_Mo_segmentNamed 87 = .ok (.iload_n 2, 1) := by decide +kernel
theorem d_Mo_segmentNamed_88 : decode c_Mo_segmentNamed 88 = .ok (.ifCond .eq 5, 3) := by decide +kernel
theorem d_Mo_segmentNamed_91 : decode c_Mo_segmentNamed 91 = .ok (.iload_n 1, 1) := by decide +kernel
theorem d_Mo_segmentNamed_92 : decode c_Mo_segmentNamed 92 = .ok (.ireturn, 1) := by decide +kernel
theorem d_Mo_segmentNamed_93 : decode c_Mo_segmentNamed 93 = .ok (.iinc 1 1, 3) := by decide +kernel
theorem d_Mo_segmentNamed_96 : decode c_Mo_segmentNamed 96 = .ok (.goto (-94), 3) := by decide +kernel
theorem d_Mo_segmentNamed_99 : decode c_Mo_segmentNamed 99 = .ok (.iconst (-1), 1) := by decide +kernel
theorem d_Mo_segmentNamed_100 : decode c_Mo_segmentNamed 100 = .ok (.ireturn, 1) := by decide +kernel
theorem d_Mo_isBase_0 : decode c_Mo_isBase 0 = .ok (.iload_n 0, 1) := by decide +kernel
theorem d_Mo_isBase_1 : decode c_Mo_isBase 1 = .ok (.bipush 65, 2) := by decide +kernel
theorem d_Mo_isBase_3 : decode c_Mo_isBase 3 = .ok (.if_icmp .eq 21, 3) := by decide +kernel
theorem d_Mo_isBase_6 : decode c_Mo_isBase 6 = .ok (.iload_n 0, 1) := by decide +kernel
theorem d_Mo_isBase_7 : decode c_Mo_isBase 7 = .ok (.bipush 67, 2) := by decide +kernel
theorem d_Mo_isBase_9 : decode c_Mo_isBase 9 = .ok (.if_icmp .eq 15, 3) := by decide +kernel
theorem d_Mo_isBase_12 : decode c_Mo_isBase 12 = .ok (.iload_n 0, 1) := by decide +kernel
theorem d_Mo_isBase_13 : decode c_Mo_isBase 13 = .ok (.bipush 71, 2) := by decide +kernel
theorem d_Mo_isBase_15 : decode c_Mo_isBase 15 = .ok (.if_icmp .eq 9, 3) := by decide +kernel
theorem d_Mo_isBase_18 : decode c_Mo_isBase 18 = .ok (.iload_n 0, 1) := by decide +kernel
theorem d_Mo_isBase_19 : decode c_Mo_isBase 19 = .ok (.bipush 84, 2) := by decide +kernel
theorem d_Mo_isBase_21 : decode c_Mo_isBase 21 = .ok (.if_icmp .ne 7, 3) := by decide +kernel
theorem d_Mo_isBase_24 : decode c_Mo_isBase 24 = .ok (.iconst 1, 1) := by decide +kernel
theorem d_Mo_isBase_25 : decode c_Mo_isBase 25 = .ok (.goto 4, 3) := by decide +kernel
theorem d_Mo_isBase_28 : decode c_Mo_isBase 28 = .ok (.iconst 0, 1) := by decide +kernel
theorem d_Mo_isBase_29 : decode c_Mo_isBase 29 = .ok (.ireturn, 1) := by decide +kernel
theorem d_Mo_segmentLine_0 : decode c_Mo_segmentLine 0 = .ok (.bipush 9, 2) := by decide +kernel
theorem d_Mo_segmentLine_2 : decode c_Mo_segmentLine 2 = .ok (.istore_n 1, 1) := by decide +kernel
theorem d_Mo_segmentLine_3 : decode c_Mo_segmentLine 3 = .ok (.aload_n 0, 1) := by decide +kernel
theorem d_Mo_segmentLine_4 : decode c_Mo_segmentLine 4 = .ok (.bipush 83, 2) := by decide +kernel
theorem d_Mo_segmentLine_6 : decode c_Mo_segmentLine 6 = .ok (.invokevirtual 94, 3) := by decide +kernel
theorem d_Mo_segmentLine_9 : decode c_Mo_segmentLine 9 = .ok (.ifCond .eq 36, 3) := by decide +kernel
theorem d_Mo_segmentLine_12 : decode c_Mo_segmentLine 12 = .ok (.aload_n 0, 1) := by decide +kernel
theorem d_Mo_segmentLine_13 : decode c_Mo_segmentLine 13 = .ok (.iload_n 1, 1) := by decide +kernel
theorem d_Mo_segmentLine_14 : decode c_Mo_segmentLine 14 = .ok (.invokevirtual 94, 3) := by decide +kernel
theorem d_Mo_segmentLine_17 : decode c_Mo_segmentLine 17 = .ok (.ifCond .eq 28, 3) := by decide +kernel
theorem d_Mo_segmentLine_20 : decode c_Mo_segmentLine 20 = .ok (.aload_n 0, 1) := by decide +kernel
theorem d_Mo_segmentLine_21 : decode c_Mo_segmentLine 21 = .ok (.invokevirtual 97, 3) := by decide +kernel
theorem d_Mo_segmentLine_24 : decode c_Mo_segmentLine 24 = .ok (.ifCond .eq 21, 3) := by decide +kernel
theorem d_Mo_segmentLine_27 : decode c_Mo_segmentLine 27 = .ok (.aload_n 0, 1) := by decide +kernel
theorem d_Mo_segmentLine_28 : decode c_Mo_segmentLine 28 = .ok (.invokevirtual 101, 3) := by decide +kernel
theorem d_Mo_segmentLine_31 : decode c_Mo_segmentLine 31 = .ok (.ifCond .ge 14, 3) := by decide +kernel
theorem d_Mo_segmentLine_34 : decode c_Mo_segmentLine 34 = .ok (.aload_n 0, 1) := by decide +kernel
theorem d_Mo_segmentLine_35 : decode c_Mo_segmentLine 35 = .ok (.getfield 13, 3) := by decide +kernel
theorem d_Mo_segmentLine_38 : decode c_Mo_segmentLine 38 = .ok (.iconst 1, 1) := by decide +kernel
theorem d_Mo_segmentLine_39 : decode c_Mo_segmentLine 39 = .ok (.iaload, 1) := by decide +kernel
theorem d_Mo_segmentLine_40 : decode c_Mo_segmentLine 40 = .ok (.bipush 8, 2) := by decide +kernel
theorem d_Mo_segmentLine_42 : decode c_Mo_segmentLine 42 = .ok (.if_icmp .ne 5, 3) := by decide +kernel
theorem d_Mo_segmentLine_45 : decode c_Mo_segmentLine 45 = .ok (.iconst 0, 1) := by decide +kernel
theorem d_Mo_segmentLine_46 : decode c_Mo_segmentLine 46 = .ok (.ireturn, 1) := by decide +kernel
theorem d_Mo_segmentLine_47 : decode c_Mo_segmentLine 47 = .ok (.aload_n 0, 1) := by decide +kernel
theorem d_Mo_segmentLine_48 : decode c_Mo_segmentLine 48 = .ok (.getfield 13, 3) := by decide +kernel
theorem d_Mo_segmentLine_51 : decode c_Mo_segmentLine 51 = .ok (.iconst 1, 1) := by decide +kernel
theorem d_Mo_segmentLine_52 : decode c_Mo_segmentLine 52 = .ok (.iaload, 1) := by decide +kernel
theorem d_Mo_segmentLine_53 : decode c_Mo_segmentLine 53 = .ok (.istore_n 2, 1) := by decide +kernel
theorem d_Mo_segmentLine_54 : decode c_Mo_segmentLine 54 = .ok (.iconst 0, 1) := by decide +kernel
theorem d_Mo_segmentLine_55 : decode c_Mo_segmentLine 55 = .ok (.istore_n 3, 1) := by decide +kernel
theorem d_Mo_segmentLine_56 : decode c_Mo_segmentLine 56 = .ok (.iload_n 3, 1) := by decide +kernel
theorem d_Mo_segmentLine_57 : decode c_Mo_segmentLine 57 = .ok (.aload_n 0, 1) := by decide +kernel
theorem d_Mo_segmentLine_58 : decode c_Mo_segmentLine 58 = .ok (.getfield 91, 3) := by decide +kernel
theorem d_Mo_segmentLine_61 : decode c_Mo_segmentLine 61 = .ok (.if_icmp .ge 33, 3) := by decide +kernel
theorem d_Mo_segmentLine_64 : decode c_Mo_segmentLine 64 = .ok (.aload_n 0, 1) := by decide +kernel
theorem d_Mo_segmentLine_65 : decode c_Mo_segmentLine 65 = .ok (.getfield 17, 3) := by decide +kernel
theorem d_Mo_segmentLine_68 : decode c_Mo_segmentLine 68 = .ok (.bipush 24, 2) := by decide +kernel
theorem d_Mo_segmentLine_70 : decode c_Mo_segmentLine 70 = .ok (.iconst 3, 1) := by decide +kernel
theorem d_Mo_segmentLine_71 : decode c_Mo_segmentLine 71 = .ok (.iload_n 2, 1) := by decide +kernel
theorem d_Mo_segmentLine_72 : decode c_Mo_segmentLine 72 = .ok (.imul, 1) := by decide +kernel
theorem d_Mo_segmentLine_73 : decode c_Mo_segmentLine 73 = .ok (.iadd, 1) := by decide +kernel
theorem d_Mo_segmentLine_74 : decode c_Mo_segmentLine 74 = .ok (.iload_n 3, 1) := by decide +kernel
theorem d_Mo_segmentLine_75 : decode c_Mo_segmentLine 75 = .ok (.iadd, 1) := by decide +kernel
theorem d_Mo_segmentLine_76 : decode c_Mo_segmentLine 76 = .ok (.aload_n 0, 1) := by decide +kernel
theorem d_Mo_segmentLine_77 : decode c_Mo_segmentLine 77 = .ok (.getfield 7, 3) := by decide +kernel
theorem d_Mo_segmentLine_80 : decode c_Mo_segmentLine 80 = .ok (.aload_n 0, 1) := by decide +kernel
theorem d_Mo_segmentLine_81 : decode c_Mo_segmentLine 81 = .ok (.getfield 84, 3) := by decide +kernel
theorem d_Mo_segmentLine_84 : decode c_Mo_segmentLine 84 = .ok (.iload_n 3, 1) := by decide +kernel
theorem d_Mo_segmentLine_85 : decode c_Mo_segmentLine 85 = .ok (.iadd, 1) := by decide +kernel
theorem d_Mo_segmentLine_86 : decode c_Mo_segmentLine 86 = .ok (.caload, 1) := by decide +kernel
theorem d_Mo_segmentLine_87 : decode c_Mo_segmentLine 87 = .ok (.castore, 1) := by decide +kernel
theorem d_Mo_segmentLine_88 : decode c_Mo_segmentLine 88 = .ok (.iinc 3 1, 3) := by decide +kernel
theorem d_Mo_segmentLine_91 : decode c_Mo_segmentLine 91 = .ok (.goto (-35), 3) := by decide +kernel
theorem d_Mo_segmentLine_94 : decode c_Mo_segmentLine 94 = .ok (.aload_n 0, 1) := by decide +kernel
theorem d_Mo_segmentLine_95 : decode c_Mo_segmentLine 95 = .ok (.getfield 20, 3) := by decide +kernel
theorem d_Mo_segmentLine_98 : decode c_Mo_segmentLine 98 = .ok (.bipush 8, 2) := by decide +kernel
theorem d_Mo_segmentLine_100 : decode c_Mo_segmentLine 100 = .ok (.iload_n 2, 1) := by decide +kernel
theorem d_Mo_segmentLine_101 : decode c_Mo_segmentLine 101 = .ok (.iadd, 1) := by decide +kernel
theorem d_Mo_segmentLine_102 : decode c_Mo_segmentLine 102 = .ok (.aload_n 0, 1) := by decide +kernel
theorem d_Mo_segmentLine_103 : decode c_Mo_segmentLine 103 = .ok (.getfield 91, 3) := by decide +kernel
theorem d_Mo_segmentLine_106 : decode c_Mo_segmentLine 106 = .ok (.iastore, 1) := by decide +kernel
theorem d_Mo_segmentLine_107 : decode c_Mo_segmentLine 107 = .ok (.aload_n 0, 1) := by decide +kernel
theorem d_Mo_segmentLine_108 : decode c_Mo_segmentLine 108 = .ok (.iload_n 1, 1) := by decide +kernel
theorem d_Mo_segmentLine_109 : decode c_Mo_segmentLine 109 = .ok (.invokevirtual 94, 3) := by decide +kernel
theorem d_Mo_segmentLine_112 : decode c_Mo_segmentLine 112 = .ok (.ifCond .ne 5, 3) := by decide +kernel
theorem d_Mo_segmentLine_115 : decode c_Mo_segmentLine 115 = .ok (.iconst 0, 1) := by decide +kernel
theorem d_Mo_segmentLine_116 : decode c_Mo_segmentLine 116 = .ok (.ireturn, 1) := by decide +kernel
theorem d_Mo_segmentLine_117 : decode c_Mo_segmentLine 117 = .ok (.aload_n 0, 1) := by decide +kernel
theorem d_Mo_segmentLine_118 : decode c_Mo_segmentLine 118 = .ok (.getfield 81, 3) := by decide +kernel
theorem d_Mo_segmentLine_121 : decode c_Mo_segmentLine 121 = .ok (.aload_n 0, 1) := by decide +kernel
theorem d_Mo_segmentLine_122 : decode c_Mo_segmentLine 122 = .ok (.getfield 78, 3) := by decide +kernel
theorem d_Mo_segmentLine_125 : decode c_Mo_segmentLine 125 = .ok (.isub, 1) := by decide +kernel
theorem d_Mo_segmentLine_126 : decode c_Mo_segmentLine 126 = .ok (.istore_n 3, 1) := by decide +kernel
theorem d_Mo_segmentLine_127 : decode c_Mo_segmentLine 127 = .ok (.iload_n 3, 1) := by decide +kernel
theorem d_Mo_segmentLine_128 : decode c_Mo_segmentLine 128 = .ok (.iconst 1, 1) := by decide +kernel
theorem d_Mo_segmentLine_129 : decode c_Mo_segmentLine 129 = .ok (.if_icmp .lt 8, 3) := by decide +kernel
theorem d_Mo_segmentLine_132 : decode c_Mo_segmentLine 132 = .ok (.iload_n 3, 1) := by decide +kernel
theorem d_Mo_segmentLine_133 : decode c_Mo_segmentLine 133 = .ok (.iconst 4, 1) := by decide +kernel
theorem d_Mo_segmentLine_134 : decode c_Mo_segmentLine 134 = .ok (.if_icmp .le 5, 3) := by decide +kernel
theorem d_Mo_segmentLine_137 : decode c_Mo_segmentLine 137 = .ok (.iconst 0, 1) := by decide +kernel
theorem d_Mo_segmentLine_138 : decode c_Mo_segmentLine 138 = .ok (.ireturn, 1) := by decide +kernel
theorem d_Mo_segmentLine_139 : decode c_Mo_segmentLine 139 = .ok (.iconst 0, 1) := by decide +kernel
theorem d_Mo_segmentLine_140 : decode c_Mo_segmentLine 140 = .ok (.istore 4, 2) := by decide +kernel
theorem d_Mo_segmentLine_142 : decode c_Mo_segmentLine 142 = .ok (.iload 4, 2) := by decide +kernel
theorem d_Mo_segmentLine_144 : decode c_Mo_segmentLine 144 = .ok (.iload_n 3, 1) := by decide +kernel
theorem d_Mo_segmentLine_145 : decode c_Mo_segmentLine 145 = .ok (.if_icmp .ge 55, 3) := by decide +kernel
theorem d_Mo_segmentLine_148 : decode c_Mo_segmentLine 148 = .ok (.aload_n 0, 1) := by decide +kernel
theorem d_Mo_segmentLine_149 : decode c_Mo_segmentLine 149 = .ok (.getfield 7, 3) := by decide +kernel
theorem d_Mo_segmentLine_152 : decode c_Mo_segmentLine 152 = .ok (.aload_n 0, 1) := by decide +kernel
theorem d_Mo_segmentLine_153 : decode c_Mo_segmentLine 153 = .ok (.getfield 78, 3) := by decide +kernel
theorem d_Mo_segmentLine_156 : decode c_Mo_segmentLine 156 = .ok (.iload 4, 2) := by decide +kernel
theorem d_Mo_segmentLine_158 : decode c_Mo_segmentLine 158 = .ok (.iadd, 1) := by decide +kernel
theorem d_Mo_segmentLine_159 : decode c_Mo_segmentLine 159 = .ok (.caload, 1) := by decide +kernel
theorem d_Mo_segmentLine_160 : decode c_Mo_segmentLine 160 = .ok (.invokestatic 105, 3) := by decide +kernel
theorem d_Mo_segmentLine_163 : decode c_Mo_segmentLine 163 = .ok (.ifCond .ne 5, 3) := by decide +kernel
theorem d_Mo_segmentLine_166 : decode c_Mo_segmentLine 166 = .ok (.iconst 0, 1) := by decide +kernel
theorem d_Mo_segmentLine_167 : decode c_Mo_segmentLine 167 = .ok (.ireturn, 1) := by decide +kernel
theorem d_Mo_segmentLine_168 : decode c_Mo_segmentLine 168 = .ok (.aload_n 0, 1) := by decide +kernel
theorem d_Mo_segmentLine_169 : decode c_Mo_segmentLine 169 = .ok (.getfield 23, 3) := by decide +kernel
theorem d_Mo_segmentLine_172 : decode c_Mo_segmentLine 172 = .ok (.bipush 32, 2) := by decide +kernel
theorem d_Mo_segmentLine_174 : decode c_Mo_segmentLine 174 = .ok (.iconst 4, 1) := by decide +kernel
theorem d_Mo_segmentLine_175 : decode c_Mo_segmentLine 175 = .ok (.iload_n 2, 1) := by decide +kernel
theorem d_Mo_segmentLine_176 : decode c_Mo_segmentLine 176 = .ok (.imul, 1) := by decide +kernel
theorem d_Mo_segmentLine_177 : decode c_Mo_segmentLine 177 = .ok (.iadd, 1) := by decide +kernel
theorem d_Mo_segmentLine_178 : decode c_Mo_segmentLine 178 = .ok (.iload 4, 2) := by decide +kernel
theorem d_Mo_segmentLine_180 : decode c_Mo_segmentLine 180 = .ok (.iadd, 1) := by decide +kernel
theorem d_Mo_segmentLine_181 : decode c_Mo_segmentLine 181 = .ok (.aload_n 0, 1) := by decide +kernel
theorem d_Mo_segmentLine_182 : decode c_Mo_segmentLine 182 = .ok (.getfield 7, 3) := by decide +kernel
theorem d_Mo_segmentLine_185 : decode c_Mo_segmentLine 185 = .ok (.aload_n 0, 1) := by decide +kernel
theorem d_Mo_segmentLine_186 : decode c_Mo_segmentLine 186 = .ok (.getfield 78, 3) := by decide +kernel
theorem d_Mo_segmentLine_189 : decode c_Mo_segmentLine 189 = .ok (.iload 4, 2) := by decide +kernel
theorem d_Mo_segmentLine_191 : decode c_Mo_segmentLine 191 = .ok (.iadd, 1) := by decide +kernel
theorem d_Mo_segmentLine_192 : decode c_Mo_segmentLine 192 = .ok (.caload, 1) := by decide +kernel
theorem d_Mo_segmentLine_193 : decode c_Mo_segmentLine 193 = .ok (.castore, 1) := by decide +kernel
theorem d_Mo_segmentLine_194 : decode c_Mo_segmentLine 194 = .ok (.iinc 4 1, 3) := by decide +kernel
theorem d_Mo_segmentLine_197 : decode c_Mo_segmentLine 197 = .ok (.goto (-55), 3) := by decide +kernel
theorem d_Mo_segmentLine_200 : decode c_Mo_segmentLine 200 = .ok (.aload_n 0, 1) := by decide +kernel
theorem d_Mo_segmentLine_201 : decode c_Mo_segmentLine 201 = .ok (.getfield 26, 3) := by decide +kernel
theorem d_Mo_segmentLine_204 : decode c_Mo_segmentLine 204 = .ok (.bipush 8, 2) := by decide +kernel
theorem d_Mo_segmentLine_206 : decode c_Mo_segmentLine 206 = .ok (.iload_n 2, 1) := by decide +kernel
theorem d_Mo_segmentLine_207 : decode c_Mo_segmentLine 207 = .ok (.iadd, 1) := by decide +kernel
theorem d_Mo_segmentLine_208 : decode c_Mo_segmentLine 208 = .ok (.iload_n 3, 1) := by decide +kernel
theorem d_Mo_segmentLine_209 : decode c_Mo_segmentLine 209 = .ok (.iastore, 1) := by decide +kernel
theorem d_Mo_segmentLine_210 : decode c_Mo_segmentLine 210 = .ok (.aload_n 0, 1) := by decide +kernel
theorem d_Mo_segmentLine_211 : decode c_Mo_segmentLine 211 = .ok (.getfield 13, 3) := by decide +kernel
theorem d_Mo_segmentLine_214 : decode c_Mo_segmentLine 214 = .ok (.iconst 1, 1) := by decide +kernel
theorem d_Mo_segmentLine_215 : decode c_Mo_segmentLine 215 = .ok (.dup2, 1) := by decide +kernel
theorem d_Mo_segmentLine_216 : decode c_Mo_segmentLine 216 = .ok (.iaload, 1) := by decide +kernel
theorem d_Mo_segmentLine_217 : decode c_Mo_segmentLine 217 = .ok (.iconst 1, 1) := by decide +kernel
theorem d_Mo_segmentLine_218 : decode c_Mo_segmentLine 218 = .ok (.iadd, 1) := by decide +kernel
theorem d_Mo_segmentLine_219 : decode c_Mo_segmentLine 219 = .ok (.iastore, 1) := by decide +kernel
theorem d_Mo_segmentLine_220 : decode c_Mo_segmentLine 220 = .ok (.iconst 1, 1) := by decide +kernel
theorem d_Mo_segmentLine_221 : decode c_Mo_segmentLine 221 = .ok (.ireturn, 1) := by decide +kernel
theorem d_Mo_sign_0 : decode c_Mo_sign 0 = .ok (.aload_n 0, 1) := by decide +kernel
theorem d_Mo_sign_1 : decode c_Mo_sign 1 = .ok (.bipush 43, 2) := by decide +kernel
theorem d_Mo_sign_3 : decode c_Mo_sign 3 = .ok (.invokevirtual 94, 3) := by decide +kernel
theorem d_Mo_sign_6 : decode c_Mo_sign 6 = .ok (.ifCond .eq 7, 3) := by decide +kernel
theorem d_Mo_sign_9 : decode c_Mo_sign 9 = .ok (.iconst 0, 1) := by decide +kernel
theorem d_Mo_sign_10 : decode c_Mo_sign 10 = .ok (.goto 17, 3) := by decide +kernel
theorem d_Mo_sign_13 : decode c_Mo_sign 13 = .ok (.aload_n 0, 1) := by decide +kernel
theorem d_Mo_sign_14 : decode c_Mo_sign 14 = .ok (.bipush 45, 2) := by decide +kernel
theorem d_Mo_sign_16 : decode c_Mo_sign 16 = .ok (.invokevirtual 94, 3) := by decide +kernel
theorem d_Mo_sign_19 : decode c_Mo_sign 19 = .ok (.ifCond .eq 7, 3) := by decide +kernel
theorem d_Mo_sign_22 : decode c_Mo_sign 22 = .ok (.iconst 1, 1) := by decide +kernel
theorem d_Mo_sign_23 : decode c_Mo_sign 23 = .ok (.goto 4, 3) := by decide +kernel
theorem d_Mo_sign_26 : decode c_Mo_sign 26 = .ok (.iconst (-1), 1) := by decide +kernel
theorem d_Mo_sign_27 : decode c_Mo_sign 27 = .ok (.ireturn, 1) := by decide +kernel
theorem d_Mo_namedSide_0 : decode c_Mo_namedSide 0 = .ok (.aload_n 0, 1) := by decide +kernel
theorem d_Mo_namedSide_1 : decode c_Mo_namedSide 1 = .ok (.invokevirtual 97, 3) := by decide +kernel
theorem d_Mo_namedSide_4 : decode c_Mo_namedSide 4 = .ok (.istore_n 2, 1) := by decide +kernel
theorem d_Mo_namedSide_5 : decode c_Mo_namedSide 5 = .ok (.iload_n 2, 1) := by decide +kernel
theorem d_Mo_namedSide_6 : decode c_Mo_namedSide 6 = .ok (.ifCond .eq 10, 3) := by decide +kernel
theorem d_Mo_namedSide_9 : decode c_Mo_namedSide 9 = .ok (.aload_n 0, 1) := by decide +kernel
theorem d_Mo_namedSide_10 : decode c_Mo_namedSide 10 = .ok (.invokevirtual 101, 3) := by decide +kernel
theorem d_Mo_namedSide_13 : decode c_Mo_namedSide 13 = .ok (.goto 4, 3) := by decide +kernel
theorem d_Mo_namedSide_16 : decode c_Mo_namedSide 16 = .ok (.iconst (-1), 1) := by decide +kernel
theorem d_Mo_namedSide_17 : decode c_Mo_namedSide 17 = .ok (.istore_n 3, 1) := by decide +kernel
theorem d_Mo_namedSide_18 : decode c_Mo_namedSide 18 = .ok (.iload_n 1, 1) := by decide +kernel
theorem d_Mo_namedSide_19 : decode c_Mo_namedSide 19 = .ok (.ifCond .eq 12, 3) := by decide +kernel
theorem d_Mo_namedSide_22 : decode c_Mo_namedSide 22 = .ok (.aload_n 0, 1) := by decide +kernel
theorem d_Mo_namedSide_23 : decode c_Mo_namedSide 23 = .ok (.bipush 9, 2) := by decide +kernel
theorem d_Mo_namedSide_25 : decode c_Mo_namedSide 25 = .ok (.invokevirtual 94, 3) := by decide +kernel
theorem d_Mo_namedSide_28 : decode c_Mo_namedSide 28 = .ok (.ifCond .eq 7, 3) := by decide +kernel
theorem d_Mo_namedSide_31 : decode c_Mo_namedSide 31 = .ok (.iconst 1, 1) := by decide +kernel
theorem d_Mo_namedSide_32 : decode c_Mo_namedSide 32 = .ok (.goto 4, 3) := by decide +kernel
theorem d_Mo_namedSide_35 : decode c_Mo_namedSide 35 = .ok (.iconst 0, 1) := by decide +kernel
theorem d_Mo_namedSide_36 : decode c_Mo_namedSide 36 = .ok (.istore 4, 2) := by decide +kernel
theorem d_Mo_namedSide_38 : decode c_Mo_namedSide 38 = .ok (.aload_n 0, 1) := by decide +kernel
theorem d_Mo_namedSide_39 : decode c_Mo_namedSide 39 = .ok (.invokevirtual 108, 3) := by decide +kernel
theorem d_Mo_namedSide_42 : decode c_Mo_namedSide 42 = .ok (.istore 5, 2) := by decide +kernel
theorem d_Mo_namedSide_44 : decode c_Mo_namedSide 44 = .ok (.iload_n 3, 1) := by decide +kernel
theorem d_Mo_namedSide_45 : decode c_Mo_namedSide 45 = .ok (.ifCond .lt 13, 3) := by decide +kernel
theorem d_Mo_namedSide_48 : decode c_Mo_namedSide 48 = .ok (.iload 4, 2) := by decide +kernel
theorem d_Mo_namedSide_50 : decode c_Mo_namedSide 50 = .ok (.ifCond .eq 8, 3) := by decide +kernel
theorem d_Mo_namedSide_53 : decode c_Mo_namedSide 53 = .ok (.iload 5, 2) := by decide +kernel
theorem d_Mo_namedSide_55 : decode c_Mo_namedSide 55 = .ok (.ifCond .ge 7, 3) := by decide +kernel
theorem d_Mo_namedSide_58 : decode c_Mo_namedSide 58 = .ok (.iconst (-1), 1) := by decide +kernel
theorem d_Mo_namedSide_59 : decode c_Mo_namedSide 59 = .ok (.goto 9, 3) := by decide +kernel
theorem d_Mo_namedSide_62 : decode c_Mo_namedSide 62 = .ok (.iconst 2, 1) := by decide +kernel
theorem d_Mo_namedSide_63 : decode c_Mo_namedSide 63 = .ok (.iload_n 3, 1) := by decide +kernel
theorem d_Mo_namedSide_64 : decode c_Mo_namedSide 64 = .ok (.imul, 1) := by decide +kernel
theorem d_Mo_namedSide_65 : decode c_Mo_namedSide 65 = .ok (.iload 5, 2) := by decide +kernel
theorem d_Mo_namedSide_67 : decode c_Mo_namedSide 67 = .ok (.iadd, 1) := by decide +kernel
theorem d_Mo_namedSide_68 : decode c_Mo_namedSide 68 = .ok (.ireturn, 1) := by decide +kernel
theorem d_Mo_linked_0 : decode c_Mo_linked 0 = .ok (.iconst 0, 1) := by decide +kernel
theorem d_Mo_linked_1 : decode c_Mo_linked 1 = .ok (.istore 4, 2) := by decide +kernel
theorem d_Mo_linked_3 : decode c_Mo_linked 3 = .ok (.bipush 12, 2) := by decide +kernel
theorem d_Mo_linked_5 : decode c_Mo_linked 5 = .ok (.iload_n 1, 1) := by decide +kernel
theorem d_Mo_linked_6 : decode c_Mo_linked 6 = .ok (.imul, 1) := by decide +kernel
theorem d_Mo_linked_7 : decode c_Mo_linked 7 = .ok (.istore 5, 2) := by decide +kernel
theorem d_Mo_linked_9 : decode c_Mo_linked 9 = .ok (.iload 5, 2) := by decide +kernel
theorem d_Mo_linked_11 : decode c_Mo_linked 11 = .ok (.bipush 12, 2) := by decide +kernel
theorem d_Mo_linked_13 : decode c_Mo_linked 13 = .ok (.iload_n 1, 1) := by decide +kernel
theorem d_Mo_linked_14 : decode c_Mo_linked 14 = .ok (.imul, 1) := by decide +kernel
theorem d_Mo_linked_15 : decode c_Mo_linked 15 = .ok (.aload_n 0, 1) := by decide +kernel
theorem d_Mo_linked_16 : decode c_Mo_linked 16 = .ok (.getfield 29, 3) := by decide +kernel
theorem d_Mo_linked_19 : decode c_Mo_linked 19 = .ok (.iload_n 1, 1) := by decide +kernel
theorem d_Mo_linked_20 : decode c_Mo_linked 20 = .ok (.iaload, 1) := by decide +kernel
theorem d_Mo_linked_21 : decode c_Mo_linked 21 = .ok (.iadd, 1) := by decide +kernel
theorem d_Mo_linked_22 : decode c_Mo_linked 22 = .ok (.if_icmp .ge 69, 3) := by decide +kernel
theorem d_Mo_linked_25 : decode c_Mo_linked 25 = .ok (.iload 4, 2) := by decide +kernel
theorem d_Mo_linked_27 : decode c_Mo_linked 27 = .ok (.ifCond .ne 51, 3) := by decide +kernel
theorem d_Mo_linked_30 : decode c_Mo_linked 30 = .ok (.aload_n 0, 1) := by decide +kernel
theorem d_Mo_linked_31 : decode c_Mo_linked 31 = .ok (.getfield 32, 3) := by decide +kernel
theorem d_Mo_linked_34 : decode c_Mo_linked 34 = .ok (.iload 5, 2) := by decide +kernel
theorem d_Mo_linked_36 : decode c_Mo_linked 36 = .ok (.iaload, 1) := by decide +kernel
theorem d_Mo_linked_37 : decode c_Mo_linked 37 = .ok (.iload_n 2, 1) := by decide +kernel
theorem d_Mo_linked_38 : decode c_Mo_linked 38 = .ok (.if_icmp .ne 14, 3) := by decide +kernel
theorem d_Mo_linked_41 : decode c_Mo_linked 41 = .ok (.aload_n 0, 1) := by decide +kernel
theorem d_Mo_linked_42 : decode c_Mo_linked 42 = .ok (.getfield 35, 3) := by decide +kernel
theorem d_Mo_linked_45 : decode c_Mo_linked 45 = .ok (.iload 5, 2) := by decide +kernel
theorem d_Mo_linked_47 : decode c_Mo_linked 47 = .ok (.iaload, 1) := by decide +kernel
theorem d_Mo_linked_48 : decode c_Mo_linked 48 = .ok (.iload_n 3, 1) := by decide +kernel
theorem d_Mo_linked_49 : decode c_Mo_linked 49 = .ok (.if_icmp .eq 29, 3) := by decide +kernel
theorem d_Mo_linked_52 : decode c_Mo_linked 52 = .ok (.aload_n 0, 1) := by decide +kernel
theorem d_Mo_linked_53 : decode c_Mo_linked 53 = .ok (.getfield 35, 3) := by decide +kernel
theorem d_Mo_linked_56 : decode c_Mo_linked 56 = .ok (.iload 5, 2) := by decide +kernel
theorem d_Mo_linked_58 : decode c_Mo_linked 58 = .ok (.iaload, 1) := by decide +kernel
theorem d_Mo_linked_59 : decode c_Mo_linked 59 = .ok (.iload_n 2, 1) := by decide +kernel
theorem d_Mo_linked_60 : decode c_Mo_linked 60 = .ok (.iconst 1, 1) := by decide +kernel
theorem d_Mo_linked_61 : decode c_Mo_linked 61 = .ok (.ixor, 1) := by decide +kernel
theorem d_Mo_linked_62 : decode c_Mo_linked 62 = .ok (.if_icmp .ne 20, 3) := by decide +kernel
theorem d_Mo_linked_65 : decode c_Mo_linked 65 = .ok (.aload_n 0, 1) := by decide +kernel
theorem d_Mo_linked_66 : decode c_Mo_linked 66 = .ok (.getfield 32, 3) := by decide +kernel
theorem d_Mo_linked_69 : decode c_Mo_linked 69 = .ok (.iload 5, 2) := by decide +kernel
theorem d_Mo_linked_71 : decode c_Mo_linked 71 = .ok (.iaload, 1) := by decide +kernel
theorem d_Mo_linked_72 : decode c_Mo_linked 72 = .ok (.iload_n 3, 1) := by decide +kernel
theorem d_Mo_linked_73 : decode c_Mo_linked 73 = .ok (.iconst 1, 1) := by decide +kernel
theorem d_Mo_linked_74 : decode c_Mo_linked 74 = .ok (.ixor, 1) := by decide +kernel
theorem d_Mo_linked_75 : decode c_Mo_linked 75 = .ok (.if_icmp .ne 7, 3) := by decide +kernel
theorem d_Mo_linked_78 : decode c_Mo_linked 78 = .ok (.iconst 1, 1) := by decide +kernel
theorem d_Mo_linked_79 : decode c_Mo_linked 79 = .ok (.goto 4, 3) := by decide +kernel
theorem d_Mo_linked_82 : decode c_Mo_linked 82 = .ok (.iconst 0, 1) := by decide +kernel
