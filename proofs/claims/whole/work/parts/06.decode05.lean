theorem d_Mo_baseOf_78 : decode c_Mo_baseOf 78 = .ok (.bipush 65, 2) := by decide +kernel
theorem d_Mo_baseOf_80 : decode c_Mo_baseOf 80 = .ok (.goto 16, 3) := by decide +kernel
theorem d_Mo_baseOf_83 : decode c_Mo_baseOf 83 = .ok (.iload_n 3, 1) := by decide +kernel
theorem d_Mo_baseOf_84 : decode c_Mo_baseOf 84 = .ok (.bipush 67, 2) := by decide +kernel
theorem d_Mo_baseOf_86 : decode c_Mo_baseOf 86 = .ok (.if_icmp .ne 8, 3) := by decide +kernel
theorem d_Mo_baseOf_89 : decode c_Mo_baseOf 89 = .ok (.bipush 71, 2) := by decide +kernel
theorem d_Mo_baseOf_91 : decode c_Mo_baseOf 91 = .ok (.goto 5, 3) := by decide +kernel
theorem d_Mo_baseOf_94 : decode c_Mo_baseOf 94 = .ok (.bipush 67, 2) := by decide +kernel
theorem d_Mo_baseOf_96 : decode c_Mo_baseOf 96 = .ok (.ireturn, 1) := by decide +kernel
theorem d_Mo_base_0 : decode c_Mo_base 0 = .ok (.aload_n 0, 1) := by decide +kernel
theorem d_Mo_base_1 : decode c_Mo_base 1 = .ok (.iload_n 1, 1) := by decide +kernel
theorem d_Mo_base_2 : decode c_Mo_base 2 = .ok (.invokevirtual 144, 3) := by decide +kernel
theorem d_Mo_base_5 : decode c_Mo_base 5 = .ok (.ifCond .eq 11, 3) := by decide +kernel
theorem d_Mo_base_8 : decode c_Mo_base 8 = .ok (.aload_n 0, 1) := by decide +kernel
theorem d_Mo_base_9 : decode c_Mo_base 9 = .ok (.iload_n 1, 1) := by decide +kernel
theorem d_Mo_base_10 : decode c_Mo_base 10 = .ok (.invokevirtual 148, 3) := by decide +kernel
theorem d_Mo_base_13 : decode c_Mo_base 13 = .ok (.goto 4, 3) := by decide +kernel
theorem d_Mo_base_16 : decode c_Mo_base 16 = .ok (.iconst (-1), 1) := by decide +kernel
theorem d_Mo_base_17 : decode c_Mo_base 17 = .ok (.ireturn, 1) := by decide +kernel
theorem d_Mo_isLast_0 : decode c_Mo_isLast 0 = .ok (.aload_n 0, 1) := by decide +kernel
theorem d_Mo_isLast_1 : decode c_Mo_isLast 1 = .ok (.getfield 56, 3) := by decide +kernel
theorem d_Mo_isLast_4 : decode c_Mo_isLast 4 = .ok (.iload_n 1, 1) := by decide +kernel
theorem d_Mo_isLast_5 : decode c_Mo_isLast 5 = .ok (.iaload, 1) := by decide +kernel
theorem d_Mo_isLast_6 : decode c_Mo_isLast 6 = .ok (.aload_n 0, 1) := by decide +kernel
theorem d_Mo_isLast_7 : decode c_Mo_isLast 7 = .ok (.getfield 26, 3) := by decide +kernel
theorem d_Mo_isLast_10 : decode c_Mo_isLast 10 = .ok (.aload_n 0, 1) := by decide +kernel
theorem d_Mo_isLast_11 : decode c_Mo_isLast 11 = .ok (.getfield 53, 3) := by decide +kernel
theorem d_Mo_isLast_14 : decode c_Mo_isLast 14 = .ok (.iload_n 1, 1) := by decide +kernel
theorem d_Mo_isLast_15 : decode c_Mo_isLast 15 = .ok (.iaload, 1) := by decide +kernel
theorem d_Mo_isLast_16 : decode c_Mo_isLast 16 = .ok (.iconst 2, 1) := by decide +kernel
theorem d_Mo_isLast_17 : decode c_Mo_isLast 17 = .ok (.idiv, 1) := by decide +kernel
theorem d_Mo_isLast_18 : decode c_Mo_isLast 18 = .ok (.iaload, 1) := by decide +kernel
theorem d_Mo_isLast_19 : decode c_Mo_isLast 19 = .ok (.iconst 1, 1) := by decide +kernel
theorem d_Mo_isLast_20 : decode c_Mo_isLast 20 = .ok (.isub, 1) := by decide +kernel
theorem d_Mo_isLast_21 : decode c_Mo_isLast 21 = .ok (.if_icmp .ne 7, 3) := by decide +kernel
theorem d_Mo_isLast_24 : decode c_Mo_isLast 24 = .ok (.iconst 1, 1) := by decide +kernel
theorem d_Mo_isLast_25 : decode c_Mo_isLast 25 = .ok (.goto 4, 3) := by decide +kernel
theorem d_Mo_isLast_28 : decode c_Mo_isLast 28 = .ok (.iconst 0, 1) := by decide +kernel
theorem d_Mo_isLast_29 : decode c_Mo_isLast 29 = .ok (.ireturn, 1) := by decide +kernel
theorem d_Mo_after_0 : decode c_Mo_after 0 = .ok (.aload_n 0, 1) := by decide +kernel
theorem d_Mo_after_1 : decode c_Mo_after 1 = .ok (.iload_n 1, 1) := by decide +kernel
theorem d_Mo_after_2 : decode c_Mo_after 2 = .ok (.invokevirtual 152, 3) := by decide +kernel
theorem d_Mo_after_5 : decode c_Mo_after 5 = .ok (.ifCond .ne 16, 3) := by decide +kernel
theorem d_Mo_after_8 : decode c_Mo_after 8 = .ok (.iload_n 2, 1) := by decide +kernel
theorem d_Mo_after_9 : decode c_Mo_after 9 = .ok (.iload_n 1, 1) := by decide +kernel
theorem d_Mo_after_10 : decode c_Mo_after 10 = .ok (.iconst 1, 1) := by decide +kernel
theorem d_Mo_after_11 : decode c_Mo_after 11 = .ok (.iadd, 1) := by decide +kernel
theorem d_Mo_after_12 : decode c_Mo_after 12 = .ok (.if_icmp .ne 7, 3) := by decide +kernel
theorem d_Mo_after_15 : decode c_Mo_after 15 = .ok (.iconst 1, 1) := by decide +kernel
theorem d_Mo_after_16 : decode c_Mo_after 16 = .ok (.goto 4, 3) := by decide +kernel
theorem d_Mo_after_19 : decode c_Mo_after 19 = .ok (.iconst 0, 1) := by decide +kernel
theorem d_Mo_after_20 : decode c_Mo_after 20 = .ok (.ireturn, 1) := by decide +kernel
theorem d_Mo_after_21 : decode c_Mo_after 21 = .ok (.aload_n 0, 1) := by decide +kernel
theorem d_Mo_after_22 : decode c_Mo_after 22 = .ok (.getfield 56, 3) := by decide +kernel
theorem d_Mo_after_25 : decode c_Mo_after 25 = .ok (.iload_n 2, 1) := by decide +kernel
theorem d_Mo_after_26 : decode c_Mo_after 26 = .ok (.iaload, 1) := by decide +kernel
theorem d_Mo_after_27 : decode c_Mo_after 27 = .ok (.ifCond .ne 27, 3) := by decide +kernel
theorem d_Mo_after_30 : decode c_Mo_after 30 = .ok (.aload_n 0, 1) := by decide +kernel
theorem d_Mo_after_31 : decode c_Mo_after 31 = .ok (.iconst 0, 1) := by decide +kernel
theorem d_Mo_after_32 : decode c_Mo_after 32 = .ok (.aload_n 0, 1) := by decide +kernel
theorem d_Mo_after_33 : decode c_Mo_after 33 = .ok (.getfield 53, 3) := by decide +kernel
theorem d_Mo_after_36 : decode c_Mo_after 36 = .ok (.iload_n 1, 1) := by decide +kernel
theorem d_Mo_after_37 : decode c_Mo_after 37 = .ok (.iaload, 1) := by decide +kernel
theorem d_Mo_after_38 : decode c_Mo_after 38 = .ok (.aload_n 0, 1) := by decide +kernel
theorem d_Mo_after_39 : decode c_Mo_after 39 = .ok (.getfield 53, 3) := by decide +kernel
theorem d_Mo_after_42 : decode c_Mo_after 42 = .ok (.iload_n 2, 1) := by decide +kernel
theorem d_Mo_after_43 : decode c_Mo_after 43 = .ok (.iaload, 1) := by decide +kernel
theorem d_Mo_after_44 : decode c_Mo_after 44 = .ok (.invokevirtual 115, 3) := by decide +kernel
theorem d_Mo_after_47 : decode c_Mo_after 47 = .ok (.ifCond .eq 7, 3) := by decide +kernel
theorem d_Mo_after_50 : decode c_Mo_after 50 = .ok (.iconst 1, 1) := by decide +kernel
theorem d_Mo_after_51 : decode c_Mo_after 51 = .ok (.goto 4, 3) := by decide +kernel
theorem d_Mo_after_54 : decode c_Mo_after 54 = .ok (.iconst 0, 1) := by decide +kernel
theorem d_Mo_after_55 : decode c_Mo_after 55 = .ok (.ireturn, 1) := by decide +kernel
theorem d_Mo_follows_0 : decode c_Mo_follows 0 = .ok (.aload_n 0, 1) := by decide +kernel
theorem d_Mo_follows_1 : decode c_Mo_follows 1 = .ok (.iload_n 1, 1) := by decide +kernel
theorem d_Mo_follows_2 : decode c_Mo_follows 2 = .ok (.invokevirtual 144, 3) := by decide +kernel
theorem d_Mo_follows_5 : decode c_Mo_follows 5 = .ok (.ifCond .eq 24, 3) := by decide +kernel
theorem d_Mo_follows_8 : decode c_Mo_follows 8 = .ok (.aload_n 0, 1) := by decide +kernel
theorem d_Mo_follows_9 : decode c_Mo_follows 9 = .ok (.iload_n 2, 1) := by decide +kernel
theorem d_Mo_follows_10 : decode c_Mo_follows 10 = .ok (.invokevirtual 144, 3) := by decide +kernel
theorem d_Mo_follows_13 : decode c_Mo_follows 13 = .ok (.ifCond .eq 16, 3) := by decide +kernel
theorem d_Mo_follows_16 : decode c_Mo_follows 16 = .ok (.aload_n 0, 1) := by decide +kernel
theorem d_Mo_follows_17 : decode c_Mo_follows 17 = .ok (.iload_n 1, 1) := by decide +kernel
theorem d_Mo_follows_18 : decode c_Mo_follows 18 = .ok (.iload_n 2, 1) := by decide +kernel
theorem d_Mo_follows_19 : decode c_Mo_follows 19 = .ok (.invokevirtual 155, 3) := by decide +kernel
theorem d_Mo_follows_22 : decode c_Mo_follows 22 = .ok (.ifCond .eq 7, 3) := by decide +kernel
theorem d_Mo_follows_25 : decode c_Mo_follows 25 = .ok (.iconst 1, 1) := by decide +kernel
theorem d_Mo_follows_26 : decode c_Mo_follows 26 = .ok (.goto 4, 3) := by decide +kernel
theorem d_Mo_follows_29 : decode c_Mo_follows 29 = .ok (.iconst 0, 1) := by decide +kernel
theorem d_Mo_follows_30 : decode c_Mo_follows 30 = .ok (.ireturn, 1) := by decide +kernel
theorem d_Mo_read_0 : decode c_Mo_read 0 = .ok (.iload_n 1, 1) := by decide +kernel
theorem d_Mo_read_1 : decode c_Mo_read 1 = .ok (.invokestatic 105, 3) := by decide +kernel
theorem d_Mo_read_4 : decode c_Mo_read 4 = .ok (.ifCond .eq 12, 3) := by decide +kernel
theorem d_Mo_read_7 : decode c_Mo_read 7 = .ok (.aload_n 0, 1) := by decide +kernel
theorem d_Mo_read_8 : decode c_Mo_read 8 = .ok (.getfield 159, 3) := by decide +kernel
theorem d_Mo_read_11 : decode c_Mo_read 11 = .ok (.bipush 12, 2) := by decide +kernel
theorem d_Mo_read_13 : decode c_Mo_read 13 = .ok (.if_icmp .ne 5, 3) := by decide +kernel
theorem d_Mo_read_16 : decode c_Mo_read 16 = .ok (.iconst 0, 1) := by decide +kernel
theorem d_Mo_read_17 : decode c_Mo_read 17 = .ok (.ireturn, 1) := by decide +kernel
theorem d_Mo_read_18 : decode c_Mo_read 18 = .ok (.aload_n 0, 1) := by decide +kernel
theorem d_Mo_read_19 : decode c_Mo_read 19 = .ok (.getfield 59, 3) := by decide +kernel
theorem d_Mo_read_22 : decode c_Mo_read 22 = .ok (.aload_n 0, 1) := by decide +kernel
theorem d_Mo_read_23 : decode c_Mo_read 23 = .ok (.getfield 159, 3) := by decide +kernel
theorem d_Mo_read_26 : decode c_Mo_read 26 = .ok (.iload_n 1, 1) := by decide +kernel
theorem d_Mo_read_27 : decode c_Mo_read 27 = .ok (.castore, 1) := by decide +kernel
theorem d_Mo_read_28 : decode c_Mo_read 28 = .ok (.aload_n 0, 1) := by decide +kernel
theorem d_Mo_read_29 : decode c_Mo_read 29 = .ok (.dup, 1) := by decide +kernel
theorem d_Mo_read_30 : decode c_Mo_read 30 = .ok (.getfield 159, 3) := by decide +kernel
theorem d_Mo_read_33 : decode c_Mo_read 33 = .ok (.iconst 1, 1) := by decide +kernel
theorem d_Mo_read_34 : decode c_Mo_read 34 = .ok (.iadd, 1) := by decide +kernel
theorem d_Mo_read_35 : decode c_Mo_read 35 = .ok (.putfield 159, 3) := by decide +kernel
theorem d_Mo_read_38 : decode c_Mo_read 38 = .ok (.iconst 1, 1) := by decide +kernel
theorem d_Mo_read_39 : decode c_Mo_read 39 = .ok (.ireturn, 1) := by decide +kernel
theorem d_Mo_drop_0 : decode c_Mo_drop 0 = .ok (.aload_n 0, 1) := by decide +kernel
theorem d_Mo_drop_1 : decode c_Mo_drop 1 = .ok (.iconst 0, 1) := by decide +kernel
theorem d_Mo_drop_2 : decode c_Mo_drop 2 = .ok (.putfield 159, 3) := by decide +kernel
theorem d_Mo_drop_5 : decode c_Mo_drop 5 = .ok (.return_, 1) := by decide +kernel
theorem d_Mo_change_0 : decode c_Mo_change 0 = .ok (.aload_n 0, 1) := by decide +kernel
theorem d_Mo_change_1 : decode c_Mo_change 1 = .ok (.getfield 59, 3) := by decide +kernel
theorem d_Mo_change_4 : decode c_Mo_change 4 = .ok (.iload_n 1, 1) := by decide +kernel
theorem d_Mo_change_5 : decode c_Mo_change 5 = .ok (.iconst 1, 1) := by decide +kernel
theorem d_Mo_change_6 : decode c_Mo_change 6 = .ok (.isub, 1) := by decide +kernel
theorem d_Mo_change_7 : decode c_Mo_change 7 = .ok (.caload, 1) := by decide +kernel
theorem d_Mo_change_8 : decode c_Mo_change 8 = .ok (.aload_n 0, 1) := by decide +kernel
theorem d_Mo_change_9 : decode c_Mo_change 9 = .ok (.iload_n 2, 1) := by decide +kernel
theorem d_Mo_change_10 : decode c_Mo_change 10 = .ok (.invokevirtual 148, 3) := by decide +kernel
theorem d_Mo_change_13 : decode c_Mo_change 13 = .ok (.if_icmp .ne 7, 3) := by decide +kernel
theorem d_Mo_change_16 : decode c_Mo_change 16 = .ok (.iconst 0, 1) := by decide +kernel
theorem d_Mo_change_17 : decode c_Mo_change 17 = .ok (.goto 4, 3) := by decide +kernel
theorem d_Mo_change_20 : decode c_Mo_change 20 = .ok (.iconst 1, 1) := by decide +kernel
theorem d_Mo_change_21 : decode c_Mo_change 21 = .ok (.ireturn, 1) := by decide +kernel
theorem d_Mo_lower_0 : decode c_Mo_lower 0 = .ok (.iload_n 1, 1) := by decide +kernel
theorem d_Mo_lower_1 : decode c_Mo_lower 1 = .ok (.iconst 1, 1) := by decide +kernel
theorem d_Mo_lower_2 : decode c_Mo_lower 2 = .ok (.iadd, 1) := by decide +kernel
theorem d_Mo_lower_3 : decode c_Mo_lower 3 = .ok (.istore_n 3, 1) := by decide +kernel
theorem d_Mo_lower_4 : decode c_Mo_lower 4 = .ok (.iload_n 1, 1) := by decide +kernel
theorem d_Mo_lower_5 : decode c_Mo_lower 5 = .ok (.ifCond .le 146, 3) := by decide +kernel
theorem d_Mo_lower_8 : decode c_Mo_lower 8 = .ok (.aload_n 0, 1) := by decide +kernel
theorem d_Mo_lower_9 : decode c_Mo_lower 9 = .ok (.iload_n 1, 1) := by decide +kernel
theorem d_Mo_lower_10 : decode c_Mo_lower 10 = .ok (.iload_n 2, 1) := by decide +kernel
theorem d_Mo_lower_11 : decode c_Mo_lower 11 = .ok (.invokevirtual 162, 3) := by decide +kernel
theorem d_Mo_lower_14 : decode c_Mo_lower 14 = .ok (.istore 4, 2) := by decide +kernel
theorem d_Mo_lower_16 : decode c_Mo_lower 16 = .ok (.iload_n 1, 1) := by decide +kernel
theorem d_Mo_lower_17 : decode c_Mo_lower 17 = .ok (.iconst 1, 1) := by decide +kernel
theorem d_Mo_lower_18 : decode c_Mo_lower 18 = .ok (.isub, 1) := by decide +kernel
theorem d_Mo_lower_19 : decode c_Mo_lower 19 = .ok (.iload 4, 2) := by decide +kernel
theorem d_Mo_lower_21 : decode c_Mo_lower 21 = .ok (.iadd, 1) := by decide +kernel
theorem d_Mo_lower_22 : decode c_Mo_lower 22 = .ok (.iload_n 3, 1) := by decide +kernel
theorem d_Mo_lower_23 : decode c_Mo_lower 23 = .ok (.if_icmp .ge 12, 3) := by decide +kernel
theorem d_Mo_lower_26 : decode c_Mo_lower 26 = .ok (.iload_n 1, 1) := by decide +kernel
theorem d_Mo_lower_27 : decode c_Mo_lower 27 = .ok (.iconst 1, 1) := by decide +kernel
theorem d_Mo_lower_28 : decode c_Mo_lower 28 = .ok (.isub, 1) := by decide +kernel
theorem d_Mo_lower_29 : decode c_Mo_lower 29 = .ok (.iload 4, 2) := by decide +kernel
theorem d_Mo_lower_31 : decode c_Mo_lower 31 = .ok (.iadd, 1) := by decide +kernel
theorem d_Mo_lower_32 : decode c_Mo_lower 32 = .ok (.goto 4, 3) := by decide +kernel
theorem d_Mo_lower_35 : decode c_Mo_lower 35 = .ok (.iload_n 3, 1) := by decide +kernel
theorem d_Mo_lower_36 : decode c_Mo_lower 36 = .ok (.istore_n 3, 1) := by decide +kernel
theorem d_Mo_lower_37 : decode c_Mo_lower 37 = .ok (.aload_n 0, 1) := by decide +kernel
theorem d_Mo_lower_38 : decode c_Mo_lower 38 = .ok (.getfield 62, 3) := by decide +kernel
theorem d_Mo_lower_41 : decode c_Mo_lower 41 = .ok (.bipush 64, 2) := by decide +kernel
theorem d_Mo_lower_43 : decode c_Mo_lower 43 = .ok (.iload_n 1, 1) := by decide +kernel
theorem d_Mo_lower_44 : decode c_Mo_lower 44 = .ok (.imul, 1) := by decide +kernel
theorem d_Mo_lower_45 : decode c_Mo_lower 45 = .ok (.bipush 64, 2) := by decide +kernel
theorem d_Mo_lower_47 : decode c_Mo_lower 47 = .ok (.isub, 1) := by decide +kernel
theorem d_Mo_lower_48 : decode c_Mo_lower 48 = .ok (.iload_n 2, 1) := by decide +kernel
theorem d_Mo_lower_49 : decode c_Mo_lower 49 = .ok (.iadd, 1) := by decide +kernel
theorem d_Mo_lower_50 : decode c_Mo_lower 50 = .ok (.iaload, 1) := by decide +kernel
theorem d_Mo_lower_51 : decode c_Mo_lower 51 = .ok (.iconst 1, 1) := by decide +kernel
theorem d_Mo_lower_52 : decode c_Mo_lower 52 = .ok (.iadd, 1) := by decide +kernel
theorem d_Mo_lower_53 : decode c_Mo_lower 53 = .ok (.iload_n 3, 1) := by decide +kernel
theorem d_Mo_lower_54 : decode c_Mo_lower 54 = .ok (.if_icmp .ge 22, 3) := by decide +kernel
theorem d_Mo_lower_57 : decode c_Mo_lower 57 = .ok (.aload_n 0, 1) := by decide +kernel
theorem d_Mo_lower_58 : decode c_Mo_lower 58 = .ok (.getfield 62, 3) := by decide +kernel
theorem d_Mo_lower_61 : decode c_Mo_lower 61 = .ok (.bipush 64, 2) := by decide +kernel
theorem d_Mo_lower_63 : decode c_Mo_lower 63 = .ok (.iload_n 1, 1) := by decide +kernel
theorem d_Mo_lower_64 : decode c_Mo_lower 64 = .ok (.imul, 1) := by decide +kernel
theorem d_Mo_lower_65 : decode c_Mo_lower 65 = .ok (.bipush 64, 2) := by decide +kernel
theorem d_Mo_lower_67 : decode c_Mo_lower 67 = .ok (.isub, 1) := by decide +kernel
theorem d_Mo_lower_68 : decode c_Mo_lower 68 = .ok (.iload_n 2, 1) := by decide +kernel
theorem d_Mo_lower_69 : decode c_Mo_lower 69 = .ok (.iadd, 1) := by decide +kernel
theorem d_Mo_lower_70 : decode c_Mo_lower 70 = .ok (.iaload, 1) := by decide +kernel
theorem d_Mo_lower_71 : decode c_Mo_lower 71 = .ok (.iconst 1, 1) := by decide +kernel
theorem d_Mo_lower_72 : decode c_Mo_lower 72 = .ok (.iadd, 1) := by decide +kernel
theorem d_Mo_lower_73 : decode c_Mo_lower 73 = .ok (.goto 4, 3) := by decide +kernel
theorem d_Mo_lower_76 : decode c_Mo_lower 76 = .ok (.iload_n 3, 1) := by decide +kernel
theorem d_Mo_lower_77 : decode c_Mo_lower 77 = .ok (.istore_n 3, 1) := by decide +kernel
theorem d_Mo_lower_78 : decode c_Mo_lower 78 = .ok (.iconst 0, 1) := by decide +kernel
theorem d_Mo_lower_79 : decode c_Mo_lower 79 = .ok (.istore 5, 2) := by decide +kernel
theorem d_Mo_lower_81 : decode c_Mo_lower 81 = .ok (.iload 5, 2) := by decide +kernel
theorem d_Mo_lower_83 : decode c_Mo_lower 83 = .ok (.aload_n 0, 1) := by decide +kernel
theorem d_Mo_lower_84 : decode c_Mo_lower 84 = .ok (.getfield 141, 3) := by decide +kernel
theorem d_Mo_lower_87 : decode c_Mo_lower 87 = .ok (.if_icmp .ge 64, 3) := by decide +kernel
theorem d_Mo_lower_90 : decode c_Mo_lower 90 = .ok (.aload_n 0, 1) := by decide +kernel
theorem d_Mo_lower_91 : decode c_Mo_lower 91 = .ok (.iload 5, 2) := by decide +kernel
theorem d_Mo_lower_93 : decode c_Mo_lower 93 = .ok (.iload_n 2, 1) := by decide +kernel
theorem d_Mo_lower_94 : decode c_Mo_lower 94 = .ok (.invokevirtual 155, 3) := by decide +kernel
theorem d_Mo_lower_97 : decode c_Mo_lower 97 = .ok (.ifCond .eq 48, 3) := by decide +kernel
theorem d_Mo_lower_100 : decode c_Mo_lower 100 = .ok (.aload_n 0, 1) := by decide +kernel
theorem d_Mo_lower_101 : decode c_Mo_lower 101 = .ok (.getfield 62, 3) := by decide +kernel
theorem d_Mo_lower_104 : decode c_Mo_lower 104 = .ok (.bipush 64, 2) := by decide +kernel
theorem d_Mo_lower_106 : decode c_Mo_lower 106 = .ok (.iload_n 1, 1) := by decide +kernel
theorem d_Mo_lower_107 : decode c_Mo_lower 107 = .ok (.imul, 1) := by decide +kernel
theorem d_Mo_lower_108 : decode c_Mo_lower 108 = .ok (.bipush 64, 2) := by decide +kernel
theorem d_Mo_lower_110 : decode c_Mo_lower 110 = .ok (.isub, 1) := by decide +kernel
theorem d_Mo_lower_111 : decode c_Mo_lower 111 = .ok (.iload 5, 2) := by decide +kernel
theorem d_Mo_lower_113 : decode c_Mo_lower 113 = .ok (.iadd, 1) := by decide +kernel
theorem d_Mo_lower_114 : decode c_Mo_lower 114 = .ok (.iaload, 1) := by decide +kernel
theorem d_Mo_lower_115 : decode c_Mo_lower 115 = .ok (.iload 4, 2) := by decide +kernel
theorem d_Mo_lower_117 : decode c_Mo_lower 117 = .ok (.iadd, 1) := by decide +kernel
theorem d_Mo_lower_118 : decode c_Mo_lower 118 = .ok (.iload_n 3, 1) := by decide +kernel
theorem d_Mo_lower_119 : decode c_Mo_lower 119 = .ok (.if_icmp .ge 24, 3) := by decide +kernel
theorem d_Mo_lower_122 : decode c_Mo_lower 122 = .ok (.aload_n 0, 1) := by decide +kernel
theorem d_Mo_lower_123 : decode c_Mo_lower 123 = .ok (.getfield 62, 3) := by decide +kernel
theorem d_Mo_lower_126 : decode c_Mo_lower 126 = .ok (.bipush 64, 2) := by decide +kernel
theorem d_Mo_lower_128 : decode c_Mo_lower 128 = .ok (.iload_n 1, 1) := by decide +kernel
theorem d_Mo_lower_129 : decode c_Mo_lower 129 = .ok (.imul, 1) := by decide +kernel
theorem d_Mo_lower_130 : decode c_Mo_lower 130 = .ok (.bipush 64, 2) := by decide +kernel
theorem d_Mo_lower_132 : decode c_Mo_lower 132 = .ok (.isub, 1) := by decide +kernel
theorem d_Mo_lower_133 : decode c_Mo_lower 133 = .ok (.iload 5, 2) := by decide +kernel
theorem d_Mo_lower_135 : decode c_Mo_lower 135 = .ok (.iadd, 1) := by decide +kernel
theorem d_Mo_lower_136 : decode c_Mo_lower 136 = .ok (.iaload, 1) := by decide +kernel
theorem d_Mo_lower_137 : decode c_Mo_lower 137 = .ok (.iload 4, 2) := by decide +kernel
theorem d_Mo_lower_139 : decode c_Mo_lower 139 = .ok (.iadd, 1) := by decide +kernel
theorem d_Mo_lower_140 : decode c_Mo_lower 140 = .ok (.goto 4, 3) := by decide +kernel
theorem d_Mo_lower_143 : decode c_Mo_lower 143 = .ok (.iload_n 3, 1) := by decide +kernel
theorem d_Mo_lower_144 : decode c_Mo_lower 144 = .ok (.istore_n 3, 1) := by decide +kernel
theorem d_Mo_lower_145 : decode c_Mo_lower 145 = .ok (.iinc 5 1, 3) := by decide +kernel
theorem d_Mo_lower_148 : decode c_Mo_lower 148 = .ok (.goto (-67), 3) := by decide +kernel
theorem d_Mo_lower_151 : decode c_Mo_lower 151 = .ok (.iconst 0, 1) := by decide +kernel
theorem d_Mo_lower_152 : decode c_Mo_lower 152 = .ok (.istore 4, 2) := by decide +kernel
theorem d_Mo_lower_154 : decode c_Mo_lower 154 = .ok (.iload 4, 2) := by decide +kernel
theorem d_Mo_lower_156 : decode c_Mo_lower 156 = .ok (.aload_n 0, 1) := by decide +kernel
theorem d_Mo_lower_157 : decode c_Mo_lower 157 = .ok (.getfield 141, 3) := by decide +kernel
theorem d_Mo_lower_160 : decode c_Mo_lower 160 = .ok (.if_icmp .ge 56, 3) := by decide +kernel
theorem d_Mo_lower_163 : decode c_Mo_lower 163 = .ok (.aload_n 0, 1) := by decide +kernel
theorem d_Mo_lower_164 : decode c_Mo_lower 164 = .ok (.iload 4, 2) := by decide +kernel
theorem d_Mo_lower_166 : decode c_Mo_lower 166 = .ok (.iload_n 2, 1) := by decide +kernel
theorem d_Mo_lower_167 : decode c_Mo_lower 167 = .ok (.invokevirtual 155, 3) := by decide +kernel
theorem d_Mo_lower_170 : decode c_Mo_lower 170 = .ok (.ifCond .eq 40, 3) := by decide +kernel
theorem d_Mo_lower_173 : decode c_Mo_lower 173 = .ok (.aload_n 0, 1) := by decide +kernel
theorem d_Mo_lower_174 : decode c_Mo_lower 174 = .ok (.getfield 62, 3) := by decide +kernel
theorem d_Mo_lower_177 : decode c_Mo_lower 177 = .ok (.bipush 64, 2) := by decide +kernel
theorem d_Mo_lower_179 : decode c_Mo_lower 179 = .ok (.iload_n 1, 1) := by decide +kernel
theorem d_Mo_lower_180 : decode c_Mo_lower 180 = .ok (.imul, 1) := by decide +kernel
theorem d_Mo_lower_181 : decode c_Mo_lower 181 = .ok (.iload 4, 2) := by decide +kernel
theorem d_Mo_lower_183 : decode c_Mo_lower 183 = .ok (.iadd, 1) := by decide +kernel
theorem d_Mo_lower_184 : decode c_Mo_lower 184 = .ok (.iaload, 1) := by decide +kernel
theorem d_Mo_lower_185 : decode c_Mo_lower 185 = .ok (.iconst 1, 1) := by decide +kernel
theorem d_Mo_lower_186 : decode c_Mo_lower 186 = .ok (.iadd, 1) := by decide +kernel
theorem d_Mo_lower_187 : decode c_Mo_lower 187 = .ok (.iload_n 3, 1) := by decide +kernel
theorem d_Mo_lower_188 : decode c_Mo_lower 188 = .ok (.if_icmp .ge 20, 3) := by decide +kernel
theorem d_Mo_lower_191 : decode c_Mo_lower 191 = .ok (.aload_n 0, 1) := by decide +kernel
theorem d_Mo_lower_192 : decode c_Mo_lower 192 = .ok (.getfield 62, 3) := by decide +kernel
theorem d_Mo_lower_195 : decode c_Mo_lower 195 = .ok (.bipush 64, 2) := by decide +kernel
theorem d_Mo_lower_197 : decode c_Mo_lower 197 = .ok (.iload_n 1, 1) := by decide +kernel
theorem d_Mo_lower_198 : decode c_Mo_lower 198 = .ok (.imul, 1) := by decide +kernel
theorem d_Mo_lower_199 : decode c_Mo_lower 199 = .ok (.iload 4, 2) := by decide +kernel
theorem d_Mo_lower_201 : decode c_Mo_lower 201 = .ok (.iadd, 1) := by decide +kernel
theorem d_Mo_lower_202 : decode c_Mo_lower 202 = .ok (.iaload, 1) := by decide +kernel
theorem d_Mo_lower_203 : decode c_Mo_lower 203 = .ok (.iconst 1, 1) := by decide +kernel
theorem d_Mo_lower_204 : decode c_Mo_lower 204 = .ok (.iadd, 1) := by decide +kernel
theorem d_Mo_lower_205 : decode c_Mo_lower 205 = .ok (.goto 4, 3) := by decide +kernel
theorem d_Mo_lower_208 : decode c_Mo_lower 208 = .ok (.iload_n 3, 1) := by decide +kernel
theorem d_Mo_lower_209 : decode c_Mo_lower 209 = .ok (.istore_n 3, 1) := by decide +kernel
theorem d_Mo_lower_210 : decode c_Mo_lower 210 = .ok (.iinc 4 1, 3) := by decide +kernel
theorem d_Mo_lower_213 : decode c_Mo_lower 213 = .ok (.goto (-59), 3) := by decide +kernel
theorem d_Mo_lower_216 : decode c_Mo_lower 216 = .ok (.iload_n 3, 1) := by decide +kernel
theorem d_Mo_lower_217 : decode c_Mo_lower 217 = .ok (.ireturn, 1) := by decide +kernel
theorem d_Mo_costs_0 : decode c_Mo_costs 0 = .ok (.iconst 0, 1) := by decide +kernel
theorem d_Mo_costs_1 : decode c_Mo_costs 1 = .ok (.istore_n 1, 1) := by decide +kernel
theorem d_Mo_costs_2 : decode c_Mo_costs 2 = .ok (.iload_n 1, 1) := by decide +kernel
theorem d_Mo_costs_3 : decode c_Mo_costs 3 = .ok (.aload_n 0, 1) := by decide +kernel
theorem d_Mo_costs_4 : decode c_Mo_costs 4 = .ok (.getfield 159, 3) := by decide +kernel
theorem d_Mo_costs_7 : decode c_Mo_costs 7 = .ok (.if_icmp .gt 105, 3) := by decide +kernel
theorem d_Mo_costs_10 : decode c_Mo_costs 10 = .ok (.iconst 0, 1) := by decide +kernel
theorem d_Mo_costs_11 : decode c_Mo_costs 11 = .ok (.istore_n 2, 1) := by decide +kernel
theorem d_Mo_costs_12 : decode c_Mo_costs 12 = .ok (.iload_n 2, 1) := by decide +kernel
theorem d_Mo_costs_13 : decode c_Mo_costs 13 = .ok (.aload_n 0, 1) := by decide +kernel
theorem d_Mo_costs_14 : decode c_Mo_costs 14 = .ok (.getfield 141, 3) := by decide +kernel
theorem d_Mo_costs_17 : decode c_Mo_costs 17 = .ok (.if_icmp .ge 23, 3) := by decide +kernel
theorem d_Mo_costs_20 : decode c_Mo_costs 20 = .ok (.aload_n 0, 1) := by decide +kernel
theorem d_Mo_costs_21 : decode c_Mo_costs 21 = .ok (.getfield 62, 3) := by decide +kernel
theorem d_Mo_costs_24 : decode c_Mo_costs 24 = .ok (.bipush 64, 2) := by decide +kernel
theorem d_Mo_costs_26 : decode c_Mo_costs 26 = .ok (.iload_n 1, 1) := by decide +kernel
theorem d_Mo_costs_27 : decode c_Mo_costs 27 = .ok (.imul, 1) := by decide +kernel
theorem d_Mo_costs_28 : decode c_Mo_costs 28 = .ok (.iload_n 2, 1) := by decide +kernel
theorem d_Mo_costs_29 : decode c_Mo_costs 29 = .ok (.iadd, 1) := by decide +kernel
theorem d_Mo_costs_30 : decode c_Mo_costs 30 = .ok (.iload_n 1, 1) := by decide +kernel
theorem d_Mo_costs_31 : decode c_Mo_costs 31 = .ok (.iconst 1, 1) := by decide +kernel
theorem d_Mo_costs_32 : decode c_Mo_costs 32 = .ok (.iadd, 1) := by decide +kernel
theorem d_Mo_costs_33 : decode c_Mo_costs 33 = .ok (.iastore, 1) := by decide +kernel
theorem d_Mo_costs_34 : decode c_Mo_costs 34 = .ok (.iinc 2 1, 3) := by decide +kernel
theorem d_Mo_costs_37 : decode c_Mo_costs 37 = .ok (.goto (-25), 3) := by decide +kernel
theorem d_Mo_costs_40 : decode c_Mo_costs 40 = .ok (.iconst 1, 1) := by decide +kernel
theorem d_Mo_costs_41 : decode c_Mo_costs 41 = .ok (.istore_n 2, 1) := by decide +kernel
theorem d_Mo_costs_42 : decode c_Mo_costs 42 = .ok (.iload_n 2, 1) := by decide +kernel
theorem d_Mo_costs_43 : decode c_Mo_costs 43 = .ok (.ifCond .eq 63, 3) := by decide +kernel
theorem d_Mo_costs_46 : decode c_Mo_costs 46 = .ok (.iconst 0, 1) := by decide +kernel
theorem d_Mo_costs_47 : decode c_Mo_costs 47 = .ok (.istore_n 2, 1) := by decide +kernel
theorem d_Mo_costs_48 : decode c_Mo_costs 48 = .ok (.iconst 0, 1) := by decide +kernel
theorem d_Mo_costs_49 : decode c_Mo_costs 49 = .ok (.istore_n 3, 1) := by decide +kernel
theorem d_Mo_costs_50 : decode c_Mo_costs 50 = .ok (.iload_n 3, 1) := by decide +kernel
theorem d_Mo_costs_51 : decode c_Mo_costs 51 = .ok (.aload_n 0, 1) := by decide +kernel
theorem d_Mo_costs_52 : decode c_Mo_costs 52 = .ok (.getfield 141, 3) := by decide +kernel
theorem d_Mo_costs_55 : decode c_Mo_costs 55 = .ok (.if_icmp .ge 48, 3) := by decide +kernel
theorem d_Mo_costs_58 : decode c_Mo_costs 58 = .ok (.aload_n 0, 1) := by decide +kernel
theorem d_Mo_costs_59 : decode c_Mo_costs 59 = .ok (.iload_n 1, 1) := by decide +kernel
theorem d_Mo_costs_60 : decode c_Mo_costs 60 = .ok (.iload_n 3, 1) := by decide +kernel
theorem d_Mo_costs_61 : decode c_Mo_costs 61 = .ok (.invokevirtual 166, 3) := by decide +kernel
theorem d_Mo_costs_64 : decode c_Mo_costs 64 = .ok (.istore 4, 2) := by decide +kernel
theorem d_Mo_costs_66 : decode c_Mo_costs 66 = .ok (.iload 4, 2) := by decide +kernel
theorem d_Mo_costs_68 : decode c_Mo_costs 68 = .ok (.aload_n 0, 1) := by decide +kernel
theorem d_Mo_costs_69 : decode c_Mo_costs 69 = .ok (.getfield 62, 3) := by decide +kernel
theorem d_Mo_costs_72 : decode c_Mo_costs 72 = .ok (.bipush 64, 2) := by decide +kernel
theorem d_Mo_costs_74 : decode c_Mo_costs 74 = .ok (.iload_n 1, 1) := by decide +kernel
theorem d_Mo_costs_75 : decode c_Mo_costs 75 = .ok (.imul, 1) := by decide +kernel
theorem d_Mo_costs_76 : decode c_Mo_costs 76 = .ok (.iload_n 3, 1) := by decide +kernel
theorem d_Mo_costs_77 : decode c_Mo_costs 77 = .ok (.iadd, 1) := by decide +kernel
theorem d_Mo_costs_78 : decode c_Mo_costs 78 = .ok (.iaload, 1) := by decide +kernel
theorem d_Mo_costs_79 : decode c_Mo_costs 79 = .ok (.if_icmp .ge 18, 3) := by decide +kernel
theorem d_Mo_costs_82 : decode c_Mo_costs 82 = .ok (.aload_n 0, 1) := by decide +kernel
theorem d_Mo_costs_83 : decode c_Mo_costs 83 = .ok (.getfield 62, 3) := by decide +kernel
theorem d_Mo_costs_86 : decode c_Mo_costs 86 = .ok (.bipush 64, 2) := by decide +kernel
theorem d_Mo_costs_88 : decode c_Mo_costs 88 = .ok (.iload_n 1, 1) := by decide +kernel
theorem d_Mo_costs_89 : decode c_Mo_costs 89 = .ok (.imul, 1) := by decide +kernel
theorem d_Mo_costs_90 : decode c_Mo_costs 90 = .ok (.iload_n 3, 1) := by decide +kernel
theorem d_Mo_costs_91 : decode c_Mo_costs 91 = .ok (.iadd, 1) := by decide +kernel
theorem d_Mo_costs_92 : decode c_Mo_costs 92 = .ok (.iload 4, 2) := by decide +kernel
theorem d_Mo_costs_94 : decode c_Mo_costs 94 = .ok (.iastore, 1) := by decide +kernel
theorem d_Mo_costs_95 : decode c_Mo_costs 95 = .ok (.iconst 1, 1) := by decide +kernel
theorem d_Mo_costs_96 : decode c_Mo_costs 96 = .ok (.istore_n 2, 1) := by decide +kernel
theorem d_Mo_costs_97 : decode c_Mo_costs 97 = .ok (.iinc 3 1, 3) := by decide +kernel
theorem d_Mo_costs_100 : decode c_Mo_costs 100 = .ok (.goto (-50), 3) := by decide +kernel
theorem d_Mo_costs_103 : decode c_Mo_costs 103 = .ok (.goto (-61), 3) := by decide +kernel
theorem d_Mo_costs_106 : decode c_Mo_costs 106 = .ok (.iinc 1 1, 3) := by decide +kernel
theorem d_Mo_costs_109 : decode c_Mo_costs 109 = .ok (.goto (-107), 3) := by decide +kernel
theorem d_Mo_costs_112 : decode c_Mo_costs 112 = .ok (.return_, 1) := by decide +kernel
theorem d_Mo_least_0 : decode c_Mo_least 0 = .ok (.iload_n 1, 1) := by decide +kernel
theorem d_Mo_least_1 : decode c_Mo_least 1 = .ok (.ifCond .lt 19, 3) := by decide +kernel
theorem d_Mo_least_4 : decode c_Mo_least 4 = .ok (.iload_n 1, 1) := by decide +kernel
theorem d_Mo_least_5 : decode c_Mo_least 5 = .ok (.aload_n 0, 1) := by decide +kernel
theorem d_Mo_least_6 : decode c_Mo_least 6 = .ok (.getfield 159, 3) := by decide +kernel
theorem d_Mo_least_9 : decode c_Mo_least 9 = .ok (.if_icmp .gt 11, 3) := by decide +kernel
theorem d_Mo_least_12 : decode c_Mo_least 12 = .ok (.aload_n 0, 1) := by decide +kernel
theorem d_Mo_least_13 : decode c_Mo_least 13 = .ok (.iload_n 2, 1) := by decide +kernel
theorem d_Mo_least_14 : decode c_Mo_least 14 = .ok (.invokevirtual 144, 3) := by decide +kernel
theorem d_Mo_least_17 : decode c_Mo_least 17 = .ok (.ifCond .ne 5, 3) := by decide +kernel
theorem d_Mo_least_20 : decode c_Mo_least 20 = .ok (.iconst (-1), 1) := by decide +kernel
theorem d_Mo_least_21 : decode c_Mo_least 21 = .ok (.ireturn, 1) := by decide +kernel
theorem d_Mo_least_22 : decode c_Mo_least 22 = .ok (.aload_n 0, 1) := by decide +kernel
theorem d_Mo_least_23 : decode c_Mo_least 23 = .ok (.invokevirtual 169, 3) := by decide +kernel
theorem d_Mo_least_26 : decode c_Mo_least 26 = .ok (.aload_n 0, 1) := by decide +kernel
theorem d_Mo_least_27 : decode c_Mo_least 27 = .ok (.getfield 62, 3) := by decide +kernel
theorem d_Mo_least_30 : decode c_Mo_least 30 = .ok (.bipush 64, 2) := by decide +kernel
theorem d_Mo_least_32 : decode c_Mo_least 32 = .ok (.iload_n 1, 1) := by decide +kernel
theorem d_Mo_least_33 : decode c_Mo_least 33 = .ok (.imul, 1) := by decide +kernel
theorem d_Mo_least_34 : decode c_Mo_least 34 = .ok (.iload_n 2, 1) := by decide +kernel
theorem d_Mo_least_35 : decode c_Mo_least 35 = .ok (.iadd, 1) := by decide +kernel
theorem d_Mo_least_36 : decode c_Mo_least 36 = .ok (.iaload, 1) := by decide +kernel
theorem d_Mo_least_37 : decode c_Mo_least 37 = .ok (.ireturn, 1) := by decide +kernel
theorem d_Mo_before_0 : decode c_Mo_before 0 = .ok (.iconst 0, 1) := by decide +kernel
theorem d_Mo_before_1 : decode c_Mo_before 1 = .ok (.istore 5, 2) := by decide +kernel
theorem d_Mo_before_3 : decode c_Mo_before 3 = .ok (.iload 5, 2) := by decide +kernel
theorem d_Mo_before_5 : decode c_Mo_before 5 = .ok (.aload_n 0, 1) := by decide +kernel
theorem d_Mo_before_6 : decode c_Mo_before 6 = .ok (.getfield 141, 3) := by decide +kernel
theorem d_Mo_before_9 : decode c_Mo_before 9 = .ok (.if_icmp .ge 52, 3) := by decide +kernel
theorem d_Mo_before_12 : decode c_Mo_before 12 = .ok (.aload_n 0, 1) := by decide +kernel
theorem d_Mo_before_13 : decode c_Mo_before 13 = .ok (.iload 5, 2) := by decide +kernel
theorem d_Mo_before_15 : decode c_Mo_before 15 = .ok (.iload 4, 2) := by decide +kernel
theorem d_Mo_before_17 : decode c_Mo_before 17 = .ok (.invokevirtual 155, 3) := by decide +kernel
theorem d_Mo_before_20 : decode c_Mo_before 20 = .ok (.ifCond .eq 35, 3) := by decide +kernel
theorem d_Mo_before_23 : decode c_Mo_before 23 = .ok (.aload_n 0, 1) := by decide +kernel
theorem d_Mo_before_24 : decode c_Mo_before 24 = .ok (.getfield 62, 3) := by decide +kernel
theorem d_Mo_before_27 : decode c_Mo_before 27 = .ok (.bipush 64, 2) := by decide +kernel
theorem d_Mo_before_29 : decode c_Mo_before 29 = .ok (.iload_n 1, 1) := by decide +kernel
theorem d_Mo_before_30 : decode c_Mo_before 30 = .ok (.imul, 1) := by decide +kernel
theorem d_Mo_before_31 : decode c_Mo_before 31 = .ok (.iload 5, 2) := by decide +kernel
theorem d_Mo_before_33 : decode c_Mo_before 33 = .ok (.iadd, 1) := by decide +kernel
theorem d_Mo_before_34 : decode c_Mo_before 34 = .ok (.iaload, 1) := by decide +kernel
theorem d_Mo_before_35 : decode c_Mo_before 35 = .ok (.iload_n 2, 1) := by decide +kernel
theorem d_Mo_before_36 : decode c_Mo_before 36 = .ok (.iadd, 1) := by decide +kernel
theorem d_Mo_before_37 : decode c_Mo_before 37 = .ok (.aload_n 0, 1) := by decide +kernel
theorem d_Mo_before_38 : decode c_Mo_before 38 = .ok (.getfield 62, 3) := by decide +kernel
theorem d_Mo_before_41 : decode c_Mo_before 41 = .ok (.bipush 64, 2) := by decide +kernel
theorem d_Mo_before_43 : decode c_Mo_before 43 = .ok (.iload_n 3, 1) := by decide +kernel
theorem d_Mo_before_44 : decode c_Mo_before 44 = .ok (.imul, 1) := by decide +kernel
theorem d_Mo_before_45 : decode c_Mo_before 45 = .ok (.iload 4, 2) := by decide +kernel
theorem d_Mo_before_47 : decode c_Mo_before 47 = .ok (.iadd, 1) := by decide +kernel
theorem d_Mo_before_48 : decode c_Mo_before 48 = .ok (.iaload, 1) := by decide +kernel
theorem d_Mo_before_49 : decode c_Mo_before 49 = .ok (.if_icmp .ne 6, 3) := by decide +kernel
theorem d_Mo_before_52 : decode c_Mo_before 52 = .ok (.iload 5, 2) := by decide +kernel
theorem d_Mo_before_54 : decode c_Mo_before 54 = .ok (.ireturn, 1) := by decide +kernel
theorem d_Mo_before_55 : decode c_Mo_before 55 = .ok (.iinc 5 1, 3) := by decide +kernel
theorem d_Mo_before_58 : decode c_Mo_before 58 = .ok (.goto (-55), 3) := by decide +kernel
theorem d_Mo_before_61 : decode c_Mo_before 61 = .ok (.iconst (-1), 1) := by decide +kernel
theorem d_Mo_before_62 : decode c_Mo_before 62 = .ok (.ireturn, 1) := by decide +kernel
theorem d_Mo_note_0 : decode c_Mo_note 0 = .ok (.aload_n 0, 1) := by decide +kernel
theorem d_Mo_note_1 : decode c_Mo_note 1 = .ok (.getfield 68, 3) := by decide +kernel
theorem d_Mo_note_4 : decode c_Mo_note 4 = .ok (.aload_n 0, 1) := by decide +kernel
theorem d_Mo_note_5 : decode c_Mo_note 5 = .ok (.getfield 172, 3) := by decide +kernel
theorem d_Mo_note_8 : decode c_Mo_note 8 = .ok (.iload_n 1, 1) := by decide +kernel
theorem d_Mo_note_9 : decode c_Mo_note 9 = .ok (.castore, 1) := by decide +kernel
theorem d_Mo_note_10 : decode c_Mo_note 10 = .ok (.aload_n 0, 1) := by decide +kernel
theorem d_Mo_note_11 : decode c_Mo_note 11 = .ok (.dup, 1) := by decide +kernel
theorem d_Mo_note_12 : decode c_Mo_note 12 = .ok (.getfield 172, 3) := by decide +kernel
theorem d_Mo_note_15 : decode c_Mo_note 15 = .ok (.iconst 1, 1) := by decide +kernel
theorem d_Mo_note_16 : decode c_Mo_note 16 = .ok (.iadd, 1) := by decide +kernel
theorem d_Mo_note_17 : decode c_Mo_note 17 = .ok (.putfield 172, 3) := by decide +kernel
theorem d_Mo_note_20 : decode c_Mo_note 20 = .ok (.return_, 1) := by decide +kernel
theorem d_Mo_visit_0 : decode c_Mo_visit 0 = .ok (.aload_n 0, 1) := by decide +kernel
theorem d_Mo_visit_1 : decode c_Mo_visit 1 = .ok (.getfield 65, 3) := by decide +kernel
theorem d_Mo_visit_4 : decode c_Mo_visit 4 = .ok (.aload_n 0, 1) := by decide +kernel
theorem d_Mo_visit_5 : decode c_Mo_visit 5 = .ok (.getfield 175, 3) := by decide +kernel
theorem d_Mo_visit_8 : decode c_Mo_visit 8 = .ok (.iload_n 1, 1) := by decide +kernel
theorem d_Mo_visit_9 : decode c_Mo_visit 9 = .ok (.iastore, 1) := by decide +kernel
theorem d_Mo_visit_10 : decode c_Mo_visit 10 = .ok (.aload_n 0, 1) := by decide +kernel
theorem d_Mo_visit_11 : decode c_Mo_visit 11 = .ok (.dup, 1) := by decide +kernel
theorem d_Mo_visit_12 : decode c_Mo_visit 12 = .ok (.getfield 175, 3) := by decide +kernel
theorem d_Mo_visit_15 : decode c_Mo_visit 15 = .ok (.iconst 1, 1) := by decide +kernel
theorem d_Mo_visit_16 : decode c_Mo_visit 16 = .ok (.iadd, 1) := by decide +kernel
theorem d_Mo_visit_17 : decode c_Mo_visit 17 = .ok (.putfield 175, 3) := by decide +kernel
theorem d_Mo_visit_20 : decode c_Mo_visit 20 = .ok (.return_, 1) := by decide +kernel
theorem d_Mo_align_0 : decode c_Mo_align 0 = .ok (.aload_n 0, 1) := by decide +kernel
theorem d_Mo_align_1 : decode c_Mo_align 1 = .ok (.getfield 13, 3) := by decide +kernel
theorem d_Mo_align_4 : decode c_Mo_align 4 = .ok (.iconst 0, 1) := by decide +kernel
theorem d_Mo_align_5 : decode c_Mo_align 5 = .ok (.iaload, 1) := by decide +kernel
theorem d_Mo_align_6 : decode c_Mo_align 6 = .ok (.ifCond .ne 6, 3) := by decide +kernel
theorem d_Mo_align_9 : decode c_Mo_align 9 = .ok (.bipush (-2), 2) := by decide +kernel
theorem d_Mo_align_11 : decode c_Mo_align 11 = .ok (.ireturn, 1) := by decide +kernel
theorem d_Mo_align_12 : decode c_Mo_align 12 = .ok (.aload_n 0, 1) := by decide +kernel
theorem d_Mo_align_13 : decode c_Mo_align 13 = .ok (.invokevirtual 169, 3) := by decide +kernel
theorem d_Mo_align_16 : decode c_Mo_align 16 = .ok (.iconst 0, 1) := by decide +kernel
theorem d_Mo_align_17 : decode c_Mo_align 17 = .ok (.istore_n 1, 1) := by decide +kernel
theorem d_Mo_align_18 : decode c_Mo_align 18 = .ok (.iconst 0, 1) := by decide +kernel
theorem d_Mo_align_19 : decode c_Mo_align 19 = .ok (.istore_n 2, 1) := by decide +kernel
theorem d_Mo_align_20 : decode c_Mo_align 20 = .ok (.iload_n 2, 1) := by decide +kernel
theorem d_Mo_align_21 : decode c_Mo_align 21 = .ok (.aload_n 0, 1) := by decide +kernel
theorem d_Mo_align_22 : decode c_Mo_align 22 = .ok (.getfield 141, 3) := by decide +kernel
theorem d_Mo_align_25 : decode c_Mo_align 25 = .ok (.if_icmp .ge 46, 3) := by decide +kernel
theorem d_Mo_align_28 : decode c_Mo_align 28 = .ok (.aload_n 0, 1) := by decide +kernel
theorem d_Mo_align_29 : decode c_Mo_align 29 = .ok (.getfield 62, 3) := by decide +kernel
theorem d_Mo_align_32 : decode c_Mo_align 32 = .ok (.bipush 64, 2) := by decide +kernel
theorem d_Mo_align_34 : decode c_Mo_align 34 = .ok (.aload_n 0, 1) := by decide +kernel
theorem d_Mo_align_35 : decode c_Mo_align 35 = .ok (.getfield 159, 3) := by decide +kernel
theorem d_Mo_align_38 : decode c_Mo_align 38 = .ok (.imul, 1) := by decide +kernel
theorem d_Mo_align_39 : decode c_Mo_align 39 = .ok (.iload_n 2, 1) := by decide +kernel
theorem d_Mo_align_40 : decode c_Mo_align 40 = .ok (.iadd, 1) := by decide +kernel
theorem d_Mo_align_41 : decode c_Mo_align 41 = .ok (.iaload, 1) := by decide +kernel
theorem d_Mo_align_42 : decode c_Mo_align 42 = .ok (.aload_n 0, 1) := by decide +kernel
theorem d_Mo_align_43 : decode c_Mo_align 43 = .ok (.getfield 62, 3) := by decide +kernel
theorem d_Mo_align_46 : decode c_Mo_align 46 = .ok (.bipush 64, 2) := by decide +kernel
theorem d_Mo_align_48 : decode c_Mo_align 48 = .ok (.aload_n 0, 1) := by decide +kernel
theorem d_Mo_align_49 : decode c_Mo_align 49 = .ok (.getfield 159, 3) := by decide +kernel
theorem d_Mo_align_52 : decode c_Mo_align 52 = .ok (.imul, 1) := by decide +kernel
theorem d_Mo_align_53 : decode c_Mo_align 53 = .ok (.iload_n 1, 1) := by decide +kernel
theorem d_Mo_align_54 : decode c_Mo_align 54 = .ok (.iadd, 1) := by decide +kernel
theorem d_Mo_align_55 : decode c_Mo_align 55 = .ok (.iaload, 1) := by decide +kernel
theorem d_Mo_align_56 : decode c_Mo_align 56 = .ok (.if_icmp .ge 7, 3) := by decide +kernel
theorem d_Mo_align_59 : decode c_Mo_align 59 = .ok (.iload_n 2, 1) := by decide +kernel
theorem d_Mo_align_60 : decode c_Mo_align 60 = .ok (.goto 4, 3) := by decide +kernel
theorem d_Mo_align_63 : decode c_Mo_align 63 = .ok (.iload_n 1, 1) := by decide +kernel
theorem d_Mo_align_64 : decode c_Mo_align 64 = .ok (.istore_n 1, 1) := by decide +kernel
theorem d_Mo_align_65 : decode c_Mo_align 65 = .ok (.iinc 2 1, 3) := by decide +kernel
theorem d_Mo_align_68 : decode c_Mo_align 68 = .ok (.goto (-48), 3) := by decide +kernel
theorem d_Mo_align_71 : decode c_Mo_align 71 = .ok (.aload_n 0, 1) := by decide +kernel
theorem d_Mo_align_72 : decode c_Mo_align 72 = .ok (.iconst 1, 1) := by decide +kernel
theorem d_Mo_align_73 : decode c_Mo_align 73 = .ok (.putfield 137, 3) := by decide +kernel
theorem d_Mo_align_76 : decode c_Mo_align 76 = .ok (.aload_n 0, 1) := by decide +kernel
theorem d_Mo_align_77 : decode c_Mo_align 77 = .ok (.aload_n 0, 1) := by decide +kernel
theorem d_Mo_align_78 : decode c_Mo_align 78 = .ok (.getfield 62, 3) := by decide +kernel
theorem d_Mo_align_81 : decode c_Mo_align 81 = .ok (.bipush 64, 2) := by decide +kernel
theorem d_Mo_align_83 : decode c_Mo_align 83 = .ok (.aload_n 0, 1) := by decide +kernel
theorem d_Mo_align_84 : decode c_Mo_align 84 = .ok (.getfield 159, 3) := by decide +kernel
theorem d_Mo_align_87 : decode c_Mo_align 87 = .ok (.imul, 1) := by decide +kernel
theorem d_Mo_align_88 : decode c_Mo_align 88 = .ok (.iload_n 1, 1) := by decide +kernel
theorem d_Mo_align_89 : decode c_Mo_align 89 = .ok (.iadd, 1) := by decide +kernel
theorem d_Mo_align_90 : decode c_Mo_align 90 = .ok (.iaload, 1) := by decide +kernel
theorem d_Mo_align_91 : decode c_Mo_align 91 = .ok (.putfield 178, 3) := by decide +kernel
theorem d_Mo_align_94 : decode c_Mo_align 94 = .ok (.aload_n 0, 1) := by decide +kernel
theorem d_Mo_align_95 : decode c_Mo_align 95 = .ok (.iconst 0, 1) := by decide +kernel
theorem d_Mo_align_96 : decode c_Mo_align 96 = .ok (.putfield 175, 3) := by decide +kernel
theorem d_Mo_align_99 : decode c_Mo_align 99 = .ok (.aload_n 0, 1) := by decide +kernel
theorem d_Mo_align_100 : decode c_Mo_align 100 = .ok (.iconst 0, 1) := by decide +kernel
theorem d_Mo_align_101 : decode c_Mo_align 101 = .ok (.putfield 172, 3) := by decide +kernel
theorem d_Mo_align_104 : decode c_Mo_align 104 = .ok (.aload_n 0, 1) := by decide +kernel
theorem d_Mo_align_105 : decode c_Mo_align 105 = .ok (.getfield 159, 3) := by decide +kernel
theorem d_Mo_align_108 : decode c_Mo_align 108 = .ok (.istore_n 2, 1) := by decide +kernel
theorem d_Mo_align_109 : decode c_Mo_align 109 = .ok (.iconst (-1), 1) := by decide +kernel
theorem d_Mo_align_110 : decode c_Mo_align 110 = .ok (.istore_n 3, 1) := by decide +kernel
theorem d_Mo_align_111 : decode c_Mo_align 111 = .ok (.iload_n 3, 1) := by decide +kernel
theorem d_Mo_align_112 : decode c_Mo_align 112 = .ok (.ifCond .ge 218, 3) := by decide +kernel
theorem d_Mo_align_115 : decode c_Mo_align 115 = .ok (.iload_n 2, 1) := by decide +kernel
theorem d_Mo_align_116 : decode c_Mo_align 116 = .ok (.ifCond .le 12, 3) := by decide +kernel
theorem d_Mo_align_119 : decode c_Mo_align 119 = .ok (.aload_n 0, 1) := by decide +kernel
theorem d_Mo_align_120 : decode c_Mo_align 120 = .ok (.iload_n 2, 1) := by decide +kernel
theorem d_Mo_align_121 : decode c_Mo_align 121 = .ok (.iload_n 1, 1) := by decide +kernel
theorem d_Mo_align_122 : decode c_Mo_align 122 = .ok (.invokevirtual 162, 3) := by decide +kernel
theorem d_Mo_align_125 : decode c_Mo_align 125 = .ok (.goto 4, 3) := by decide +kernel
theorem d_Mo_align_128 : decode c_Mo_align 128 = .ok (.iconst 2, 1) := by decide +kernel
theorem d_Mo_align_129 : decode c_Mo_align 129 = .ok (.istore 4, 2) := by decide +kernel
theorem d_Mo_align_131 : decode c_Mo_align 131 = .ok (.aload_n 0, 1) := by decide +kernel
theorem d_Mo_align_132 : decode c_Mo_align 132 = .ok (.getfield 62, 3) := by decide +kernel
theorem d_Mo_align_135 : decode c_Mo_align 135 = .ok (.bipush 64, 2) := by decide +kernel
theorem d_Mo_align_137 : decode c_Mo_align 137 = .ok (.iload_n 2, 1) := by decide +kernel
theorem d_Mo_align_138 : decode c_Mo_align 138 = .ok (.imul, 1) := by decide +kernel
theorem d_Mo_align_139 : decode c_Mo_align 139 = .ok (.iload_n 1, 1) := by decide +kernel
theorem d_Mo_align_140 : decode c_Mo_align 140 = .ok (.iadd, 1) := by decide +kernel
theorem d_Mo_align_141 : decode c_Mo_align 141 = .ok (.iaload, 1) := by decide +kernel
theorem d_Mo_align_142 : decode c_Mo_align 142 = .ok (.istore 5, 2) := by decide +kernel
theorem d_Mo_align_144 : decode c_Mo_align 144 = .ok (.iload_n 2, 1) := by decide +kernel
theorem d_Mo_align_145 : decode c_Mo_align 145 = .ok (.ifCond .le 17, 3) := by decide +kernel
theorem d_Mo_align_148 : decode c_Mo_align 148 = .ok (.aload_n 0, 1) := by decide +kernel
theorem d_Mo_align_149 : decode c_Mo_align 149 = .ok (.iload_n 2, 1) := by decide +kernel
theorem d_Mo_align_150 : decode c_Mo_align 150 = .ok (.iconst 1, 1) := by decide +kernel
theorem d_Mo_align_151 : decode c_Mo_align 151 = .ok (.isub, 1) := by decide +kernel
theorem d_Mo_align_152 : decode c_Mo_align 152 = .ok (.iload 4, 2) := by decide +kernel
theorem d_Mo_align_154 : decode c_Mo_align 154 = .ok (.iload_n 2, 1) := by decide +kernel
theorem d_Mo_align_155 : decode c_Mo_align 155 = .ok (.iload_n 1, 1) := by decide +kernel
theorem d_Mo_align_156 : decode c_Mo_align 156 = .ok (.invokevirtual 181, 3) := by decide +kernel
theorem d_Mo_align_159 : decode c_Mo_align 159 = .ok (.goto 4, 3) := by decide +kernel
theorem d_Mo_align_162 : decode c_Mo_align 162 = .ok (.iconst (-1), 1) := by decide +kernel
theorem d_Mo_align_163 : decode c_Mo_align 163 = .ok (.istore 6, 2) := by decide +kernel
theorem d_Mo_align_165 : decode c_Mo_align 165 = .ok (.aload_n 0, 1) := by decide +kernel
theorem d_Mo_align_166 : decode c_Mo_align 166 = .ok (.iload_n 2, 1) := by decide +kernel
theorem d_Mo_align_167 : decode c_Mo_align 167 = .ok (.iconst 1, 1) := by decide +kernel
theorem d_Mo_align_168 : decode c_Mo_align 168 = .ok (.iload_n 2, 1) := by decide +kernel
theorem d_Mo_align_169 : decode c_Mo_align 169 = .ok (.iload_n 1, 1) := by decide +kernel
theorem d_Mo_align_170 : decode c_Mo_align 170 = .ok (.invokevirtual 181, 3) := by decide +kernel
theorem d_Mo_align_173 : decode c_Mo_align 173 = .ok (.istore 7, 2) := by decide +kernel
theorem d_Mo_align_175 : decode c_Mo_align 175 = .ok (.iload_n 2, 1) := by decide +kernel
theorem d_Mo_align_176 : decode c_Mo_align 176 = .ok (.ifCond .le 42, 3) := by decide +kernel
theorem d_Mo_align_179 : decode c_Mo_align 179 = .ok (.iload_n 2, 1) := by decide +kernel
theorem d_Mo_align_180 : decode c_Mo_align 180 = .ok (.iconst 1, 1) := by decide +kernel
theorem d_Mo_align_181 : decode c_Mo_align 181 = .ok (.isub, 1) := by decide +kernel
theorem d_Mo_align_182 : decode c_Mo_align 182 = .ok (.iload 4, 2) := by decide +kernel
theorem d_Mo_align_184 : decode c_Mo_align 184 = .ok (.iadd, 1) := by decide +kernel
theorem d_Mo_align_185 : decode c_Mo_align 185 = .ok (.iload 5, 2) := by decide +kernel
theorem d_Mo_align_187 : decode c_Mo_align 187 = .ok (.if_icmp .ne 31, 3) := by decide +kernel
theorem d_Mo_align_190 : decode c_Mo_align 190 = .ok (.aload_n 0, 1) := by decide +kernel
theorem d_Mo_align_191 : decode c_Mo_align 191 = .ok (.iload 4, 2) := by decide +kernel
theorem d_Mo_align_193 : decode c_Mo_align 193 = .ok (.ifCond .ne 8, 3) := by decide +kernel
theorem d_Mo_align_196 : decode c_Mo_align 196 = .ok (.bipush 61, 2) := by decide +kernel
theorem d_Mo_align_198 : decode c_Mo_align 198 = .ok (.goto 5, 3) := by decide +kernel
theorem d_Mo_align_201 : decode c_Mo_align 201 = .ok (.bipush 88, 2) := by decide +kernel
theorem d_Mo_align_203 : decode c_Mo_align 203 = .ok (.invokevirtual 185, 3) := by decide +kernel
theorem d_Mo_align_206 : decode c_Mo_align 206 = .ok (.aload_n 0, 1) := by decide +kernel
theorem d_Mo_align_207 : decode c_Mo_align 207 = .ok (.iload_n 1, 1) := by decide +kernel
theorem d_Mo_align_208 : decode c_Mo_align 208 = .ok (.invokevirtual 189, 3) := by decide +kernel
theorem d_Mo_align_211 : decode c_Mo_align 211 = .ok (.iload_n 2, 1) := by decide +kernel
theorem d_Mo_align_212 : decode c_Mo_align 212 = .ok (.iconst 1, 1) := by decide +kernel
theorem d_Mo_align_213 : decode c_Mo_align 213 = .ok (.isub, 1) := by decide +kernel
theorem d_Mo_align_214 : decode c_Mo_align 214 = .ok (.istore_n 3, 1) := by decide +kernel
theorem d_Mo_align_215 : decode c_Mo_align 215 = .ok (.goto 112, 3) := by decide +kernel
theorem d_Mo_align_218 : decode c_Mo_align 218 = .ok (.iload 6, 2) := by decide +kernel
theorem d_Mo_align_220 : decode c_Mo_align 220 = .ok (.ifCond .lt 34, 3) := by decide +kernel
theorem d_Mo_align_223 : decode c_Mo_align 223 = .ok (.aload_n 0, 1) := by decide +kernel
theorem d_Mo_align_224 : decode c_Mo_align 224 = .ok (.iload 4, 2) := by decide +kernel
theorem d_Mo_align_226 : decode c_Mo_align 226 = .ok (.ifCond .ne 8, 3) := by decide +kernel
theorem d_Mo_align_229 : decode c_Mo_align 229 = .ok (.bipush 61, 2) := by decide +kernel
theorem d_Mo_align_231 : decode c_Mo_align 231 = .ok (.goto 5, 3) := by decide +kernel
theorem d_Mo_align_234 : decode c_Mo_align 234 = .ok (.bipush 88, 2) := by decide +kernel
theorem d_Mo_align_236 : decode c_Mo_align 236 = .ok (.invokevirtual 185, 3) := by decide +kernel
theorem d_Mo_align_239 : decode c_Mo_align 239 = .ok (.aload_n 0, 1) := by decide +kernel
theorem d_Mo_align_240 : decode c_Mo_align 240 = .ok (.iload_n 1, 1) := by decide +kernel
theorem d_Mo_align_241 : decode c_Mo_align 241 = .ok (.invokevirtual 189, 3) := by decide +kernel
theorem d_Mo_align_244 : decode c_Mo_align 244 = .ok (.iload_n 2, 1) := by decide +kernel
theorem d_Mo_align_245 : decode c_Mo_align 245 = .ok (.iconst 1, 1) := by decide +kernel
theorem d_Mo_align_246 : decode c_Mo_align 246 = .ok (.isub, 1) := by decide +kernel
theorem d_Mo_align_247 : decode c_Mo_align 247 = .ok (.istore_n 2, 1) := by decide +kernel
theorem d_Mo_align_248 : decode c_Mo_align 248 = .ok (.iload 6, 2) := by decide +kernel
theorem d_Mo_align_250 : decode c_Mo_align 250 = .ok (.istore_n 1, 1) := by decide +kernel
theorem d_Mo_align_251 : decode c_Mo_align 251 = .ok (.goto 76, 3) := by decide +kernel
theorem d_Mo_align_254 : decode c_Mo_align 254 = .ok (.iload_n 2, 1) := by decide +kernel
theorem d_Mo_align_255 : decode c_Mo_align 255 = .ok (.ifCond .le 37, 3) := by decide +kernel
theorem d_Mo_align_258 : decode c_Mo_align 258 = .ok (.aload_n 0, 1) := by decide +kernel
theorem d_Mo_align_259 : decode c_Mo_align 259 = .ok (.getfield 62, 3) := by decide +kernel
theorem d_Mo_align_262 : decode c_Mo_align 262 = .ok (.bipush 64, 2) := by decide +kernel
theorem d_Mo_align_264 : decode c_Mo_align 264 = .ok (.iload_n 2, 1) := by decide +kernel
theorem d_Mo_align_265 : decode c_Mo_align 265 = .ok (.imul, 1) := by decide +kernel
theorem d_Mo_align_266 : decode c_Mo_align 266 = .ok (.bipush 64, 2) := by decide +kernel
theorem d_Mo_align_268 : decode c_Mo_align 268 = .ok (.isub, 1) := by decide +kernel
theorem d_Mo_align_269 : decode c_Mo_align 269 = .ok (.iload_n 1, 1) := by decide +kernel
theorem d_Mo_align_270 : decode c_Mo_align 270 = .ok (.iadd, 1) := by decide +kernel
theorem d_Mo_align_271 : decode c_Mo_align 271 = .ok (.iaload, 1) := by decide +kernel
theorem d_Mo_align_272 : decode c_Mo_align 272 = .ok (.iconst 1, 1) := by decide +kernel
theorem d_Mo_align_273 : decode c_Mo_align 273 = .ok (.iadd, 1) := by decide +kernel
theorem d_Mo_align_274 : decode c_Mo_align 274 = .ok (.iload 5, 2) := by decide +kernel
theorem d_Mo_align_276 : decode c_Mo_align 276 = .ok (.if_icmp .ne 16, 3) := by decide +kernel
theorem d_Mo_align_279 : decode c_Mo_align 279 = .ok (.aload_n 0, 1) := by decide +kernel
theorem d_Mo_align_280 : decode c_Mo_align 280 = .ok (.bipush 73, 2) := by decide +kernel
theorem d_Mo_align_282 : decode c_Mo_align 282 = .ok (.invokevirtual 185, 3) := by decide +kernel
theorem d_Mo_align_285 : decode c_Mo_align 285 = .ok (.iload_n 2, 1) := by decide +kernel
theorem d_Mo_align_286 : decode c_Mo_align 286 = .ok (.iconst 1, 1) := by decide +kernel
theorem d_Mo_align_287 : decode c_Mo_align 287 = .ok (.isub, 1) := by decide +kernel
theorem d_Mo_align_288 : decode c_Mo_align 288 = .ok (.istore_n 2, 1) := by decide +kernel
theorem d_Mo_align_289 : decode c_Mo_align 289 = .ok (.goto 38, 3) := by decide +kernel
theorem d_Mo_align_292 : decode c_Mo_align 292 = .ok (.iload 7, 2) := by decide +kernel
theorem d_Mo_align_294 : decode c_Mo_align 294 = .ok (.ifCond .lt 20, 3) := by decide +kernel
theorem d_Mo_align_297 : decode c_Mo_align 297 = .ok (.aload_n 0, 1) := by decide +kernel
theorem d_Mo_align_298 : decode c_Mo_align 298 = .ok (.bipush 68, 2) := by decide +kernel
theorem d_Mo_align_300 : decode c_Mo_align 300 = .ok (.invokevirtual 185, 3) := by decide +kernel
theorem d_Mo_align_303 : decode c_Mo_align 303 = .ok (.aload_n 0, 1) := by decide +kernel
theorem d_Mo_align_304 : decode c_Mo_align 304 = .ok (.iload_n 1, 1) := by decide +kernel
theorem d_Mo_align_305 : decode c_Mo_align 305 = .ok (.invokevirtual 189, 3) := by decide +kernel
theorem d_Mo_align_308 : decode c_Mo_align 308 = .ok (.iload 7, 2) := by decide +kernel
theorem d_Mo_align_310 : decode c_Mo_align 310 = .ok (.istore_n 1, 1) := by decide +kernel
theorem d_Mo_align_311 : decode c_Mo_align 311 = .ok (.goto 16, 3) := by decide +kernel
theorem d_Mo_align_314 : decode c_Mo_align 314 = .ok (.aload_n 0, 1) := by decide +kernel
theorem d_Mo_align_315 : decode c_Mo_align 315 = .ok (.bipush 68, 2) := by decide +kernel
theorem d_Mo_align_317 : decode c_Mo_align 317 = .ok (.invokevirtual 185, 3) := by decide +kernel
theorem d_Mo_align_320 : decode c_Mo_align 320 = .ok (.aload_n 0, 1) := by decide +kernel
theorem d_Mo_align_321 : decode c_Mo_align 321 = .ok (.iload_n 1, 1) := by decide +kernel
theorem d_Mo_align_322 : decode c_Mo_align 322 = .ok (.invokevirtual 189, 3) := by decide +kernel
theorem d_Mo_align_325 : decode c_Mo_align 325 = .ok (.iload_n 2, 1) := by decide +kernel
theorem d_Mo_align_326 : decode c_Mo_align 326 = .ok (.istore_n 3, 1) := by decide +kernel
theorem d_Mo_align_327 : decode c_Mo_align 327 = .ok (.goto (-216), 3) := by decide +kernel
theorem d_Mo_align_330 : decode c_Mo_align 330 = .ok (.iconst 0, 1) := by decide +kernel
theorem d_Mo_align_331 : decode c_Mo_align 331 = .ok (.istore 4, 2) := by decide +kernel
theorem d_Mo_align_333 : decode c_Mo_align 333 = .ok (.iload 4, 2) := by decide +kernel
theorem d_Mo_align_335 : decode c_Mo_align 335 = .ok (.iload_n 3, 1) := by decide +kernel
theorem d_Mo_align_336 : decode c_Mo_align 336 = .ok (.if_icmp .ge 15, 3) := by decide +kernel
theorem d_Mo_align_339 : decode c_Mo_align 339 = .ok (.aload_n 0, 1) := by decide +kernel
theorem d_Mo_align_340 : decode c_Mo_align 340 = .ok (.bipush 73, 2) := by decide +kernel
theorem d_Mo_align_342 : decode c_Mo_align 342 = .ok (.invokevirtual 185, 3) := by decide +kernel
theorem d_Mo_align_345 : decode c_Mo_align 345 = .ok (.iinc 4 1, 3) := by decide +kernel
theorem d_Mo_align_348 : decode c_Mo_align 348 = .ok (.goto (-15), 3) := by decide +kernel
theorem d_Mo_align_351 : decode c_Mo_align 351 = .ok (.aload_n 0, 1) := by decide +kernel
theorem d_Mo_align_352 : decode c_Mo_align 352 = .ok (.getfield 178, 3) := by decide +kernel
theorem d_Mo_align_355 : decode c_Mo_align 355 = .ok (.ireturn, 1) := by decide +kernel
theorem d_Mo_walk_0 : decode c_Mo_walk 0 = .ok (.aload_n 0, 1) := by decide +kernel
theorem d_Mo_walk_1 : decode c_Mo_walk 1 = .ok (.getfield 137, 3) := by decide +kernel
theorem d_Mo_walk_4 : decode c_Mo_walk 4 = .ok (.ifCond .eq 31, 3) := by decide +kernel
theorem d_Mo_walk_7 : decode c_Mo_walk 7 = .ok (.iload_n 1, 1) := by decide +kernel
theorem d_Mo_walk_8 : decode c_Mo_walk 8 = .ok (.ifCond .lt 27, 3) := by decide +kernel
theorem d_Mo_walk_11 : decode c_Mo_walk 11 = .ok (.iload_n 1, 1) := by decide +kernel
theorem d_Mo_walk_12 : decode c_Mo_walk 12 = .ok (.aload_n 0, 1) := by decide +kernel
theorem d_Mo_walk_13 : decode c_Mo_walk 13 = .ok (.getfield 175, 3) := by decide +kernel
theorem d_Mo_walk_16 : decode c_Mo_walk 16 = .ok (.if_icmp .ge 19, 3) := by decide +kernel
theorem d_Mo_walk_19 : decode c_Mo_walk 19 = .ok (.aload_n 0, 1) := by decide +kernel
theorem d_Mo_walk_20 : decode c_Mo_walk 20 = .ok (.getfield 65, 3) := by decide +kernel
theorem d_Mo_walk_23 : decode c_Mo_walk 23 = .ok (.aload_n 0, 1) := by decide +kernel
theorem d_Mo_walk_24 : decode c_Mo_walk 24 = .ok (.getfield 175, 3) := by decide +kernel
theorem d_Mo_walk_27 : decode c_Mo_walk 27 = .ok (.iconst 1, 1) := by decide +kernel
theorem d_Mo_walk_28 : decode c_Mo_walk 28 = .ok (.isub, 1) := by decide +kernel
theorem d_Mo_walk_29 : decode c_Mo_walk 29 = .ok (.iload_n 1, 1) := by decide +kernel
theorem d_Mo_walk_30 : decode c_Mo_walk 30 = .ok (.isub, 1) := by decide +kernel
theorem d_Mo_walk_31 : decode c_Mo_walk 31 = .ok (.iaload, 1) := by decide +kernel
theorem d_Mo_walk_32 : decode c_Mo_walk 32 = .ok (.goto 4, 3) := by decide +kernel
theorem d_Mo_walk_35 : decode c_Mo_walk 35 = .ok (.iconst (-1), 1) := by decide +kernel
theorem d_Mo_walk_36 : decode c_Mo_walk 36 = .ok (.ireturn, 1) := by decide +kernel
theorem d_Mo_edit_0 : decode c_Mo_edit 0 = .ok (.aload_n 0, 1) := by decide +kernel
theorem d_Mo_edit_1 : decode c_Mo_edit 1 = .ok (.getfield 137, 3) := by decide +kernel
theorem d_Mo_edit_4 : decode c_Mo_edit 4 = .ok (.ifCond .eq 31, 3) := by decide +kernel
theorem d_Mo_edit_7 : decode c_Mo_edit 7 = .ok (.iload_n 1, 1) := by decide +kernel
theorem d_Mo_edit_8 : decode c_Mo_edit 8 = .ok (.ifCond .lt 27, 3) := by decide +kernel
theorem d_Mo_edit_11 : decode c_Mo_edit 11 = .ok (.iload_n 1, 1) := by decide +kernel
theorem d_Mo_edit_12 : decode c_Mo_edit 12 = .ok (.aload_n 0, 1) := by decide +kernel
theorem d_Mo_edit_13 : decode c_Mo_edit 13 = .ok (.getfield 172, 3) := by decide +kernel
theorem d_Mo_edit_16 : decode c_Mo_edit 16 = .ok (.if_icmp .ge 19, 3) := by decide +kernel
theorem d_Mo_edit_19 : decode c_Mo_edit 19 = .ok (.aload_n 0, 1) := by decide +kernel
theorem d_Mo_edit_20 : decode c_Mo_edit 20 = .ok (.getfield 68, 3) := by decide +kernel
theorem d_Mo_edit_23 : decode c_Mo_edit 23 = .ok (.aload_n 0, 1) := by decide +kernel
theorem d_Mo_edit_24 : decode c_Mo_edit 24 = .ok (.getfield 172, 3) := by decide +kernel
theorem d_Mo_edit_27 : decode c_Mo_edit 27 = .ok (.iconst 1, 1) := by decide +kernel
theorem d_Mo_edit_28 : decode c_Mo_edit 28 = .ok (.isub, 1) := by decide +kernel
theorem d_Mo_edit_29 : decode c_Mo_edit 29 = .ok (.iload_n 1, 1) := by decide +kernel
theorem d_Mo_edit_30 : decode c_Mo_edit 30 = .ok (.isub, 1) := by decide +kernel
theorem d_Mo_edit_31 : decode c_Mo_edit 31 = .ok (.caload, 1) := by decide +kernel
theorem d_Mo_edit_32 : decode c_Mo_edit 32 = .ok (.goto 4, 3) := by decide +kernel
theorem d_Mo_edit_35 : decode c_Mo_edit 35 = .ok (.iconst (-1), 1) := by decide +kernel
theorem d_Mo_edit_36 : decode c_Mo_edit 36 = .ok (.ireturn, 1) := by decide +kernel
theorem d_Mo_leaves_0 : decode c_Mo_leaves 0 = .ok (.aload_n 0, 1) := by decide +kernel
theorem d_Mo_leaves_1 : decode c_Mo_leaves 1 = .ok (.aload_n 0, 1) := by decide +kernel
theorem d_Mo_leaves_2 : decode c_Mo_leaves 2 = .ok (.iload_n 1, 1) := by decide +kernel
theorem d_Mo_leaves_3 : decode c_Mo_leaves 3 = .ok (.invokevirtual 193, 3) := by decide +kernel
theorem d_Mo_leaves_6 : decode c_Mo_leaves 6 = .ok (.invokevirtual 152, 3) := by decide +kernel
theorem d_Mo_leaves_9 : decode c_Mo_leaves 9 = .ok (.ireturn, 1) := by decide +kernel
theorem d_Mo_sides_0 : decode c_Mo_sides 0 = .ok (.iconst 1, 1) := by decide +kernel
theorem d_Mo_sides_1 : decode c_Mo_sides 1 = .ok (.istore_n 1, 1) := by decide +kernel
theorem d_Mo_sides_2 : decode c_Mo_sides 2 = .ok (.iconst 0, 1) := by decide +kernel
theorem d_Mo_sides_3 : decode c_Mo_sides 3 = .ok (.istore_n 2, 1) := by decide +kernel
theorem d_Mo_sides_4 : decode c_Mo_sides 4 = .ok (.iload_n 2, 1) := by decide +kernel
theorem d_Mo_sides_5 : decode c_Mo_sides 5 = .ok (.iconst 1, 1) := by decide +kernel
theorem d_Mo_sides_6 : decode c_Mo_sides 6 = .ok (.iadd, 1) := by decide +kernel
theorem d_Mo_sides_7 : decode c_Mo_sides 7 = .ok (.aload_n 0, 1) := by decide +kernel
theorem d_Mo_sides_8 : decode c_Mo_sides 8 = .ok (.getfield 175, 3) := by decide +kernel
theorem d_Mo_sides_11 : decode c_Mo_sides 11 = .ok (.if_icmp .ge 25, 3) := by decide +kernel
theorem d_Mo_sides_14 : decode c_Mo_sides 14 = .ok (.iload_n 1, 1) := by decide +kernel
theorem d_Mo_sides_15 : decode c_Mo_sides 15 = .ok (.aload_n 0, 1) := by decide +kernel
theorem d_Mo_sides_16 : decode c_Mo_sides 16 = .ok (.iload_n 2, 1) := by decide +kernel
theorem d_Mo_sides_17 : decode c_Mo_sides 17 = .ok (.invokevirtual 196, 3) := by decide +kernel
theorem d_Mo_sides_20 : decode c_Mo_sides 20 = .ok (.ifCond .eq 7, 3) := by decide +kernel
theorem d_Mo_sides_23 : decode c_Mo_sides 23 = .ok (.iconst 1, 1) := by decide +kernel
theorem d_Mo_sides_24 : decode c_Mo_sides 24 = .ok (.goto 4, 3) := by decide +kernel
theorem d_Mo_sides_27 : decode c_Mo_sides 27 = .ok (.iconst 0, 1) := by decide +kernel
theorem d_Mo_sides_28 : decode c_Mo_sides 28 = .ok (.iadd, 1) := by decide +kernel
theorem d_Mo_sides_29 : decode c_Mo_sides 29 = .ok (.istore_n 1, 1) := by decide +kernel
theorem d_Mo_sides_30 : decode c_Mo_sides 30 = .ok (.iinc 2 1, 3) := by decide +kernel
theorem d_Mo_sides_33 : decode c_Mo_sides 33 = .ok (.goto (-29), 3) := by decide +kernel
theorem d_Mo_sides_36 : decode c_Mo_sides 36 = .ok (.iload_n 1, 1) := by decide +kernel
