theorem d_Mo_linked_83 : decode c_Mo_linked 83 = .ok (.istore 4, 2) := by decide +kernel
theorem d_Mo_linked_85 : decode c_Mo_linked 85 = .ok (.iinc 5 1, 3) := by decide +kernel
theorem d_Mo_linked_88 : decode c_Mo_linked 88 = .ok (.goto (-79), 3) := by decide +kernel
theorem d_Mo_linked_91 : decode c_Mo_linked 91 = .ok (.iload 4, 2) := by decide +kernel
theorem d_Mo_linked_93 : decode c_Mo_linked 93 = .ok (.ireturn, 1) := by decide +kernel
theorem d_Mo_linkLine_0 : decode c_Mo_linkLine 0 = .ok (.bipush 9, 2) := by decide +kernel
theorem d_Mo_linkLine_2 : decode c_Mo_linkLine 2 = .ok (.istore_n 1, 1) := by decide +kernel
theorem d_Mo_linkLine_3 : decode c_Mo_linkLine 3 = .ok (.aload_n 0, 1) := by decide +kernel
theorem d_Mo_linkLine_4 : decode c_Mo_linkLine 4 = .ok (.bipush 76, 2) := by decide +kernel
theorem d_Mo_linkLine_6 : decode c_Mo_linkLine 6 = .ok (.invokevirtual 94, 3) := by decide +kernel
theorem d_Mo_linkLine_9 : decode c_Mo_linkLine 9 = .ok (.ifCond .eq 11, 3) := by decide +kernel
theorem d_Mo_linkLine_12 : decode c_Mo_linkLine 12 = .ok (.aload_n 0, 1) := by decide +kernel
theorem d_Mo_linkLine_13 : decode c_Mo_linkLine 13 = .ok (.iload_n 1, 1) := by decide +kernel
theorem d_Mo_linkLine_14 : decode c_Mo_linkLine 14 = .ok (.invokevirtual 94, 3) := by decide +kernel
theorem d_Mo_linkLine_17 : decode c_Mo_linkLine 17 = .ok (.ifCond .ne 5, 3) := by decide +kernel
theorem d_Mo_linkLine_20 : decode c_Mo_linkLine 20 = .ok (.iconst 0, 1) := by decide +kernel
theorem d_Mo_linkLine_21 : decode c_Mo_linkLine 21 = .ok (.ireturn, 1) := by decide +kernel
theorem d_Mo_linkLine_22 : decode c_Mo_linkLine 22 = .ok (.aload_n 0, 1) := by decide +kernel
theorem d_Mo_linkLine_23 : decode c_Mo_linkLine 23 = .ok (.iconst 1, 1) := by decide +kernel
theorem d_Mo_linkLine_24 : decode c_Mo_linkLine 24 = .ok (.invokevirtual 111, 3) := by decide +kernel
theorem d_Mo_linkLine_27 : decode c_Mo_linkLine 27 = .ok (.istore_n 2, 1) := by decide +kernel
theorem d_Mo_linkLine_28 : decode c_Mo_linkLine 28 = .ok (.iload_n 2, 1) := by decide +kernel
theorem d_Mo_linkLine_29 : decode c_Mo_linkLine 29 = .ok (.ifCond .lt 11, 3) := by decide +kernel
theorem d_Mo_linkLine_32 : decode c_Mo_linkLine 32 = .ok (.aload_n 0, 1) := by decide +kernel
theorem d_Mo_linkLine_33 : decode c_Mo_linkLine 33 = .ok (.iload_n 1, 1) := by decide +kernel
theorem d_Mo_linkLine_34 : decode c_Mo_linkLine 34 = .ok (.invokevirtual 94, 3) := by decide +kernel
theorem d_Mo_linkLine_37 : decode c_Mo_linkLine 37 = .ok (.ifCond .ne 5, 3) := by decide +kernel
theorem d_Mo_linkLine_40 : decode c_Mo_linkLine 40 = .ok (.iconst 0, 1) := by decide +kernel
theorem d_Mo_linkLine_41 : decode c_Mo_linkLine 41 = .ok (.ireturn, 1) := by decide +kernel
theorem d_Mo_linkLine_42 : decode c_Mo_linkLine 42 = .ok (.aload_n 0, 1) := by decide +kernel
theorem d_Mo_linkLine_43 : decode c_Mo_linkLine 43 = .ok (.iconst 1, 1) := by decide +kernel
theorem d_Mo_linkLine_44 : decode c_Mo_linkLine 44 = .ok (.invokevirtual 111, 3) := by decide +kernel
theorem d_Mo_linkLine_47 : decode c_Mo_linkLine 47 = .ok (.istore_n 3, 1) := by decide +kernel
theorem d_Mo_linkLine_48 : decode c_Mo_linkLine 48 = .ok (.iload_n 3, 1) := by decide +kernel
theorem d_Mo_linkLine_49 : decode c_Mo_linkLine 49 = .ok (.ifCond .lt 61, 3) := by decide +kernel
theorem d_Mo_linkLine_52 : decode c_Mo_linkLine 52 = .ok (.aload_n 0, 1) := by decide +kernel
theorem d_Mo_linkLine_53 : decode c_Mo_linkLine 53 = .ok (.iload_n 1, 1) := by decide +kernel
theorem d_Mo_linkLine_54 : decode c_Mo_linkLine 54 = .ok (.invokevirtual 94, 3) := by decide +kernel
theorem d_Mo_linkLine_57 : decode c_Mo_linkLine 57 = .ok (.ifCond .eq 53, 3) := by decide +kernel
theorem d_Mo_linkLine_60 : decode c_Mo_linkLine 60 = .ok (.aload_n 0, 1) := by decide +kernel
theorem d_Mo_linkLine_61 : decode c_Mo_linkLine 61 = .ok (.bipush 48, 2) := by decide +kernel
theorem d_Mo_linkLine_63 : decode c_Mo_linkLine 63 = .ok (.invokevirtual 94, 3) := by decide +kernel
theorem d_Mo_linkLine_66 : decode c_Mo_linkLine 66 = .ok (.ifCond .eq 44, 3) := by decide +kernel
theorem d_Mo_linkLine_69 : decode c_Mo_linkLine 69 = .ok (.aload_n 0, 1) := by decide +kernel
theorem d_Mo_linkLine_70 : decode c_Mo_linkLine 70 = .ok (.bipush 77, 2) := by decide +kernel
theorem d_Mo_linkLine_72 : decode c_Mo_linkLine 72 = .ok (.invokevirtual 94, 3) := by decide +kernel
theorem d_Mo_linkLine_75 : decode c_Mo_linkLine 75 = .ok (.ifCond .eq 35, 3) := by decide +kernel
theorem d_Mo_linkLine_78 : decode c_Mo_linkLine 78 = .ok (.aload_n 0, 1) := by decide +kernel
theorem d_Mo_linkLine_79 : decode c_Mo_linkLine 79 = .ok (.getfield 78, 3) := by decide +kernel
theorem d_Mo_linkLine_82 : decode c_Mo_linkLine 82 = .ok (.aload_n 0, 1) := by decide +kernel
theorem d_Mo_linkLine_83 : decode c_Mo_linkLine 83 = .ok (.getfield 81, 3) := by decide +kernel
theorem d_Mo_linkLine_86 : decode c_Mo_linkLine 86 = .ok (.if_icmp .ne 24, 3) := by decide +kernel
theorem d_Mo_linkLine_89 : decode c_Mo_linkLine 89 = .ok (.aload_n 0, 1) := by decide +kernel
theorem d_Mo_linkLine_90 : decode c_Mo_linkLine 90 = .ok (.iconst 1, 1) := by decide +kernel
theorem d_Mo_linkLine_91 : decode c_Mo_linkLine 91 = .ok (.iload_n 2, 1) := by decide +kernel
theorem d_Mo_linkLine_92 : decode c_Mo_linkLine 92 = .ok (.iload_n 3, 1) := by decide +kernel
theorem d_Mo_linkLine_93 : decode c_Mo_linkLine 93 = .ok (.invokevirtual 115, 3) := by decide +kernel
theorem d_Mo_linkLine_96 : decode c_Mo_linkLine 96 = .ok (.ifCond .ne 14, 3) := by decide +kernel
theorem d_Mo_linkLine_99 : decode c_Mo_linkLine 99 = .ok (.aload_n 0, 1) := by decide +kernel
theorem d_Mo_linkLine_100 : decode c_Mo_linkLine 100 = .ok (.getfield 29, 3) := by decide +kernel
theorem d_Mo_linkLine_103 : decode c_Mo_linkLine 103 = .ok (.iconst 1, 1) := by decide +kernel
theorem d_Mo_linkLine_104 : decode c_Mo_linkLine 104 = .ok (.iaload, 1) := by decide +kernel
theorem d_Mo_linkLine_105 : decode c_Mo_linkLine 105 = .ok (.bipush 12, 2) := by decide +kernel
theorem d_Mo_linkLine_107 : decode c_Mo_linkLine 107 = .ok (.if_icmp .ne 5, 3) := by decide +kernel
theorem d_Mo_linkLine_110 : decode c_Mo_linkLine 110 = .ok (.iconst 0, 1) := by decide +kernel
theorem d_Mo_linkLine_111 : decode c_Mo_linkLine 111 = .ok (.ireturn, 1) := by decide +kernel
theorem d_Mo_linkLine_112 : decode c_Mo_linkLine 112 = .ok (.aload_n 0, 1) := by decide +kernel
theorem d_Mo_linkLine_113 : decode c_Mo_linkLine 113 = .ok (.getfield 32, 3) := by decide +kernel
theorem d_Mo_linkLine_116 : decode c_Mo_linkLine 116 = .ok (.bipush 12, 2) := by decide +kernel
theorem d_Mo_linkLine_118 : decode c_Mo_linkLine 118 = .ok (.aload_n 0, 1) := by decide +kernel
theorem d_Mo_linkLine_119 : decode c_Mo_linkLine 119 = .ok (.getfield 29, 3) := by decide +kernel
theorem d_Mo_linkLine_122 : decode c_Mo_linkLine 122 = .ok (.iconst 1, 1) := by decide +kernel
theorem d_Mo_linkLine_123 : decode c_Mo_linkLine 123 = .ok (.iaload, 1) := by decide +kernel
theorem d_Mo_linkLine_124 : decode c_Mo_linkLine 124 = .ok (.iadd, 1) := by decide +kernel
theorem d_Mo_linkLine_125 : decode c_Mo_linkLine 125 = .ok (.iload_n 2, 1) := by decide +kernel
theorem d_Mo_linkLine_126 : decode c_Mo_linkLine 126 = .ok (.iastore, 1) := by decide +kernel
theorem d_Mo_linkLine_127 : decode c_Mo_linkLine 127 = .ok (.aload_n 0, 1) := by decide +kernel
theorem d_Mo_linkLine_128 : decode c_Mo_linkLine 128 = .ok (.getfield 35, 3) := by decide +kernel
theorem d_Mo_linkLine_131 : decode c_Mo_linkLine 131 = .ok (.bipush 12, 2) := by decide +kernel
theorem d_Mo_linkLine_133 : decode c_Mo_linkLine 133 = .ok (.aload_n 0, 1) := by decide +kernel
theorem d_Mo_linkLine_134 : decode c_Mo_linkLine 134 = .ok (.getfield 29, 3) := by decide +kernel
theorem d_Mo_linkLine_137 : decode c_Mo_linkLine 137 = .ok (.iconst 1, 1) := by decide +kernel
theorem d_Mo_linkLine_138 : decode c_Mo_linkLine 138 = .ok (.iaload, 1) := by decide +kernel
theorem d_Mo_linkLine_139 : decode c_Mo_linkLine 139 = .ok (.iadd, 1) := by decide +kernel
theorem d_Mo_linkLine_140 : decode c_Mo_linkLine 140 = .ok (.iload_n 3, 1) := by decide +kernel
theorem d_Mo_linkLine_141 : decode c_Mo_linkLine 141 = .ok (.iastore, 1) := by decide +kernel
theorem d_Mo_linkLine_142 : decode c_Mo_linkLine 142 = .ok (.aload_n 0, 1) := by decide +kernel
theorem d_Mo_linkLine_143 : decode c_Mo_linkLine 143 = .ok (.getfield 29, 3) := by decide +kernel
theorem d_Mo_linkLine_146 : decode c_Mo_linkLine 146 = .ok (.iconst 1, 1) := by decide +kernel
theorem d_Mo_linkLine_147 : decode c_Mo_linkLine 147 = .ok (.dup2, 1) := by decide +kernel
theorem d_Mo_linkLine_148 : decode c_Mo_linkLine 148 = .ok (.iaload, 1) := by decide +kernel
theorem d_Mo_linkLine_149 : decode c_Mo_linkLine 149 = .ok (.iconst 1, 1) := by decide +kernel
theorem d_Mo_linkLine_150 : decode c_Mo_linkLine 150 = .ok (.iadd, 1) := by decide +kernel
theorem d_Mo_linkLine_151 : decode c_Mo_linkLine 151 = .ok (.iastore, 1) := by decide +kernel
theorem d_Mo_linkLine_152 : decode c_Mo_linkLine 152 = .ok (.iconst 1, 1) := by decide +kernel
theorem d_Mo_linkLine_153 : decode c_Mo_linkLine 153 = .ok (.ireturn, 1) := by decide +kernel
theorem d_Mo_titled_0 : decode c_Mo_titled 0 = .ok (.iconst 0, 1) := by decide +kernel
theorem d_Mo_titled_1 : decode c_Mo_titled 1 = .ok (.istore_n 1, 1) := by decide +kernel
theorem d_Mo_titled_2 : decode c_Mo_titled 2 = .ok (.iload_n 1, 1) := by decide +kernel
theorem d_Mo_titled_3 : decode c_Mo_titled 3 = .ok (.aload_n 0, 1) := by decide +kernel
theorem d_Mo_titled_4 : decode c_Mo_titled 4 = .ok (.getfield 38, 3) := by decide +kernel
theorem d_Mo_titled_7 : decode c_Mo_titled 7 = .ok (.iconst 1, 1) := by decide +kernel
theorem d_Mo_titled_8 : decode c_Mo_titled 8 = .ok (.iaload, 1) := by decide +kernel
theorem d_Mo_titled_9 : decode c_Mo_titled 9 = .ok (.if_icmp .ge 89, 3) := by decide +kernel
theorem d_Mo_titled_12 : decode c_Mo_titled 12 = .ok (.aload_n 0, 1) := by decide +kernel
theorem d_Mo_titled_13 : decode c_Mo_titled 13 = .ok (.getfield 44, 3) := by decide +kernel
theorem d_Mo_titled_16 : decode c_Mo_titled 16 = .ok (.iconst 4, 1) := by decide +kernel
theorem d_Mo_titled_17 : decode c_Mo_titled 17 = .ok (.iload_n 1, 1) := by decide +kernel
theorem d_Mo_titled_18 : decode c_Mo_titled 18 = .ok (.iadd, 1) := by decide +kernel
theorem d_Mo_titled_19 : decode c_Mo_titled 19 = .ok (.iaload, 1) := by decide +kernel
theorem d_Mo_titled_20 : decode c_Mo_titled 20 = .ok (.aload_n 0, 1) := by decide +kernel
theorem d_Mo_titled_21 : decode c_Mo_titled 21 = .ok (.getfield 91, 3) := by decide +kernel
theorem d_Mo_titled_24 : decode c_Mo_titled 24 = .ok (.if_icmp .ne 7, 3) := by decide +kernel
theorem d_Mo_titled_27 : decode c_Mo_titled 27 = .ok (.iconst 1, 1) := by decide +kernel
theorem d_Mo_titled_28 : decode c_Mo_titled 28 = .ok (.goto 4, 3) := by decide +kernel
theorem d_Mo_titled_31 : decode c_Mo_titled 31 = .ok (.iconst 0, 1) := by decide +kernel
theorem d_Mo_titled_32 : decode c_Mo_titled 32 = .ok (.istore_n 2, 1) := by decide +kernel
theorem d_Mo_titled_33 : decode c_Mo_titled 33 = .ok (.iconst 0, 1) := by decide +kernel
theorem d_Mo_titled_34 : decode c_Mo_titled 34 = .ok (.istore_n 3, 1) := by decide +kernel
theorem d_Mo_titled_35 : decode c_Mo_titled 35 = .ok (.iload_n 3, 1) := by decide +kernel
theorem d_Mo_titled_36 : decode c_Mo_titled 36 = .ok (.aload_n 0, 1) := by decide +kernel
theorem d_Mo_titled_37 : decode c_Mo_titled 37 = .ok (.getfield 91, 3) := by decide +kernel
theorem d_Mo_titled_40 : decode c_Mo_titled 40 = .ok (.if_icmp .ge 46, 3) := by decide +kernel
theorem d_Mo_titled_43 : decode c_Mo_titled 43 = .ok (.iload_n 2, 1) := by decide +kernel
theorem d_Mo_titled_44 : decode c_Mo_titled 44 = .ok (.ifCond .eq 42, 3) := by decide +kernel
theorem d_Mo_titled_47 : decode c_Mo_titled 47 = .ok (.aload_n 0, 1) := by decide +kernel
theorem d_Mo_titled_48 : decode c_Mo_titled 48 = .ok (.getfield 41, 3) := by decide +kernel
theorem d_Mo_titled_51 : decode c_Mo_titled 51 = .ok (.bipush 12, 2) := by decide +kernel
theorem d_Mo_titled_53 : decode c_Mo_titled 53 = .ok (.iconst 3, 1) := by decide +kernel
theorem d_Mo_titled_54 : decode c_Mo_titled 54 = .ok (.iload_n 1, 1) := by decide +kernel
theorem d_Mo_titled_55 : decode c_Mo_titled 55 = .ok (.imul, 1) := by decide +kernel
theorem d_Mo_titled_56 : decode c_Mo_titled 56 = .ok (.iadd, 1) := by decide +kernel
theorem d_Mo_titled_57 : decode c_Mo_titled 57 = .ok (.iload_n 3, 1) := by decide +kernel
theorem d_Mo_titled_58 : decode c_Mo_titled 58 = .ok (.iadd, 1) := by decide +kernel
theorem d_Mo_titled_59 : decode c_Mo_titled 59 = .ok (.caload, 1) := by decide +kernel
theorem d_Mo_titled_60 : decode c_Mo_titled 60 = .ok (.aload_n 0, 1) := by decide +kernel
theorem d_Mo_titled_61 : decode c_Mo_titled 61 = .ok (.getfield 7, 3) := by decide +kernel
theorem d_Mo_titled_64 : decode c_Mo_titled 64 = .ok (.aload_n 0, 1) := by decide +kernel
theorem d_Mo_titled_65 : decode c_Mo_titled 65 = .ok (.getfield 84, 3) := by decide +kernel
theorem d_Mo_titled_68 : decode c_Mo_titled 68 = .ok (.iload_n 3, 1) := by decide +kernel
theorem d_Mo_titled_69 : decode c_Mo_titled 69 = .ok (.iadd, 1) := by decide +kernel
theorem d_Mo_titled_70 : decode c_Mo_titled 70 = .ok (.caload, 1) := by decide +kernel
theorem d_Mo_titled_71 : decode c_Mo_titled 71 = .ok (.if_icmp .ne 7, 3) := by decide +kernel
theorem d_Mo_titled_74 : decode c_Mo_titled 74 = .ok (.iconst 1, 1) := by decide +kernel
theorem d_Mo_titled_75 : decode c_Mo_titled 75 = .ok (.goto 4, 3) := by decide +kernel
theorem d_Mo_titled_78 : decode c_Mo_titled 78 = .ok (.iconst 0, 1) := by decide +kernel
theorem d_Mo_titled_79 : decode c_Mo_titled 79 = .ok (.istore_n 2, 1) := by decide +kernel
theorem d_Mo_titled_80 : decode c_Mo_titled 80 = .ok (.iinc 3 1, 3) := by decide +kernel
theorem d_Mo_titled_83 : decode c_Mo_titled 83 = .ok (.goto (-48), 3) := by decide +kernel
theorem d_Mo_titled_86 : decode c_Mo_titled 86 = .ok (.iload_n 2, 1) := by decide +kernel
theorem d_Mo_titled_87 : decode c_Mo_titled 87 = .ok (.ifCond .eq 5, 3) := by decide +kernel
theorem d_Mo_titled_90 : decode c_Mo_titled 90 = .ok (.iconst 1, 1) := by decide +kernel
theorem d_Mo_titled_91 : decode c_Mo_titled 91 = .ok (.ireturn, 1) := by decide +kernel
theorem d_Mo_titled_92 : decode c_Mo_titled 92 = .ok (.iinc 1 1, 3) := by decide +kernel
theorem d_Mo_titled_95 : decode c_Mo_titled 95 = .ok (.goto (-93), 3) := by decide +kernel
theorem d_Mo_titled_98 : decode c_Mo_titled 98 = .ok (.iconst 0, 1) := by decide +kernel
theorem d_Mo_titled_99 : decode c_Mo_titled 99 = .ok (.ireturn, 1) := by decide +kernel
theorem d_Mo_pathLine_0 : decode c_Mo_pathLine 0 = .ok (.bipush 9, 2) := by decide +kernel
theorem d_Mo_pathLine_2 : decode c_Mo_pathLine 2 = .ok (.istore_n 1, 1) := by decide +kernel
theorem d_Mo_pathLine_3 : decode c_Mo_pathLine 3 = .ok (.aload_n 0, 1) := by decide +kernel
theorem d_Mo_pathLine_4 : decode c_Mo_pathLine 4 = .ok (.bipush 80, 2) := by decide +kernel
theorem d_Mo_pathLine_6 : decode c_Mo_pathLine 6 = .ok (.invokevirtual 94, 3) := by decide +kernel
theorem d_Mo_pathLine_9 : decode c_Mo_pathLine 9 = .ok (.ifCond .eq 35, 3) := by decide +kernel
theorem d_Mo_pathLine_12 : decode c_Mo_pathLine 12 = .ok (.aload_n 0, 1) := by decide +kernel
theorem d_Mo_pathLine_13 : decode c_Mo_pathLine 13 = .ok (.iload_n 1, 1) := by decide +kernel
theorem d_Mo_pathLine_14 : decode c_Mo_pathLine 14 = .ok (.invokevirtual 94, 3) := by decide +kernel
theorem d_Mo_pathLine_17 : decode c_Mo_pathLine 17 = .ok (.ifCond .eq 27, 3) := by decide +kernel
theorem d_Mo_pathLine_20 : decode c_Mo_pathLine 20 = .ok (.aload_n 0, 1) := by decide +kernel
theorem d_Mo_pathLine_21 : decode c_Mo_pathLine 21 = .ok (.invokevirtual 97, 3) := by decide +kernel
theorem d_Mo_pathLine_24 : decode c_Mo_pathLine 24 = .ok (.ifCond .eq 20, 3) := by decide +kernel
theorem d_Mo_pathLine_27 : decode c_Mo_pathLine 27 = .ok (.aload_n 0, 1) := by decide +kernel
theorem d_Mo_pathLine_28 : decode c_Mo_pathLine 28 = .ok (.invokevirtual 119, 3) := by decide +kernel
theorem d_Mo_pathLine_31 : decode c_Mo_pathLine 31 = .ok (.ifCond .ne 13, 3) := by decide +kernel
theorem d_Mo_pathLine_34 : decode c_Mo_pathLine 34 = .ok (.aload_n 0, 1) := by decide +kernel
theorem d_Mo_pathLine_35 : decode c_Mo_pathLine 35 = .ok (.getfield 38, 3) := by decide +kernel
theorem d_Mo_pathLine_38 : decode c_Mo_pathLine 38 = .ok (.iconst 1, 1) := by decide +kernel
theorem d_Mo_pathLine_39 : decode c_Mo_pathLine 39 = .ok (.iaload, 1) := by decide +kernel
theorem d_Mo_pathLine_40 : decode c_Mo_pathLine 40 = .ok (.iconst 4, 1) := by decide +kernel
theorem d_Mo_pathLine_41 : decode c_Mo_pathLine 41 = .ok (.if_icmp .ne 5, 3) := by decide +kernel
theorem d_Mo_pathLine_44 : decode c_Mo_pathLine 44 = .ok (.iconst 0, 1) := by decide +kernel
theorem d_Mo_pathLine_45 : decode c_Mo_pathLine 45 = .ok (.ireturn, 1) := by decide +kernel
theorem d_Mo_pathLine_46 : decode c_Mo_pathLine 46 = .ok (.aload_n 0, 1) := by decide +kernel
theorem d_Mo_pathLine_47 : decode c_Mo_pathLine 47 = .ok (.getfield 38, 3) := by decide +kernel
theorem d_Mo_pathLine_50 : decode c_Mo_pathLine 50 = .ok (.iconst 1, 1) := by decide +kernel
theorem d_Mo_pathLine_51 : decode c_Mo_pathLine 51 = .ok (.iaload, 1) := by decide +kernel
theorem d_Mo_pathLine_52 : decode c_Mo_pathLine 52 = .ok (.istore_n 2, 1) := by decide +kernel
theorem d_Mo_pathLine_53 : decode c_Mo_pathLine 53 = .ok (.iconst 0, 1) := by decide +kernel
theorem d_Mo_pathLine_54 : decode c_Mo_pathLine 54 = .ok (.istore_n 3, 1) := by decide +kernel
theorem d_Mo_pathLine_55 : decode c_Mo_pathLine 55 = .ok (.iload_n 3, 1) := by decide +kernel
theorem d_Mo_pathLine_56 : decode c_Mo_pathLine 56 = .ok (.aload_n 0, 1) := by decide +kernel
theorem d_Mo_pathLine_57 : decode c_Mo_pathLine 57 = .ok (.getfield 91, 3) := by decide +kernel
theorem d_Mo_pathLine_60 : decode c_Mo_pathLine 60 = .ok (.if_icmp .ge 33, 3) := by decide +kernel
theorem d_Mo_pathLine_63 : decode c_Mo_pathLine 63 = .ok (.aload_n 0, 1) := by decide +kernel
theorem d_Mo_pathLine_64 : decode c_Mo_pathLine 64 = .ok (.getfield 41, 3) := by decide +kernel
theorem d_Mo_pathLine_67 : decode c_Mo_pathLine 67 = .ok (.bipush 12, 2) := by decide +kernel
theorem d_Mo_pathLine_69 : decode c_Mo_pathLine 69 = .ok (.iconst 3, 1) := by decide +kernel
theorem d_Mo_pathLine_70 : decode c_Mo_pathLine 70 = .ok (.iload_n 2, 1) := by decide +kernel
theorem d_Mo_pathLine_71 : decode c_Mo_pathLine 71 = .ok (.imul, 1) := by decide +kernel
theorem d_Mo_pathLine_72 : decode c_Mo_pathLine 72 = .ok (.iadd, 1) := by decide +kernel
theorem d_Mo_pathLine_73 : decode c_Mo_pathLine 73 = .ok (.iload_n 3, 1) := by decide +kernel
theorem d_Mo_pathLine_74 : decode c_Mo_pathLine 74 = .ok (.iadd, 1) := by decide +kernel
theorem d_Mo_pathLine_75 : decode c_Mo_pathLine 75 = .ok (.aload_n 0, 1) := by decide +kernel
theorem d_Mo_pathLine_76 : decode c_Mo_pathLine 76 = .ok (.getfield 7, 3) := by decide +kernel
theorem d_Mo_pathLine_79 : decode c_Mo_pathLine 79 = .ok (.aload_n 0, 1) := by decide +kernel
theorem d_Mo_pathLine_80 : decode c_Mo_pathLine 80 = .ok (.getfield 84, 3) := by decide +kernel
theorem d_Mo_pathLine_83 : decode c_Mo_pathLine 83 = .ok (.iload_n 3, 1) := by decide +kernel
theorem d_Mo_pathLine_84 : decode c_Mo_pathLine 84 = .ok (.iadd, 1) := by decide +kernel
theorem d_Mo_pathLine_85 : decode c_Mo_pathLine 85 = .ok (.caload, 1) := by decide +kernel
theorem d_Mo_pathLine_86 : decode c_Mo_pathLine 86 = .ok (.castore, 1) := by decide +kernel
theorem d_Mo_pathLine_87 : decode c_Mo_pathLine 87 = .ok (.iinc 3 1, 3) := by decide +kernel
theorem d_Mo_pathLine_90 : decode c_Mo_pathLine 90 = .ok (.goto (-35), 3) := by decide +kernel
theorem d_Mo_pathLine_93 : decode c_Mo_pathLine 93 = .ok (.aload_n 0, 1) := by decide +kernel
theorem d_Mo_pathLine_94 : decode c_Mo_pathLine 94 = .ok (.getfield 44, 3) := by decide +kernel
theorem d_Mo_pathLine_97 : decode c_Mo_pathLine 97 = .ok (.iconst 4, 1) := by decide +kernel
theorem d_Mo_pathLine_98 : decode c_Mo_pathLine 98 = .ok (.iload_n 2, 1) := by decide +kernel
theorem d_Mo_pathLine_99 : decode c_Mo_pathLine 99 = .ok (.iadd, 1) := by decide +kernel
theorem d_Mo_pathLine_100 : decode c_Mo_pathLine 100 = .ok (.aload_n 0, 1) := by decide +kernel
theorem d_Mo_pathLine_101 : decode c_Mo_pathLine 101 = .ok (.getfield 91, 3) := by decide +kernel
theorem d_Mo_pathLine_104 : decode c_Mo_pathLine 104 = .ok (.iastore, 1) := by decide +kernel
theorem d_Mo_pathLine_105 : decode c_Mo_pathLine 105 = .ok (.aload_n 0, 1) := by decide +kernel
theorem d_Mo_pathLine_106 : decode c_Mo_pathLine 106 = .ok (.iload_n 1, 1) := by decide +kernel
theorem d_Mo_pathLine_107 : decode c_Mo_pathLine 107 = .ok (.invokevirtual 94, 3) := by decide +kernel
theorem d_Mo_pathLine_110 : decode c_Mo_pathLine 110 = .ok (.ifCond .ne 5, 3) := by decide +kernel
theorem d_Mo_pathLine_113 : decode c_Mo_pathLine 113 = .ok (.iconst 0, 1) := by decide +kernel
theorem d_Mo_pathLine_114 : decode c_Mo_pathLine 114 = .ok (.ireturn, 1) := by decide +kernel
theorem d_Mo_pathLine_115 : decode c_Mo_pathLine 115 = .ok (.iconst 0, 1) := by decide +kernel
theorem d_Mo_pathLine_116 : decode c_Mo_pathLine 116 = .ok (.istore_n 3, 1) := by decide +kernel
theorem d_Mo_pathLine_117 : decode c_Mo_pathLine 117 = .ok (.iconst 1, 1) := by decide +kernel
theorem d_Mo_pathLine_118 : decode c_Mo_pathLine 118 = .ok (.istore 4, 2) := by decide +kernel
theorem d_Mo_pathLine_120 : decode c_Mo_pathLine 120 = .ok (.iload 4, 2) := by decide +kernel
theorem d_Mo_pathLine_122 : decode c_Mo_pathLine 122 = .ok (.ifCond .eq 83, 3) := by decide +kernel
theorem d_Mo_pathLine_125 : decode c_Mo_pathLine 125 = .ok (.aload_n 0, 1) := by decide +kernel
theorem d_Mo_pathLine_126 : decode c_Mo_pathLine 126 = .ok (.iconst 0, 1) := by decide +kernel
theorem d_Mo_pathLine_127 : decode c_Mo_pathLine 127 = .ok (.invokevirtual 111, 3) := by decide +kernel
theorem d_Mo_pathLine_130 : decode c_Mo_pathLine 130 = .ok (.istore 5, 2) := by decide +kernel
theorem d_Mo_pathLine_132 : decode c_Mo_pathLine 132 = .ok (.iload 5, 2) := by decide +kernel
theorem d_Mo_pathLine_134 : decode c_Mo_pathLine 134 = .ok (.ifCond .lt 39, 3) := by decide +kernel
theorem d_Mo_pathLine_137 : decode c_Mo_pathLine 137 = .ok (.iload_n 3, 1) := by decide +kernel
theorem d_Mo_pathLine_138 : decode c_Mo_pathLine 138 = .ok (.bipush 8, 2) := by decide +kernel
theorem d_Mo_pathLine_140 : decode c_Mo_pathLine 140 = .ok (.if_icmp .eq 33, 3) := by decide +kernel
theorem d_Mo_pathLine_143 : decode c_Mo_pathLine 143 = .ok (.iload_n 3, 1) := by decide +kernel
theorem d_Mo_pathLine_144 : decode c_Mo_pathLine 144 = .ok (.ifCond .le 31, 3) := by decide +kernel
theorem d_Mo_pathLine_147 : decode c_Mo_pathLine 147 = .ok (.aload_n 0, 1) := by decide +kernel
theorem d_Mo_pathLine_148 : decode c_Mo_pathLine 148 = .ok (.iconst 1, 1) := by decide +kernel
theorem d_Mo_pathLine_149 : decode c_Mo_pathLine 149 = .ok (.aload_n 0, 1) := by decide +kernel
theorem d_Mo_pathLine_150 : decode c_Mo_pathLine 150 = .ok (.getfield 50, 3) := by decide +kernel
theorem d_Mo_pathLine_153 : decode c_Mo_pathLine 153 = .ok (.bipush 32, 2) := by decide +kernel
theorem d_Mo_pathLine_155 : decode c_Mo_pathLine 155 = .ok (.bipush 8, 2) := by decide +kernel
theorem d_Mo_pathLine_157 : decode c_Mo_pathLine 157 = .ok (.iload_n 2, 1) := by decide +kernel
theorem d_Mo_pathLine_158 : decode c_Mo_pathLine 158 = .ok (.imul, 1) := by decide +kernel
theorem d_Mo_pathLine_159 : decode c_Mo_pathLine 159 = .ok (.iadd, 1) := by decide +kernel
theorem d_Mo_pathLine_160 : decode c_Mo_pathLine 160 = .ok (.iload_n 3, 1) := by decide +kernel
theorem d_Mo_pathLine_161 : decode c_Mo_pathLine 161 = .ok (.iadd, 1) := by decide +kernel
theorem d_Mo_pathLine_162 : decode c_Mo_pathLine 162 = .ok (.iconst 1, 1) := by decide +kernel
theorem d_Mo_pathLine_163 : decode c_Mo_pathLine 163 = .ok (.isub, 1) := by decide +kernel
theorem d_Mo_pathLine_164 : decode c_Mo_pathLine 164 = .ok (.iaload, 1) := by decide +kernel
theorem d_Mo_pathLine_165 : decode c_Mo_pathLine 165 = .ok (.iload 5, 2) := by decide +kernel
theorem d_Mo_pathLine_167 : decode c_Mo_pathLine 167 = .ok (.invokevirtual 115, 3) := by decide +kernel
theorem d_Mo_pathLine_170 : decode c_Mo_pathLine 170 = .ok (.ifCond .ne 5, 3) := by decide +kernel
theorem d_Mo_pathLine_173 : decode c_Mo_pathLine 173 = .ok (.iconst 0, 1) := by decide +kernel
theorem d_Mo_pathLine_174 : decode c_Mo_pathLine 174 = .ok (.ireturn, 1) := by decide +kernel
theorem d_Mo_pathLine_175 : decode c_Mo_pathLine 175 = .ok (.aload_n 0, 1) := by decide +kernel
theorem d_Mo_pathLine_176 : decode c_Mo_pathLine 176 = .ok (.getfield 50, 3) := by decide +kernel
theorem d_Mo_pathLine_179 : decode c_Mo_pathLine 179 = .ok (.bipush 32, 2) := by decide +kernel
theorem d_Mo_pathLine_181 : decode c_Mo_pathLine 181 = .ok (.bipush 8, 2) := by decide +kernel
theorem d_Mo_pathLine_183 : decode c_Mo_pathLine 183 = .ok (.iload_n 2, 1) := by decide +kernel
theorem d_Mo_pathLine_184 : decode c_Mo_pathLine 184 = .ok (.imul, 1) := by decide +kernel
theorem d_Mo_pathLine_185 : decode c_Mo_pathLine 185 = .ok (.iadd, 1) := by decide +kernel
theorem d_Mo_pathLine_186 : decode c_Mo_pathLine 186 = .ok (.iload_n 3, 1) := by decide +kernel
theorem d_Mo_pathLine_187 : decode c_Mo_pathLine 187 = .ok (.iadd, 1) := by decide +kernel
theorem d_Mo_pathLine_188 : decode c_Mo_pathLine 188 = .ok (.iload 5, 2) := by decide +kernel
theorem d_Mo_pathLine_190 : decode c_Mo_pathLine 190 = .ok (.iastore, 1) := by decide +kernel
theorem d_Mo_pathLine_191 : decode c_Mo_pathLine 191 = .ok (.iinc 3 1, 3) := by decide +kernel
theorem d_Mo_pathLine_194 : decode c_Mo_pathLine 194 = .ok (.aload_n 0, 1) := by decide +kernel
theorem d_Mo_pathLine_195 : decode c_Mo_pathLine 195 = .ok (.bipush 44, 2) := by decide +kernel
theorem d_Mo_pathLine_197 : decode c_Mo_pathLine 197 = .ok (.invokevirtual 94, 3) := by decide +kernel
theorem d_Mo_pathLine_200 : decode c_Mo_pathLine 200 = .ok (.istore 4, 2) := by decide +kernel
theorem d_Mo_pathLine_202 : decode c_Mo_pathLine 202 = .ok (.goto (-82), 3) := by decide +kernel
theorem d_Mo_pathLine_205 : decode c_Mo_pathLine 205 = .ok (.aload_n 0, 1) := by decide +kernel
theorem d_Mo_pathLine_206 : decode c_Mo_pathLine 206 = .ok (.iload_n 1, 1) := by decide +kernel
theorem d_Mo_pathLine_207 : decode c_Mo_pathLine 207 = .ok (.invokevirtual 94, 3) := by decide +kernel
theorem d_Mo_pathLine_210 : decode c_Mo_pathLine 210 = .ok (.ifCond .eq 23, 3) := by decide +kernel
theorem d_Mo_pathLine_213 : decode c_Mo_pathLine 213 = .ok (.aload_n 0, 1) := by decide +kernel
theorem d_Mo_pathLine_214 : decode c_Mo_pathLine 214 = .ok (.bipush 42, 2) := by decide +kernel
theorem d_Mo_pathLine_216 : decode c_Mo_pathLine 216 = .ok (.invokevirtual 94, 3) := by decide +kernel
theorem d_Mo_pathLine_219 : decode c_Mo_pathLine 219 = .ok (.ifCond .eq 14, 3) := by decide +kernel
theorem d_Mo_pathLine_222 : decode c_Mo_pathLine 222 = .ok (.aload_n 0, 1) := by decide +kernel
theorem d_Mo_pathLine_223 : decode c_Mo_pathLine 223 = .ok (.getfield 78, 3) := by decide +kernel
theorem d_Mo_pathLine_226 : decode c_Mo_pathLine 226 = .ok (.aload_n 0, 1) := by decide +kernel
theorem d_Mo_pathLine_227 : decode c_Mo_pathLine 227 = .ok (.getfield 81, 3) := by decide +kernel
theorem d_Mo_pathLine_230 : decode c_Mo_pathLine 230 = .ok (.if_icmp .eq 5, 3) := by decide +kernel
theorem d_Mo_pathLine_233 : decode c_Mo_pathLine 233 = .ok (.iconst 0, 1) := by decide +kernel
theorem d_Mo_pathLine_234 : decode c_Mo_pathLine 234 = .ok (.ireturn, 1) := by decide +kernel
theorem d_Mo_pathLine_235 : decode c_Mo_pathLine 235 = .ok (.aload_n 0, 1) := by decide +kernel
theorem d_Mo_pathLine_236 : decode c_Mo_pathLine 236 = .ok (.getfield 47, 3) := by decide +kernel
theorem d_Mo_pathLine_239 : decode c_Mo_pathLine 239 = .ok (.iconst 4, 1) := by decide +kernel
theorem d_Mo_pathLine_240 : decode c_Mo_pathLine 240 = .ok (.iload_n 2, 1) := by decide +kernel
theorem d_Mo_pathLine_241 : decode c_Mo_pathLine 241 = .ok (.iadd, 1) := by decide +kernel
theorem d_Mo_pathLine_242 : decode c_Mo_pathLine 242 = .ok (.iload_n 3, 1) := by decide +kernel
theorem d_Mo_pathLine_243 : decode c_Mo_pathLine 243 = .ok (.iastore, 1) := by decide +kernel
theorem d_Mo_pathLine_244 : decode c_Mo_pathLine 244 = .ok (.aload_n 0, 1) := by decide +kernel
theorem d_Mo_pathLine_245 : decode c_Mo_pathLine 245 = .ok (.getfield 38, 3) := by decide +kernel
theorem d_Mo_pathLine_248 : decode c_Mo_pathLine 248 = .ok (.iconst 1, 1) := by decide +kernel
theorem d_Mo_pathLine_249 : decode c_Mo_pathLine 249 = .ok (.dup2, 1) := by decide +kernel
theorem d_Mo_pathLine_250 : decode c_Mo_pathLine 250 = .ok (.iaload, 1) := by decide +kernel
theorem d_Mo_pathLine_251 : decode c_Mo_pathLine 251 = .ok (.iconst 1, 1) := by decide +kernel
theorem d_Mo_pathLine_252 : decode c_Mo_pathLine 252 = .ok (.iadd, 1) := by decide +kernel
theorem d_Mo_pathLine_253 : decode c_Mo_pathLine 253 = .ok (.iastore, 1) := by decide +kernel
theorem d_Mo_pathLine_254 : decode c_Mo_pathLine 254 = .ok (.iconst 1, 1) := by decide +kernel
theorem d_Mo_pathLine_255 : decode c_Mo_pathLine 255 = .ok (.ireturn, 1) := by decide +kernel
theorem d_Mo_line_0 : decode c_Mo_line 0 = .ok (.aload_n 0, 1) := by decide +kernel
theorem d_Mo_line_1 : decode c_Mo_line 1 = .ok (.getfield 78, 3) := by decide +kernel
theorem d_Mo_line_4 : decode c_Mo_line 4 = .ok (.aload_n 0, 1) := by decide +kernel
theorem d_Mo_line_5 : decode c_Mo_line 5 = .ok (.getfield 81, 3) := by decide +kernel
theorem d_Mo_line_8 : decode c_Mo_line 8 = .ok (.if_icmp .lt 5, 3) := by decide +kernel
theorem d_Mo_line_11 : decode c_Mo_line 11 = .ok (.iconst 0, 1) := by decide +kernel
theorem d_Mo_line_12 : decode c_Mo_line 12 = .ok (.ireturn, 1) := by decide +kernel
theorem d_Mo_line_13 : decode c_Mo_line 13 = .ok (.aload_n 0, 1) := by decide +kernel
theorem d_Mo_line_14 : decode c_Mo_line 14 = .ok (.getfield 7, 3) := by decide +kernel
theorem d_Mo_line_17 : decode c_Mo_line 17 = .ok (.aload_n 0, 1) := by decide +kernel
theorem d_Mo_line_18 : decode c_Mo_line 18 = .ok (.getfield 78, 3) := by decide +kernel
theorem d_Mo_line_21 : decode c_Mo_line 21 = .ok (.caload, 1) := by decide +kernel
theorem d_Mo_line_22 : decode c_Mo_line 22 = .ok (.istore_n 1, 1) := by decide +kernel
theorem d_Mo_line_23 : decode c_Mo_line 23 = .ok (.iload_n 1, 1) := by decide +kernel
theorem d_Mo_line_24 : decode c_Mo_line 24 = .ok (.bipush 72, 2) := by decide +kernel
theorem d_Mo_line_26 : decode c_Mo_line 26 = .ok (.if_icmp .eq 42, 3) := by decide +kernel
theorem d_Mo_line_29 : decode c_Mo_line 29 = .ok (.iload_n 1, 1) := by decide +kernel
theorem d_Mo_line_30 : decode c_Mo_line 30 = .ok (.bipush 83, 2) := by decide +kernel
theorem d_Mo_line_32 : decode c_Mo_line 32 = .ok (.if_icmp .ne 10, 3) := by decide +kernel
theorem d_Mo_line_35 : decode c_Mo_line 35 = .ok (.aload_n 0, 1) := by decide +kernel
theorem d_Mo_line_36 : decode c_Mo_line 36 = .ok (.invokevirtual 122, 3) := by decide +kernel
theorem d_Mo_line_39 : decode c_Mo_line 39 = .ok (.ifCond .ne 29, 3) := by decide +kernel
theorem d_Mo_line_42 : decode c_Mo_line 42 = .ok (.iload_n 1, 1) := by decide +kernel
theorem d_Mo_line_43 : decode c_Mo_line 43 = .ok (.bipush 76, 2) := by decide +kernel
theorem d_Mo_line_45 : decode c_Mo_line 45 = .ok (.if_icmp .ne 10, 3) := by decide +kernel
theorem d_Mo_line_48 : decode c_Mo_line 48 = .ok (.aload_n 0, 1) := by decide +kernel
theorem d_Mo_line_49 : decode c_Mo_line 49 = .ok (.invokevirtual 125, 3) := by decide +kernel
theorem d_Mo_line_52 : decode c_Mo_line 52 = .ok (.ifCond .ne 16, 3) := by decide +kernel
theorem d_Mo_line_55 : decode c_Mo_line 55 = .ok (.iload_n 1, 1) := by decide +kernel
theorem d_Mo_line_56 : decode c_Mo_line 56 = .ok (.bipush 80, 2) := by decide +kernel
theorem d_Mo_line_58 : decode c_Mo_line 58 = .ok (.if_icmp .ne 14, 3) := by decide +kernel
theorem d_Mo_line_61 : decode c_Mo_line 61 = .ok (.aload_n 0, 1) := by decide +kernel
theorem d_Mo_line_62 : decode c_Mo_line 62 = .ok (.invokevirtual 128, 3) := by decide +kernel
theorem d_Mo_line_65 : decode c_Mo_line 65 = .ok (.ifCond .eq 7, 3) := by decide +kernel
theorem d_Mo_line_68 : decode c_Mo_line 68 = .ok (.iconst 1, 1) := by decide +kernel
theorem d_Mo_line_69 : decode c_Mo_line 69 = .ok (.goto 4, 3) := by decide +kernel
theorem d_Mo_line_72 : decode c_Mo_line 72 = .ok (.iconst 0, 1) := by decide +kernel
theorem d_Mo_line_73 : decode c_Mo_line 73 = .ok (.ireturn, 1) := by decide +kernel
theorem d_Mo_adopt_0 : decode c_Mo_adopt 0 = .ok (.aload_n 0, 1) := by decide +kernel
theorem d_Mo_adopt_1 : decode c_Mo_adopt 1 = .ok (.getfield 13, 3) := by decide +kernel
theorem d_Mo_adopt_4 : decode c_Mo_adopt 4 = .ok (.iconst 0, 1) := by decide +kernel
theorem d_Mo_adopt_5 : decode c_Mo_adopt 5 = .ok (.aload_n 0, 1) := by decide +kernel
theorem d_Mo_adopt_6 : decode c_Mo_adopt 6 = .ok (.getfield 13, 3) := by decide +kernel
theorem d_Mo_adopt_9 : decode c_Mo_adopt 9 = .ok (.iconst 1, 1) := by decide +kernel
theorem d_Mo_adopt_10 : decode c_Mo_adopt 10 = .ok (.iaload, 1) := by decide +kernel
theorem d_Mo_adopt_11 : decode c_Mo_adopt 11 = .ok (.iastore, 1) := by decide +kernel
theorem d_Mo_adopt_12 : decode c_Mo_adopt 12 = .ok (.aload_n 0, 1) := by decide +kernel
theorem d_Mo_adopt_13 : decode c_Mo_adopt 13 = .ok (.getfield 29, 3) := by decide +kernel
theorem d_Mo_adopt_16 : decode c_Mo_adopt 16 = .ok (.iconst 0, 1) := by decide +kernel
theorem d_Mo_adopt_17 : decode c_Mo_adopt 17 = .ok (.aload_n 0, 1) := by decide +kernel
theorem d_Mo_adopt_18 : decode c_Mo_adopt 18 = .ok (.getfield 29, 3) := by decide +kernel
theorem d_Mo_adopt_21 : decode c_Mo_adopt 21 = .ok (.iconst 1, 1) := by decide +kernel
theorem d_Mo_adopt_22 : decode c_Mo_adopt 22 = .ok (.iaload, 1) := by decide +kernel
theorem d_Mo_adopt_23 : decode c_Mo_adopt 23 = .ok (.iastore, 1) := by decide +kernel
theorem d_Mo_adopt_24 : decode c_Mo_adopt 24 = .ok (.aload_n 0, 1) := by decide +kernel
theorem d_Mo_adopt_25 : decode c_Mo_adopt 25 = .ok (.getfield 38, 3) := by decide +kernel
theorem d_Mo_adopt_28 : decode c_Mo_adopt 28 = .ok (.iconst 0, 1) := by decide +kernel
theorem d_Mo_adopt_29 : decode c_Mo_adopt 29 = .ok (.aload_n 0, 1) := by decide +kernel
theorem d_Mo_adopt_30 : decode c_Mo_adopt 30 = .ok (.getfield 38, 3) := by decide +kernel
theorem d_Mo_adopt_33 : decode c_Mo_adopt 33 = .ok (.iconst 1, 1) := by decide +kernel
theorem d_Mo_adopt_34 : decode c_Mo_adopt 34 = .ok (.iaload, 1) := by decide +kernel
theorem d_Mo_adopt_35 : decode c_Mo_adopt 35 = .ok (.iastore, 1) := by decide +kernel
theorem d_Mo_adopt_36 : decode c_Mo_adopt 36 = .ok (.iconst 0, 1) := by decide +kernel
theorem d_Mo_adopt_37 : decode c_Mo_adopt 37 = .ok (.istore_n 1, 1) := by decide +kernel
theorem d_Mo_adopt_38 : decode c_Mo_adopt 38 = .ok (.iload_n 1, 1) := by decide +kernel
theorem d_Mo_adopt_39 : decode c_Mo_adopt 39 = .ok (.bipush 24, 2) := by decide +kernel
theorem d_Mo_adopt_41 : decode c_Mo_adopt 41 = .ok (.if_icmp .ge 24, 3) := by decide +kernel
theorem d_Mo_adopt_44 : decode c_Mo_adopt 44 = .ok (.aload_n 0, 1) := by decide +kernel
theorem d_Mo_adopt_45 : decode c_Mo_adopt 45 = .ok (.getfield 17, 3) := by decide +kernel
theorem d_Mo_adopt_48 : decode c_Mo_adopt 48 = .ok (.iload_n 1, 1) := by decide +kernel
theorem d_Mo_adopt_49 : decode c_Mo_adopt 49 = .ok (.aload_n 0, 1) := by decide +kernel
theorem d_Mo_adopt_50 : decode c_Mo_adopt 50 = .ok (.getfield 17, 3) := by decide +kernel
theorem d_Mo_adopt_53 : decode c_Mo_adopt 53 = .ok (.bipush 24, 2) := by decide +kernel
theorem d_Mo_adopt_55 : decode c_Mo_adopt 55 = .ok (.iload_n 1, 1) := by decide +kernel
theorem d_Mo_adopt_56 : decode c_Mo_adopt 56 = .ok (.iadd, 1) := by decide +kernel
theorem d_Mo_adopt_57 : decode c_Mo_adopt 57 = .ok (.caload, 1) := by decide +kernel
theorem d_Mo_adopt_58 : decode c_Mo_adopt 58 = .ok (.castore, 1) := by decide +kernel
theorem d_Mo_adopt_59 : decode c_Mo_adopt 59 = .ok (.iinc 1 1, 3) := by decide +kernel
theorem d_Mo_adopt_62 : decode c_Mo_adopt 62 = .ok (.goto (-24), 3) := by decide +kernel
theorem d_Mo_adopt_65 : decode c_Mo_adopt 65 = .ok (.iconst 0, 1) := by decide +kernel
theorem d_Mo_adopt_66 : decode c_Mo_adopt 66 = .ok (.istore_n 1, 1) := by decide +kernel
theorem d_Mo_adopt_67 : decode c_Mo_adopt 67 = .ok (.iload_n 1, 1) := by decide +kernel
theorem d_Mo_adopt_68 : decode c_Mo_adopt 68 = .ok (.bipush 8, 2) := by decide +kernel
theorem d_Mo_adopt_70 : decode c_Mo_adopt 70 = .ok (.if_icmp .ge 39, 3) := by decide +kernel
theorem d_Mo_adopt_73 : decode c_Mo_adopt 73 = .ok (.aload_n 0, 1) := by decide +kernel
theorem d_Mo_adopt_74 : decode c_Mo_adopt 74 = .ok (.getfield 20, 3) := by decide +kernel
theorem d_Mo_adopt_77 : decode c_Mo_adopt 77 = .ok (.iload_n 1, 1) := by decide +kernel
theorem d_Mo_adopt_78 : decode c_Mo_adopt 78 = .ok (.aload_n 0, 1) := by decide +kernel
theorem d_Mo_adopt_79 : decode c_Mo_adopt 79 = .ok (.getfield 20, 3) := by decide +kernel
theorem d_Mo_adopt_82 : decode c_Mo_adopt 82 = .ok (.bipush 8, 2) := by decide +kernel
theorem d_Mo_adopt_84 : decode c_Mo_adopt 84 = .ok (.iload_n 1, 1) := by decide +kernel
theorem d_Mo_adopt_85 : decode c_Mo_adopt 85 = .ok (.iadd, 1) := by decide +kernel
theorem d_Mo_adopt_86 : decode c_Mo_adopt 86 = .ok (.iaload, 1) := by decide +kernel
theorem d_Mo_adopt_87 : decode c_Mo_adopt 87 = .ok (.iastore, 1) := by decide +kernel
theorem d_Mo_adopt_88 : decode c_Mo_adopt 88 = .ok (.aload_n 0, 1) := by decide +kernel
theorem d_Mo_adopt_89 : decode c_Mo_adopt 89 = .ok (.getfield 26, 3) := by decide +kernel
theorem d_Mo_adopt_92 : decode c_Mo_adopt 92 = .ok (.iload_n 1, 1) := by decide +kernel
theorem d_Mo_adopt_93 : decode c_Mo_adopt 93 = .ok (.aload_n 0, 1) := by decide +kernel
theorem d_Mo_adopt_94 : decode c_Mo_adopt 94 = .ok (.getfield 26, 3) := by decide +kernel
theorem d_Mo_adopt_97 : decode c_Mo_adopt 97 = .ok (.bipush 8, 2) := by decide +kernel
theorem d_Mo_adopt_99 : decode c_Mo_adopt 99 = .ok (.iload_n 1, 1) := by decide +kernel
theorem d_Mo_adopt_100 : decode c_Mo_adopt 100 = .ok (.iadd, 1) := by decide +kernel
theorem d_Mo_adopt_101 : decode c_Mo_adopt 101 = .ok (.iaload, 1) := by decide +kernel
theorem d_Mo_adopt_102 : decode c_Mo_adopt 102 = .ok (.iastore, 1) := by decide +kernel
theorem d_Mo_adopt_103 : decode c_Mo_adopt 103 = .ok (.iinc 1 1, 3) := by decide +kernel
theorem d_Mo_adopt_106 : decode c_Mo_adopt 106 = .ok (.goto (-39), 3) := by decide +kernel
theorem d_Mo_adopt_109 : decode c_Mo_adopt 109 = .ok (.iconst 0, 1) := by decide +kernel
theorem d_Mo_adopt_110 : decode c_Mo_adopt 110 = .ok (.istore_n 1, 1) := by decide +kernel
theorem d_Mo_adopt_111 : decode c_Mo_adopt 111 = .ok (.iload_n 1, 1) := by decide +kernel
theorem d_Mo_adopt_112 : decode c_Mo_adopt 112 = .ok (.bipush 32, 2) := by decide +kernel
theorem d_Mo_adopt_114 : decode c_Mo_adopt 114 = .ok (.if_icmp .ge 39, 3) := by decide +kernel
theorem d_Mo_adopt_117 : decode c_Mo_adopt 117 = .ok (.aload_n 0, 1) := by decide +kernel
theorem d_Mo_adopt_118 : decode c_Mo_adopt 118 = .ok (.getfield 23, 3) := by decide +kernel
theorem d_Mo_adopt_121 : decode c_Mo_adopt 121 = .ok (.iload_n 1, 1) := by decide +kernel
theorem d_Mo_adopt_122 : decode c_Mo_adopt 122 = .ok (.aload_n 0, 1) := by decide +kernel
theorem d_Mo_adopt_123 : decode c_Mo_adopt 123 = .ok (.getfield 23, 3) := by decide +kernel
theorem d_Mo_adopt_126 : decode c_Mo_adopt 126 = .ok (.bipush 32, 2) := by decide +kernel
theorem d_Mo_adopt_128 : decode c_Mo_adopt 128 = .ok (.iload_n 1, 1) := by decide +kernel
theorem d_Mo_adopt_129 : decode c_Mo_adopt 129 = .ok (.iadd, 1) := by decide +kernel
theorem d_Mo_adopt_130 : decode c_Mo_adopt 130 = .ok (.caload, 1) := by decide +kernel
theorem d_Mo_adopt_131 : decode c_Mo_adopt 131 = .ok (.castore, 1) := by decide +kernel
theorem d_Mo_adopt_132 : decode c_Mo_adopt 132 = .ok (.aload_n 0, 1) := by decide +kernel
theorem d_Mo_adopt_133 : decode c_Mo_adopt 133 = .ok (.getfield 50, 3) := by decide +kernel
theorem d_Mo_adopt_136 : decode c_Mo_adopt 136 = .ok (.iload_n 1, 1) := by decide +kernel
theorem d_Mo_adopt_137 : decode c_Mo_adopt 137 = .ok (.aload_n 0, 1) := by decide +kernel
theorem d_Mo_adopt_138 : decode c_Mo_adopt 138 = .ok (.getfield 50, 3) := by decide +kernel
theorem d_Mo_adopt_141 : decode c_Mo_adopt 141 = .ok (.bipush 32, 2) := by decide +kernel
theorem d_Mo_adopt_143 : decode c_Mo_adopt 143 = .ok (.iload_n 1, 1) := by decide +kernel
theorem d_Mo_adopt_144 : decode c_Mo_adopt 144 = .ok (.iadd, 1) := by decide +kernel
theorem d_Mo_adopt_145 : decode c_Mo_adopt 145 = .ok (.iaload, 1) := by decide +kernel
theorem d_Mo_adopt_146 : decode c_Mo_adopt 146 = .ok (.iastore, 1) := by decide +kernel
theorem d_Mo_adopt_147 : decode c_Mo_adopt 147 = .ok (.iinc 1 1, 3) := by decide +kernel
theorem d_Mo_adopt_150 : decode c_Mo_adopt 150 = .ok (.goto (-39), 3) := by decide +kernel
theorem d_Mo_adopt_153 : decode c_Mo_adopt 153 = .ok (.iconst 0, 1) := by decide +kernel
theorem d_Mo_adopt_154 : decode c_Mo_adopt 154 = .ok (.istore_n 1, 1) := by decide +kernel
theorem d_Mo_adopt_155 : decode c_Mo_adopt 155 = .ok (.iload_n 1, 1) := by decide +kernel
theorem d_Mo_adopt_156 : decode c_Mo_adopt 156 = .ok (.bipush 12, 2) := by decide +kernel
theorem d_Mo_adopt_158 : decode c_Mo_adopt 158 = .ok (.if_icmp .ge 39, 3) := by decide +kernel
theorem d_Mo_adopt_161 : decode c_Mo_adopt 161 = .ok (.aload_n 0, 1) := by decide +kernel
theorem d_Mo_adopt_162 : decode c_Mo_adopt 162 = .ok (.getfield 32, 3) := by decide +kernel
theorem d_Mo_adopt_165 : decode c_Mo_adopt 165 = .ok (.iload_n 1, 1) := by decide +kernel
theorem d_Mo_adopt_166 : decode c_Mo_adopt 166 = .ok (.aload_n 0, 1) := by decide +kernel
theorem d_Mo_adopt_167 : decode c_Mo_adopt 167 = .ok (.getfield 32, 3) := by decide +kernel
theorem d_Mo_adopt_170 : decode c_Mo_adopt 170 = .ok (.bipush 12, 2) := by decide +kernel
theorem d_Mo_adopt_172 : decode c_Mo_adopt 172 = .ok (.iload_n 1, 1) := by decide +kernel
theorem d_Mo_adopt_173 : decode c_Mo_adopt 173 = .ok (.iadd, 1) := by decide +kernel
theorem d_Mo_adopt_174 : decode c_Mo_adopt 174 = .ok (.iaload, 1) := by decide +kernel
theorem d_Mo_adopt_175 : decode c_Mo_adopt 175 = .ok (.iastore, 1) := by decide +kernel
theorem d_Mo_adopt_176 : decode c_Mo_adopt 176 = .ok (.aload_n 0, 1) := by decide +kernel
theorem d_Mo_adopt_177 : decode c_Mo_adopt 177 = .ok (.getfield 35, 3) := by decide +kernel
theorem d_Mo_adopt_180 : decode c_Mo_adopt 180 = .ok (.iload_n 1, 1) := by decide +kernel
theorem d_Mo_adopt_181 : decode c_Mo_adopt 181 = .ok (.aload_n 0, 1) := by decide +kernel
theorem d_Mo_adopt_182 : decode c_Mo_adopt 182 = .ok (.getfield 35, 3) := by decide +kernel
theorem d_Mo_adopt_185 : decode c_Mo_adopt 185 = .ok (.bipush 12, 2) := by decide +kernel
theorem d_Mo_adopt_187 : decode c_Mo_adopt 187 = .ok (.iload_n 1, 1) := by decide +kernel
theorem d_Mo_adopt_188 : decode c_Mo_adopt 188 = .ok (.iadd, 1) := by decide +kernel
theorem d_Mo_adopt_189 : decode c_Mo_adopt 189 = .ok (.iaload, 1) := by decide +kernel
theorem d_Mo_adopt_190 : decode c_Mo_adopt 190 = .ok (.iastore, 1) := by decide +kernel
theorem d_Mo_adopt_191 : decode c_Mo_adopt 191 = .ok (.iinc 1 1, 3) := by decide +kernel
theorem d_Mo_adopt_194 : decode c_Mo_adopt 194 = .ok (.goto (-39), 3) := by decide +kernel
theorem d_Mo_adopt_197 : decode c_Mo_adopt 197 = .ok (.iconst 0, 1) := by decide +kernel
theorem d_Mo_adopt_198 : decode c_Mo_adopt 198 = .ok (.istore_n 1, 1) := by decide +kernel
theorem d_Mo_adopt_199 : decode c_Mo_adopt 199 = .ok (.iload_n 1, 1) := by decide +kernel
theorem d_Mo_adopt_200 : decode c_Mo_adopt 200 = .ok (.iconst 4, 1) := by decide +kernel
theorem d_Mo_adopt_201 : decode c_Mo_adopt 201 = .ok (.if_icmp .ge 23, 3) := by decide +kernel
theorem d_Mo_adopt_204 : decode c_Mo_adopt 204 = .ok (.aload_n 0, 1) := by decide +kernel
theorem d_Mo_adopt_205 : decode c_Mo_adopt 205 = .ok (.getfield 47, 3) := by decide +kernel
theorem d_Mo_adopt_208 : decode c_Mo_adopt 208 = .ok (.iload_n 1, 1) := by decide +kernel
theorem d_Mo_adopt_209 : decode c_Mo_adopt 209 = .ok (.aload_n 0, 1) := by decide +kernel
theorem d_Mo_adopt_210 : decode c_Mo_adopt 210 = .ok (.getfield 47, 3) := by decide +kernel
theorem d_Mo_adopt_213 : decode c_Mo_adopt 213 = .ok (.iconst 4, 1) := by decide +kernel
theorem d_Mo_adopt_214 : decode c_Mo_adopt 214 = .ok (.iload_n 1, 1) := by decide +kernel
theorem d_Mo_adopt_215 : decode c_Mo_adopt 215 = .ok (.iadd, 1) := by decide +kernel
theorem d_Mo_adopt_216 : decode c_Mo_adopt 216 = .ok (.iaload, 1) := by decide +kernel
theorem d_Mo_adopt_217 : decode c_Mo_adopt 217 = .ok (.iastore, 1) := by decide +kernel
theorem d_Mo_adopt_218 : decode c_Mo_adopt 218 = .ok (.iinc 1 1, 3) := by decide +kernel
theorem d_Mo_adopt_221 : decode c_Mo_adopt 221 = .ok (.goto (-22), 3) := by decide +kernel
theorem d_Mo_adopt_224 : decode c_Mo_adopt 224 = .ok (.aload_n 0, 1) := by decide +kernel
theorem d_Mo_adopt_225 : decode c_Mo_adopt 225 = .ok (.iconst 0, 1) := by decide +kernel
theorem d_Mo_adopt_226 : decode c_Mo_adopt 226 = .ok (.putfield 137, 3) := by decide +kernel
theorem d_Mo_adopt_229 : decode c_Mo_adopt 229 = .ok (.aload_n 0, 1) := by decide +kernel
theorem d_Mo_adopt_230 : decode c_Mo_adopt 230 = .ok (.iconst 0, 1) := by decide +kernel
theorem d_Mo_adopt_231 : decode c_Mo_adopt 231 = .ok (.putfield 141, 3) := by decide +kernel
theorem d_Mo_adopt_234 : decode c_Mo_adopt 234 = .ok (.iconst 0, 1) := by decide +kernel
theorem d_Mo_adopt_235 : decode c_Mo_adopt 235 = .ok (.istore_n 1, 1) := by decide +kernel
theorem d_Mo_adopt_236 : decode c_Mo_adopt 236 = .ok (.iload_n 1, 1) := by decide +kernel
theorem d_Mo_adopt_237 : decode c_Mo_adopt 237 = .ok (.iconst 2, 1) := by decide +kernel
theorem d_Mo_adopt_238 : decode c_Mo_adopt 238 = .ok (.aload_n 0, 1) := by decide +kernel
theorem d_Mo_adopt_239 : decode c_Mo_adopt 239 = .ok (.getfield 13, 3) := by decide +kernel
theorem d_Mo_adopt_242 : decode c_Mo_adopt 242 = .ok (.iconst 0, 1) := by decide +kernel
theorem d_Mo_adopt_243 : decode c_Mo_adopt 243 = .ok (.iaload, 1) := by decide +kernel
theorem d_Mo_adopt_244 : decode c_Mo_adopt 244 = .ok (.imul, 1) := by decide +kernel
theorem d_Mo_adopt_245 : decode c_Mo_adopt 245 = .ok (.if_icmp .ge 59, 3) := by decide +kernel
theorem d_Mo_adopt_248 : decode c_Mo_adopt 248 = .ok (.iconst 0, 1) := by decide +kernel
theorem d_Mo_adopt_249 : decode c_Mo_adopt 249 = .ok (.istore_n 2, 1) := by decide +kernel
theorem d_Mo_adopt_250 : decode c_Mo_adopt 250 = .ok (.iload_n 2, 1) := by decide +kernel
theorem d_Mo_adopt_251 : decode c_Mo_adopt 251 = .ok (.aload_n 0, 1) := by decide +kernel
theorem d_Mo_adopt_252 : decode c_Mo_adopt 252 = .ok (.getfield 26, 3) := by decide +kernel
theorem d_Mo_adopt_255 : decode c_Mo_adopt 255 = .ok (.iload_n 1, 1) := by decide +kernel
theorem d_Mo_adopt_256 : decode c_Mo_adopt 256 = .ok (.iconst 2, 1) := by decide +kernel
theorem d_Mo_adopt_257 : decode c_Mo_adopt 257 = .ok (.idiv, 1) := by decide +kernel
theorem d_Mo_adopt_258 : decode c_Mo_adopt 258 = .ok (.iaload, 1) := by decide +kernel
theorem d_Mo_adopt_259 : decode c_Mo_adopt 259 = .ok (.if_icmp .ge 39, 3) := by decide +kernel
theorem d_Mo_adopt_262 : decode c_Mo_adopt 262 = .ok (.aload_n 0, 1) := by decide +kernel
theorem d_Mo_adopt_263 : decode c_Mo_adopt 263 = .ok (.getfield 53, 3) := by decide +kernel
theorem d_Mo_adopt_266 : decode c_Mo_adopt 266 = .ok (.aload_n 0, 1) := by decide +kernel
theorem d_Mo_adopt_267 : decode c_Mo_adopt 267 = .ok (.getfield 141, 3) := by decide +kernel
theorem d_Mo_adopt_270 : decode c_Mo_adopt 270 = .ok (.iload_n 1, 1) := by decide +kernel
theorem d_Mo_adopt_271 : decode c_Mo_adopt 271 = .ok (.iastore, 1) := by decide +kernel
theorem d_Mo_adopt_272 : decode c_Mo_adopt 272 = .ok (.aload_n 0, 1) := by decide +kernel
theorem d_Mo_adopt_273 : decode c_Mo_adopt 273 = .ok (.getfield 56, 3) := by decide +kernel
theorem d_Mo_adopt_276 : decode c_Mo_adopt 276 = .ok (.aload_n 0, 1) := by decide +kernel
theorem d_Mo_adopt_277 : decode c_Mo_adopt 277 = .ok (.getfield 141, 3) := by decide +kernel
theorem d_Mo_adopt_280 : decode c_Mo_adopt 280 = .ok (.iload_n 2, 1) := by decide +kernel
theorem d_Mo_adopt_281 : decode c_Mo_adopt 281 = .ok (.iastore, 1) := by decide +kernel
theorem d_Mo_adopt_282 : decode c_Mo_adopt 282 = .ok (.aload_n 0, 1) := by decide +kernel
theorem d_Mo_adopt_283 : decode c_Mo_adopt 283 = .ok (.dup, 1) := by decide +kernel
theorem d_Mo_adopt_284 : decode c_Mo_adopt 284 = .ok (.getfield 141, 3) := by decide +kernel
theorem d_Mo_adopt_287 : decode c_Mo_adopt 287 = .ok (.iconst 1, 1) := by decide +kernel
theorem d_Mo_adopt_288 : decode c_Mo_adopt 288 = .ok (.iadd, 1) := by decide +kernel
theorem d_Mo_adopt_289 : decode c_Mo_adopt 289 = .ok (.putfield 141, 3) := by decide +kernel
theorem d_Mo_adopt_292 : decode c_Mo_adopt 292 = .ok (.iinc 2 1, 3) := by decide +kernel
theorem d_Mo_adopt_295 : decode c_Mo_adopt 295 = .ok (.goto (-45), 3) := by decide +kernel
theorem d_Mo_adopt_298 : decode c_Mo_adopt 298 = .ok (.iinc 1 1, 3) := by decide +kernel
theorem d_Mo_adopt_301 : decode c_Mo_adopt 301 = .ok (.goto (-65), 3) := by decide +kernel
theorem d_Mo_adopt_304 : decode c_Mo_adopt 304 = .ok (.return_, 1) := by decide +kernel
theorem d_Mo_load_0 : decode c_Mo_load 0 = .ok (.aload_n 0, 1) := by decide +kernel
theorem d_Mo_load_1 : decode c_Mo_load 1 = .ok (.getfield 13, 3) := by decide +kernel
theorem d_Mo_load_4 : decode c_Mo_load 4 = .ok (.iconst 1, 1) := by decide +kernel
theorem d_Mo_load_5 : decode c_Mo_load 5 = .ok (.iconst 0, 1) := by decide +kernel
theorem d_Mo_load_6 : decode c_Mo_load 6 = .ok (.iastore, 1) := by decide +kernel
theorem d_Mo_load_7 : decode c_Mo_load 7 = .ok (.aload_n 0, 1) := by decide +kernel
theorem d_Mo_load_8 : decode c_Mo_load 8 = .ok (.getfield 29, 3) := by decide +kernel
theorem d_Mo_load_11 : decode c_Mo_load 11 = .ok (.iconst 1, 1) := by decide +kernel
theorem d_Mo_load_12 : decode c_Mo_load 12 = .ok (.iconst 0, 1) := by decide +kernel
theorem d_Mo_load_13 : decode c_Mo_load 13 = .ok (.iastore, 1) := by decide +kernel
theorem d_Mo_load_14 : decode c_Mo_load 14 = .ok (.aload_n 0, 1) := by decide +kernel
theorem d_Mo_load_15 : decode c_Mo_load 15 = .ok (.getfield 38, 3) := by decide +kernel
theorem d_Mo_load_18 : decode c_Mo_load 18 = .ok (.iconst 1, 1) := by decide +kernel
theorem d_Mo_load_19 : decode c_Mo_load 19 = .ok (.iconst 0, 1) := by decide +kernel
theorem d_Mo_load_20 : decode c_Mo_load 20 = .ok (.iastore, 1) := by decide +kernel
theorem d_Mo_load_21 : decode c_Mo_load 21 = .ok (.iconst 1, 1) := by decide +kernel
theorem d_Mo_load_22 : decode c_Mo_load 22 = .ok (.istore_n 1, 1) := by decide +kernel
theorem d_Mo_load_23 : decode c_Mo_load 23 = .ok (.iconst 0, 1) := by decide +kernel
theorem d_Mo_load_24 : decode c_Mo_load 24 = .ok (.istore_n 2, 1) := by decide +kernel
theorem d_Mo_load_25 : decode c_Mo_load 25 = .ok (.iload_n 2, 1) := by decide +kernel
theorem d_Mo_load_26 : decode c_Mo_load 26 = .ok (.aload_n 0, 1) := by decide +kernel
theorem d_Mo_load_27 : decode c_Mo_load 27 = .ok (.getfield 74, 3) := by decide +kernel
theorem d_Mo_load_30 : decode c_Mo_load 30 = .ok (.if_icmp .ge 85, 3) := by decide +kernel
theorem d_Mo_load_33 : decode c_Mo_load 33 = .ok (.aload_n 0, 1) := by decide +kernel
theorem d_Mo_load_34 : decode c_Mo_load 34 = .ok (.iload_n 2, 1) := by decide +kernel
theorem d_Mo_load_35 : decode c_Mo_load 35 = .ok (.putfield 81, 3) := by decide +kernel
theorem d_Mo_load_38 : decode c_Mo_load 38 = .ok (.aload_n 0, 1) := by decide +kernel
theorem d_Mo_load_39 : decode c_Mo_load 39 = .ok (.getfield 81, 3) := by decide +kernel
theorem d_Mo_load_42 : decode c_Mo_load 42 = .ok (.aload_n 0, 1) := by decide +kernel
theorem d_Mo_load_43 : decode c_Mo_load 43 = .ok (.getfield 74, 3) := by decide +kernel
theorem d_Mo_load_46 : decode c_Mo_load 46 = .ok (.if_icmp .ge 30, 3) := by decide +kernel
theorem d_Mo_load_49 : decode c_Mo_load 49 = .ok (.aload_n 0, 1) := by decide +kernel
theorem d_Mo_load_50 : decode c_Mo_load 50 = .ok (.getfield 7, 3) := by decide +kernel
theorem d_Mo_load_53 : decode c_Mo_load 53 = .ok (.aload_n 0, 1) := by decide +kernel
theorem d_Mo_load_54 : decode c_Mo_load 54 = .ok (.getfield 81, 3) := by decide +kernel
theorem d_Mo_load_57 : decode c_Mo_load 57 = .ok (.caload, 1) := by decide +kernel
theorem d_Mo_load_58 : decode c_Mo_load 58 = .ok (.bipush 10, 2) := by decide +kernel
theorem d_Mo_load_60 : decode c_Mo_load 60 = .ok (.if_icmp .eq 16, 3) := by decide +kernel
theorem d_Mo_load_63 : decode c_Mo_load 63 = .ok (.aload_n 0, 1) := by decide +kernel
theorem d_Mo_load_64 : decode c_Mo_load 64 = .ok (.dup, 1) := by decide +kernel
theorem d_Mo_load_65 : decode c_Mo_load 65 = .ok (.getfield 81, 3) := by decide +kernel
theorem d_Mo_load_68 : decode c_Mo_load 68 = .ok (.iconst 1, 1) := by decide +kernel
theorem d_Mo_load_69 : decode c_Mo_load 69 = .ok (.iadd, 1) := by decide +kernel
theorem d_Mo_load_70 : decode c_Mo_load 70 = .ok (.putfield 81, 3) := by decide +kernel
theorem d_Mo_load_73 : decode c_Mo_load 73 = .ok (.goto (-35), 3) := by decide +kernel
theorem d_Mo_load_76 : decode c_Mo_load 76 = .ok (.aload_n 0, 1) := by decide +kernel
theorem d_Mo_load_77 : decode c_Mo_load 77 = .ok (.iload_n 2, 1) := by decide +kernel
theorem d_Mo_load_78 : decode c_Mo_load 78 = .ok (.putfield 78, 3) := by decide +kernel
theorem d_Mo_load_81 : decode c_Mo_load 81 = .ok (.aload_n 0, 1) := by decide +kernel
theorem d_Mo_load_82 : decode c_Mo_load 82 = .ok (.getfield 81, 3) := by decide +kernel
theorem d_Mo_load_85 : decode c_Mo_load 85 = .ok (.aload_n 0, 1) := by decide +kernel
theorem d_Mo_load_86 : decode c_Mo_load 86 = .ok (.getfield 74, 3) := by decide +kernel
theorem d_Mo_load_89 : decode c_Mo_load 89 = .ok (.if_icmp .eq 10, 3) := by decide +kernel
theorem d_Mo_load_92 : decode c_Mo_load 92 = .ok (.aload_n 0, 1) := by decide +kernel
theorem d_Mo_load_93 : decode c_Mo_load 93 = .ok (.invokevirtual 131, 3) := by decide +kernel
theorem d_Mo_load_96 : decode c_Mo_load 96 = .ok (.ifCond .ne 6, 3) := by decide +kernel
theorem d_Mo_load_99 : decode c_Mo_load 99 = .ok (.iload_n 1, 1) := by decide +kernel
theorem d_Mo_load_100 : decode c_Mo_load 100 = .ok (.ineg, 1) := by decide +kernel
theorem d_Mo_load_101 : decode c_Mo_load 101 = .ok (.ireturn, 1) := by decide +kernel
theorem d_Mo_load_102 : decode c_Mo_load 102 = .ok (.aload_n 0, 1) := by decide +kernel
theorem d_Mo_load_103 : decode c_Mo_load 103 = .ok (.getfield 81, 3) := by decide +kernel
theorem d_Mo_load_106 : decode c_Mo_load 106 = .ok (.iconst 1, 1) := by decide +kernel
theorem d_Mo_load_107 : decode c_Mo_load 107 = .ok (.iadd, 1) := by decide +kernel
theorem d_Mo_load_108 : decode c_Mo_load 108 = .ok (.istore_n 2, 1) := by decide +kernel
theorem d_Mo_load_109 : decode c_Mo_load 109 = .ok (.iinc 1 1, 3) := by decide +kernel
theorem d_Mo_load_112 : decode c_Mo_load 112 = .ok (.goto (-87), 3) := by decide +kernel
theorem d_Mo_load_115 : decode c_Mo_load 115 = .ok (.aload_n 0, 1) := by decide +kernel
theorem d_Mo_load_116 : decode c_Mo_load 116 = .ok (.invokevirtual 134, 3) := by decide +kernel
theorem d_Mo_load_119 : decode c_Mo_load 119 = .ok (.iconst 0, 1) := by decide +kernel
theorem d_Mo_load_120 : decode c_Mo_load 120 = .ok (.ireturn, 1) := by decide +kernel
theorem d_Mo_size_0 : decode c_Mo_size 0 = .ok (.iload_n 1, 1) := by decide +kernel
theorem d_Mo_size_1 : decode c_Mo_size 1 = .ok (.ifCond .ne 12, 3) := by decide +kernel
theorem d_Mo_size_4 : decode c_Mo_size 4 = .ok (.aload_n 0, 1) := by decide +kernel
theorem d_Mo_size_5 : decode c_Mo_size 5 = .ok (.getfield 13, 3) := by decide +kernel
theorem d_Mo_size_8 : decode c_Mo_size 8 = .ok (.iconst 0, 1) := by decide +kernel
theorem d_Mo_size_9 : decode c_Mo_size 9 = .ok (.iaload, 1) := by decide +kernel
theorem d_Mo_size_10 : decode c_Mo_size 10 = .ok (.goto 44, 3) := by decide +kernel
theorem d_Mo_size_13 : decode c_Mo_size 13 = .ok (.iload_n 1, 1) := by decide +kernel
theorem d_Mo_size_14 : decode c_Mo_size 14 = .ok (.iconst 1, 1) := by decide +kernel
theorem d_Mo_size_15 : decode c_Mo_size 15 = .ok (.if_icmp .ne 12, 3) := by decide +kernel
theorem d_Mo_size_18 : decode c_Mo_size 18 = .ok (.aload_n 0, 1) := by decide +kernel
theorem d_Mo_size_19 : decode c_Mo_size 19 = .ok (.getfield 29, 3) := by decide +kernel
theorem d_Mo_size_22 : decode c_Mo_size 22 = .ok (.iconst 0, 1) := by decide +kernel
theorem d_Mo_size_23 : decode c_Mo_size 23 = .ok (.iaload, 1) := by decide +kernel
theorem d_Mo_size_24 : decode c_Mo_size 24 = .ok (.goto 30, 3) := by decide +kernel
theorem d_Mo_size_27 : decode c_Mo_size 27 = .ok (.iload_n 1, 1) := by decide +kernel
theorem d_Mo_size_28 : decode c_Mo_size 28 = .ok (.iconst 2, 1) := by decide +kernel
theorem d_Mo_size_29 : decode c_Mo_size 29 = .ok (.if_icmp .ne 12, 3) := by decide +kernel
theorem d_Mo_size_32 : decode c_Mo_size 32 = .ok (.aload_n 0, 1) := by decide +kernel
theorem d_Mo_size_33 : decode c_Mo_size 33 = .ok (.getfield 38, 3) := by decide +kernel
theorem d_Mo_size_36 : decode c_Mo_size 36 = .ok (.iconst 0, 1) := by decide +kernel
theorem d_Mo_size_37 : decode c_Mo_size 37 = .ok (.iaload, 1) := by decide +kernel
theorem d_Mo_size_38 : decode c_Mo_size 38 = .ok (.goto 16, 3) := by decide +kernel
theorem d_Mo_size_41 : decode c_Mo_size 41 = .ok (.iload_n 1, 1) := by decide +kernel
theorem d_Mo_size_42 : decode c_Mo_size 42 = .ok (.iconst 3, 1) := by decide +kernel
theorem d_Mo_size_43 : decode c_Mo_size 43 = .ok (.if_icmp .ne 10, 3) := by decide +kernel
theorem d_Mo_size_46 : decode c_Mo_size 46 = .ok (.aload_n 0, 1) := by decide +kernel
theorem d_Mo_size_47 : decode c_Mo_size 47 = .ok (.getfield 141, 3) := by decide +kernel
theorem d_Mo_size_50 : decode c_Mo_size 50 = .ok (.goto 4, 3) := by decide +kernel
theorem d_Mo_size_53 : decode c_Mo_size 53 = .ok (.iconst (-1), 1) := by decide +kernel
theorem d_Mo_size_54 : decode c_Mo_size 54 = .ok (.ireturn, 1) := by decide +kernel
theorem d_Mo_place_0 : decode c_Mo_place 0 = .ok (.iload_n 1, 1) := by decide +kernel
theorem d_Mo_place_1 : decode c_Mo_place 1 = .ok (.ifCond .lt 15, 3) := by decide +kernel
theorem d_Mo_place_4 : decode c_Mo_place 4 = .ok (.iload_n 1, 1) := by decide +kernel
theorem d_Mo_place_5 : decode c_Mo_place 5 = .ok (.aload_n 0, 1) := by decide +kernel
theorem d_Mo_place_6 : decode c_Mo_place 6 = .ok (.getfield 141, 3) := by decide +kernel
theorem d_Mo_place_9 : decode c_Mo_place 9 = .ok (.if_icmp .ge 7, 3) := by decide +kernel
theorem d_Mo_place_12 : decode c_Mo_place 12 = .ok (.iconst 1, 1) := by decide +kernel
theorem d_Mo_place_13 : decode c_Mo_place 13 = .ok (.goto 4, 3) := by decide +kernel
theorem d_Mo_place_16 : decode c_Mo_place 16 = .ok (.iconst 0, 1) := by decide +kernel
theorem d_Mo_place_17 : decode c_Mo_place 17 = .ok (.ireturn, 1) := by decide +kernel
theorem d_Mo_baseOf_0 : decode c_Mo_baseOf 0 = .ok (.aload_n 0, 1) := by decide +kernel
theorem d_Mo_baseOf_1 : decode c_Mo_baseOf 1 = .ok (.getfield 53, 3) := by decide +kernel
theorem d_Mo_baseOf_4 : decode c_Mo_baseOf 4 = .ok (.iload_n 1, 1) := by decide +kernel
theorem d_Mo_baseOf_5 : decode c_Mo_baseOf 5 = .ok (.iaload, 1) := by decide +kernel
theorem d_Mo_baseOf_6 : decode c_Mo_baseOf 6 = .ok (.iconst 2, 1) := by decide +kernel
theorem d_Mo_baseOf_7 : decode c_Mo_baseOf 7 = .ok (.idiv, 1) := by decide +kernel
theorem d_Mo_baseOf_8 : decode c_Mo_baseOf 8 = .ok (.istore_n 2, 1) := by decide +kernel
theorem d_Mo_baseOf_9 : decode c_Mo_baseOf 9 = .ok (.aload_n 0, 1) := by decide +kernel
theorem d_Mo_baseOf_10 : decode c_Mo_baseOf 10 = .ok (.getfield 53, 3) := by decide +kernel
theorem d_Mo_baseOf_13 : decode c_Mo_baseOf 13 = .ok (.iload_n 1, 1) := by decide +kernel
theorem d_Mo_baseOf_14 : decode c_Mo_baseOf 14 = .ok (.iaload, 1) := by decide +kernel
theorem d_Mo_baseOf_15 : decode c_Mo_baseOf 15 = .ok (.iconst 2, 1) := by decide +kernel
theorem d_Mo_baseOf_16 : decode c_Mo_baseOf 16 = .ok (.irem, 1) := by decide +kernel
theorem d_Mo_baseOf_17 : decode c_Mo_baseOf 17 = .ok (.ifCond .ne 19, 3) := by decide +kernel
theorem d_Mo_baseOf_20 : decode c_Mo_baseOf 20 = .ok (.aload_n 0, 1) := by decide +kernel
theorem d_Mo_baseOf_21 : decode c_Mo_baseOf 21 = .ok (.getfield 23, 3) := by decide +kernel
theorem d_Mo_baseOf_24 : decode c_Mo_baseOf 24 = .ok (.iconst 4, 1) := by decide +kernel
theorem d_Mo_baseOf_25 : decode c_Mo_baseOf 25 = .ok (.iload_n 2, 1) := by decide +kernel
theorem d_Mo_baseOf_26 : decode c_Mo_baseOf 26 = .ok (.imul, 1) := by decide +kernel
theorem d_Mo_baseOf_27 : decode c_Mo_baseOf 27 = .ok (.aload_n 0, 1) := by decide +kernel
theorem d_Mo_baseOf_28 : decode c_Mo_baseOf 28 = .ok (.getfield 56, 3) := by decide +kernel
theorem d_Mo_baseOf_31 : decode c_Mo_baseOf 31 = .ok (.iload_n 1, 1) := by decide +kernel
theorem d_Mo_baseOf_32 : decode c_Mo_baseOf 32 = .ok (.iaload, 1) := by decide +kernel
theorem d_Mo_baseOf_33 : decode c_Mo_baseOf 33 = .ok (.iadd, 1) := by decide +kernel
theorem d_Mo_baseOf_34 : decode c_Mo_baseOf 34 = .ok (.caload, 1) := by decide +kernel
theorem d_Mo_baseOf_35 : decode c_Mo_baseOf 35 = .ok (.ireturn, 1) := by decide +kernel
theorem d_Mo_baseOf_36 : decode c_Mo_baseOf 36 = .ok (.aload_n 0, 1) := by decide +kernel
theorem d_Mo_baseOf_37 : decode c_Mo_baseOf 37 = .ok (.getfield 23, 3) := by decide +kernel
theorem d_Mo_baseOf_40 : decode c_Mo_baseOf 40 = .ok (.iconst 4, 1) := by decide +kernel
theorem d_Mo_baseOf_41 : decode c_Mo_baseOf 41 = .ok (.iload_n 2, 1) := by decide +kernel
theorem d_Mo_baseOf_42 : decode c_Mo_baseOf 42 = .ok (.imul, 1) := by decide +kernel
theorem d_Mo_baseOf_43 : decode c_Mo_baseOf 43 = .ok (.aload_n 0, 1) := by decide +kernel
theorem d_Mo_baseOf_44 : decode c_Mo_baseOf 44 = .ok (.getfield 26, 3) := by decide +kernel
theorem d_Mo_baseOf_47 : decode c_Mo_baseOf 47 = .ok (.iload_n 2, 1) := by decide +kernel
theorem d_Mo_baseOf_48 : decode c_Mo_baseOf 48 = .ok (.iaload, 1) := by decide +kernel
theorem d_Mo_baseOf_49 : decode c_Mo_baseOf 49 = .ok (.iadd, 1) := by decide +kernel
theorem d_Mo_baseOf_50 : decode c_Mo_baseOf 50 = .ok (.iconst 1, 1) := by decide +kernel
theorem d_Mo_baseOf_51 : decode c_Mo_baseOf 51 = .ok (.isub, 1) := by decide +kernel
theorem d_Mo_baseOf_52 : decode c_Mo_baseOf 52 = .ok (.aload_n 0, 1) := by decide +kernel
theorem d_Mo_baseOf_53 : decode c_Mo_baseOf 53 = .ok (.getfield 56, 3) := by decide +kernel
theorem d_Mo_baseOf_56 : decode c_Mo_baseOf 56 = .ok (.iload_n 1, 1) := by decide +kernel
theorem d_Mo_baseOf_57 : decode c_Mo_baseOf 57 = .ok (.iaload, 1) := by decide +kernel
theorem d_Mo_baseOf_58 : decode c_Mo_baseOf 58 = .ok (.isub, 1) := by decide +kernel
theorem d_Mo_baseOf_59 : decode c_Mo_baseOf 59 = .ok (.caload, 1) := by decide +kernel
theorem d_Mo_baseOf_60 : decode c_Mo_baseOf 60 = .ok (.istore_n 3, 1) := by decide +kernel
theorem d_Mo_baseOf_61 : decode c_Mo_baseOf 61 = .ok (.iload_n 3, 1) := by decide +kernel
theorem d_Mo_baseOf_62 : decode c_Mo_baseOf 62 = .ok (.bipush 65, 2) := by decide +kernel
theorem d_Mo_baseOf_64 : decode c_Mo_baseOf 64 = .ok (.if_icmp .ne 8, 3) := by decide +kernel
theorem d_Mo_baseOf_67 : decode c_Mo_baseOf 67 = .ok (.bipush 84, 2) := by decide +kernel
theorem d_Mo_baseOf_69 : decode c_Mo_baseOf 69 = .ok (.goto 27, 3) := by decide +kernel
theorem d_Mo_baseOf_72 : decode c_Mo_baseOf 72 = .ok (.iload_n 3, 1) := by decide +kernel
theorem d_Mo_baseOf_73 : decode c_Mo_baseOf 73 = .ok (.bipush 84, 2) := by decide +kernel
theorem d_Mo_baseOf_75 : decode c_Mo_baseOf 75 = .ok (.if_icmp .ne 8, 3) := by decide +kernel
