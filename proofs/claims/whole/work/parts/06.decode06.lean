theorem d_Mo_sides_37 : decode c_Mo_sides 37 = .ok (.ireturn, 1) := by decide +kernel
theorem d_Mo_side_0 : decode c_Mo_side 0 = .ok (.iload_n 1, 1) := by decide +kernel
theorem d_Mo_side_1 : decode c_Mo_side 1 = .ok (.istore_n 2, 1) := by decide +kernel
theorem d_Mo_side_2 : decode c_Mo_side 2 = .ok (.iconst 0, 1) := by decide +kernel
theorem d_Mo_side_3 : decode c_Mo_side 3 = .ok (.istore_n 3, 1) := by decide +kernel
theorem d_Mo_side_4 : decode c_Mo_side 4 = .ok (.iload_n 2, 1) := by decide +kernel
theorem d_Mo_side_5 : decode c_Mo_side 5 = .ok (.ifCond .le 25, 3) := by decide +kernel
theorem d_Mo_side_8 : decode c_Mo_side 8 = .ok (.iload_n 2, 1) := by decide +kernel
theorem d_Mo_side_9 : decode c_Mo_side 9 = .ok (.aload_n 0, 1) := by decide +kernel
theorem d_Mo_side_10 : decode c_Mo_side 10 = .ok (.iload_n 3, 1) := by decide +kernel
theorem d_Mo_side_11 : decode c_Mo_side 11 = .ok (.invokevirtual 196, 3) := by decide +kernel
theorem d_Mo_side_14 : decode c_Mo_side 14 = .ok (.ifCond .eq 7, 3) := by decide +kernel
theorem d_Mo_side_17 : decode c_Mo_side 17 = .ok (.iconst 1, 1) := by decide +kernel
theorem d_Mo_side_18 : decode c_Mo_side 18 = .ok (.goto 4, 3) := by decide +kernel
theorem d_Mo_side_21 : decode c_Mo_side 21 = .ok (.iconst 0, 1) := by decide +kernel
theorem d_Mo_side_22 : decode c_Mo_side 22 = .ok (.isub, 1) := by decide +kernel
theorem d_Mo_side_23 : decode c_Mo_side 23 = .ok (.istore_n 2, 1) := by decide +kernel
theorem d_Mo_side_24 : decode c_Mo_side 24 = .ok (.iinc 3 1, 3) := by decide +kernel
theorem d_Mo_side_27 : decode c_Mo_side 27 = .ok (.goto (-23), 3) := by decide +kernel
theorem d_Mo_side_30 : decode c_Mo_side 30 = .ok (.aload_n 0, 1) := by decide +kernel
theorem d_Mo_side_31 : decode c_Mo_side 31 = .ok (.getfield 53, 3) := by decide +kernel
theorem d_Mo_side_34 : decode c_Mo_side 34 = .ok (.aload_n 0, 1) := by decide +kernel
theorem d_Mo_side_35 : decode c_Mo_side 35 = .ok (.iload_n 3, 1) := by decide +kernel
theorem d_Mo_side_36 : decode c_Mo_side 36 = .ok (.invokevirtual 193, 3) := by decide +kernel
theorem d_Mo_side_39 : decode c_Mo_side 39 = .ok (.iaload, 1) := by decide +kernel
theorem d_Mo_side_40 : decode c_Mo_side 40 = .ok (.ireturn, 1) := by decide +kernel
theorem d_Mo_lies_0 : decode c_Mo_lies 0 = .ok (.aload_n 0, 1) := by decide +kernel
theorem d_Mo_lies_1 : decode c_Mo_lies 1 = .ok (.getfield 137, 3) := by decide +kernel
theorem d_Mo_lies_4 : decode c_Mo_lies 4 = .ok (.ifCond .eq 17, 3) := by decide +kernel
theorem d_Mo_lies_7 : decode c_Mo_lies 7 = .ok (.iload_n 1, 1) := by decide +kernel
theorem d_Mo_lies_8 : decode c_Mo_lies 8 = .ok (.ifCond .lt 13, 3) := by decide +kernel
theorem d_Mo_lies_11 : decode c_Mo_lies 11 = .ok (.iload_n 1, 1) := by decide +kernel
theorem d_Mo_lies_12 : decode c_Mo_lies 12 = .ok (.aload_n 0, 1) := by decide +kernel
theorem d_Mo_lies_13 : decode c_Mo_lies 13 = .ok (.getfield 38, 3) := by decide +kernel
theorem d_Mo_lies_16 : decode c_Mo_lies 16 = .ok (.iconst 0, 1) := by decide +kernel
theorem d_Mo_lies_17 : decode c_Mo_lies 17 = .ok (.iaload, 1) := by decide +kernel
theorem d_Mo_lies_18 : decode c_Mo_lies 18 = .ok (.if_icmp .lt 5, 3) := by decide +kernel
theorem d_Mo_lies_21 : decode c_Mo_lies 21 = .ok (.iconst 0, 1) := by decide +kernel
theorem d_Mo_lies_22 : decode c_Mo_lies 22 = .ok (.ireturn, 1) := by decide +kernel
theorem d_Mo_lies_23 : decode c_Mo_lies 23 = .ok (.aload_n 0, 1) := by decide +kernel
theorem d_Mo_lies_24 : decode c_Mo_lies 24 = .ok (.invokevirtual 199, 3) := by decide +kernel
theorem d_Mo_lies_27 : decode c_Mo_lies 27 = .ok (.istore_n 2, 1) := by decide +kernel
theorem d_Mo_lies_28 : decode c_Mo_lies 28 = .ok (.iconst 0, 1) := by decide +kernel
theorem d_Mo_lies_29 : decode c_Mo_lies 29 = .ok (.istore_n 3, 1) := by decide +kernel
theorem d_Mo_lies_30 : decode c_Mo_lies 30 = .ok (.iconst 0, 1) := by decide +kernel
theorem d_Mo_lies_31 : decode c_Mo_lies 31 = .ok (.istore 4, 2) := by decide +kernel
theorem d_Mo_lies_33 : decode c_Mo_lies 33 = .ok (.iload 4, 2) := by decide +kernel
theorem d_Mo_lies_35 : decode c_Mo_lies 35 = .ok (.iload_n 2, 1) := by decide +kernel
theorem d_Mo_lies_36 : decode c_Mo_lies 36 = .ok (.iadd, 1) := by decide +kernel
theorem d_Mo_lies_37 : decode c_Mo_lies 37 = .ok (.aload_n 0, 1) := by decide +kernel
theorem d_Mo_lies_38 : decode c_Mo_lies 38 = .ok (.getfield 47, 3) := by decide +kernel
theorem d_Mo_lies_41 : decode c_Mo_lies 41 = .ok (.iload_n 1, 1) := by decide +kernel
theorem d_Mo_lies_42 : decode c_Mo_lies 42 = .ok (.iaload, 1) := by decide +kernel
theorem d_Mo_lies_43 : decode c_Mo_lies 43 = .ok (.if_icmp .gt 128, 3) := by decide +kernel
theorem d_Mo_lies_46 : decode c_Mo_lies 46 = .ok (.iconst 1, 1) := by decide +kernel
theorem d_Mo_lies_47 : decode c_Mo_lies 47 = .ok (.istore 5, 2) := by decide +kernel
theorem d_Mo_lies_49 : decode c_Mo_lies 49 = .ok (.iconst 1, 1) := by decide +kernel
theorem d_Mo_lies_50 : decode c_Mo_lies 50 = .ok (.istore 6, 2) := by decide +kernel
theorem d_Mo_lies_52 : decode c_Mo_lies 52 = .ok (.iconst 0, 1) := by decide +kernel
theorem d_Mo_lies_53 : decode c_Mo_lies 53 = .ok (.istore 7, 2) := by decide +kernel
theorem d_Mo_lies_55 : decode c_Mo_lies 55 = .ok (.iload 7, 2) := by decide +kernel
theorem d_Mo_lies_57 : decode c_Mo_lies 57 = .ok (.iload_n 2, 1) := by decide +kernel
theorem d_Mo_lies_58 : decode c_Mo_lies 58 = .ok (.if_icmp .ge 87, 3) := by decide +kernel
theorem d_Mo_lies_61 : decode c_Mo_lies 61 = .ok (.iload 5, 2) := by decide +kernel
theorem d_Mo_lies_63 : decode c_Mo_lies 63 = .ok (.ifCond .eq 31, 3) := by decide +kernel
theorem d_Mo_lies_66 : decode c_Mo_lies 66 = .ok (.aload_n 0, 1) := by decide +kernel
theorem d_Mo_lies_67 : decode c_Mo_lies 67 = .ok (.getfield 50, 3) := by decide +kernel
theorem d_Mo_lies_70 : decode c_Mo_lies 70 = .ok (.bipush 8, 2) := by decide +kernel
theorem d_Mo_lies_72 : decode c_Mo_lies 72 = .ok (.iload_n 1, 1) := by decide +kernel
theorem d_Mo_lies_73 : decode c_Mo_lies 73 = .ok (.imul, 1) := by decide +kernel
theorem d_Mo_lies_74 : decode c_Mo_lies 74 = .ok (.iload 4, 2) := by decide +kernel
theorem d_Mo_lies_76 : decode c_Mo_lies 76 = .ok (.iadd, 1) := by decide +kernel
theorem d_Mo_lies_77 : decode c_Mo_lies 77 = .ok (.iload 7, 2) := by decide +kernel
theorem d_Mo_lies_79 : decode c_Mo_lies 79 = .ok (.iadd, 1) := by decide +kernel
theorem d_Mo_lies_80 : decode c_Mo_lies 80 = .ok (.iaload, 1) := by decide +kernel
theorem d_Mo_lies_81 : decode c_Mo_lies 81 = .ok (.aload_n 0, 1) := by decide +kernel
theorem d_Mo_lies_82 : decode c_Mo_lies 82 = .ok (.iload 7, 2) := by decide +kernel
theorem d_Mo_lies_84 : decode c_Mo_lies 84 = .ok (.invokevirtual 202, 3) := by decide +kernel
theorem d_Mo_lies_87 : decode c_Mo_lies 87 = .ok (.if_icmp .ne 7, 3) := by decide +kernel
theorem d_Mo_lies_90 : decode c_Mo_lies 90 = .ok (.iconst 1, 1) := by decide +kernel
theorem d_Mo_lies_91 : decode c_Mo_lies 91 = .ok (.goto 4, 3) := by decide +kernel
theorem d_Mo_lies_94 : decode c_Mo_lies 94 = .ok (.iconst 0, 1) := by decide +kernel
theorem d_Mo_lies_95 : decode c_Mo_lies 95 = .ok (.istore 5, 2) := by decide +kernel
theorem d_Mo_lies_97 : decode c_Mo_lies 97 = .ok (.iload 6, 2) := by decide +kernel
theorem d_Mo_lies_99 : decode c_Mo_lies 99 = .ok (.ifCond .eq 37, 3) := by decide +kernel
theorem d_Mo_lies_102 : decode c_Mo_lies 102 = .ok (.aload_n 0, 1) := by decide +kernel
theorem d_Mo_lies_103 : decode c_Mo_lies 103 = .ok (.getfield 50, 3) := by decide +kernel
theorem d_Mo_lies_106 : decode c_Mo_lies 106 = .ok (.bipush 8, 2) := by decide +kernel
theorem d_Mo_lies_108 : decode c_Mo_lies 108 = .ok (.iload_n 1, 1) := by decide +kernel
theorem d_Mo_lies_109 : decode c_Mo_lies 109 = .ok (.imul, 1) := by decide +kernel
theorem d_Mo_lies_110 : decode c_Mo_lies 110 = .ok (.iload 4, 2) := by decide +kernel
theorem d_Mo_lies_112 : decode c_Mo_lies 112 = .ok (.iadd, 1) := by decide +kernel
theorem d_Mo_lies_113 : decode c_Mo_lies 113 = .ok (.iload 7, 2) := by decide +kernel
theorem d_Mo_lies_115 : decode c_Mo_lies 115 = .ok (.iadd, 1) := by decide +kernel
theorem d_Mo_lies_116 : decode c_Mo_lies 116 = .ok (.iaload, 1) := by decide +kernel
theorem d_Mo_lies_117 : decode c_Mo_lies 117 = .ok (.aload_n 0, 1) := by decide +kernel
theorem d_Mo_lies_118 : decode c_Mo_lies 118 = .ok (.iload_n 2, 1) := by decide +kernel
theorem d_Mo_lies_119 : decode c_Mo_lies 119 = .ok (.iconst 1, 1) := by decide +kernel
theorem d_Mo_lies_120 : decode c_Mo_lies 120 = .ok (.isub, 1) := by decide +kernel
theorem d_Mo_lies_121 : decode c_Mo_lies 121 = .ok (.iload 7, 2) := by decide +kernel
theorem d_Mo_lies_123 : decode c_Mo_lies 123 = .ok (.isub, 1) := by decide +kernel
theorem d_Mo_lies_124 : decode c_Mo_lies 124 = .ok (.invokevirtual 202, 3) := by decide +kernel
theorem d_Mo_lies_127 : decode c_Mo_lies 127 = .ok (.iconst 1, 1) := by decide +kernel
theorem d_Mo_lies_128 : decode c_Mo_lies 128 = .ok (.ixor, 1) := by decide +kernel
theorem d_Mo_lies_129 : decode c_Mo_lies 129 = .ok (.if_icmp .ne 7, 3) := by decide +kernel
theorem d_Mo_lies_132 : decode c_Mo_lies 132 = .ok (.iconst 1, 1) := by decide +kernel
theorem d_Mo_lies_133 : decode c_Mo_lies 133 = .ok (.goto 4, 3) := by decide +kernel
theorem d_Mo_lies_136 : decode c_Mo_lies 136 = .ok (.iconst 0, 1) := by decide +kernel
theorem d_Mo_lies_137 : decode c_Mo_lies 137 = .ok (.istore 6, 2) := by decide +kernel
theorem d_Mo_lies_139 : decode c_Mo_lies 139 = .ok (.iinc 7 1, 3) := by decide +kernel
theorem d_Mo_lies_142 : decode c_Mo_lies 142 = .ok (.goto (-87), 3) := by decide +kernel
theorem d_Mo_lies_145 : decode c_Mo_lies 145 = .ok (.iload_n 3, 1) := by decide +kernel
theorem d_Mo_lies_146 : decode c_Mo_lies 146 = .ok (.ifCond .ne 13, 3) := by decide +kernel
theorem d_Mo_lies_149 : decode c_Mo_lies 149 = .ok (.iload 5, 2) := by decide +kernel
theorem d_Mo_lies_151 : decode c_Mo_lies 151 = .ok (.ifCond .ne 8, 3) := by decide +kernel
theorem d_Mo_lies_154 : decode c_Mo_lies 154 = .ok (.iload 6, 2) := by decide +kernel
theorem d_Mo_lies_156 : decode c_Mo_lies 156 = .ok (.ifCond .eq 7, 3) := by decide +kernel
theorem d_Mo_lies_159 : decode c_Mo_lies 159 = .ok (.iconst 1, 1) := by decide +kernel
theorem d_Mo_lies_160 : decode c_Mo_lies 160 = .ok (.goto 4, 3) := by decide +kernel
theorem d_Mo_lies_163 : decode c_Mo_lies 163 = .ok (.iconst 0, 1) := by decide +kernel
theorem d_Mo_lies_164 : decode c_Mo_lies 164 = .ok (.istore_n 3, 1) := by decide +kernel
theorem d_Mo_lies_165 : decode c_Mo_lies 165 = .ok (.iinc 4 1, 3) := by decide +kernel
theorem d_Mo_lies_168 : decode c_Mo_lies 168 = .ok (.goto (-135), 3) := by decide +kernel
theorem d_Mo_lies_171 : decode c_Mo_lies 171 = .ok (.iload_n 3, 1) := by decide +kernel
theorem d_Mo_lies_172 : decode c_Mo_lies 172 = .ok (.ireturn, 1) := by decide +kernel
theorem d_Mo_put_0 : decode c_Mo_put 0 = .ok (.aload_n 0, 1) := by decide +kernel
theorem d_Mo_put_1 : decode c_Mo_put 1 = .ok (.getfield 71, 3) := by decide +kernel
theorem d_Mo_put_4 : decode c_Mo_put 4 = .ok (.aload_n 0, 1) := by decide +kernel
theorem d_Mo_put_5 : decode c_Mo_put 5 = .ok (.getfield 205, 3) := by decide +kernel
theorem d_Mo_put_8 : decode c_Mo_put 8 = .ok (.iload_n 1, 1) := by decide +kernel
theorem d_Mo_put_9 : decode c_Mo_put 9 = .ok (.castore, 1) := by decide +kernel
theorem d_Mo_put_10 : decode c_Mo_put 10 = .ok (.aload_n 0, 1) := by decide +kernel
theorem d_Mo_put_11 : decode c_Mo_put 11 = .ok (.dup, 1) := by decide +kernel
theorem d_Mo_put_12 : decode c_Mo_put 12 = .ok (.getfield 205, 3) := by decide +kernel
theorem d_Mo_put_15 : decode c_Mo_put 15 = .ok (.iconst 1, 1) := by decide +kernel
theorem d_Mo_put_16 : decode c_Mo_put 16 = .ok (.iadd, 1) := by decide +kernel
theorem d_Mo_put_17 : decode c_Mo_put 17 = .ok (.putfield 205, 3) := by decide +kernel
theorem d_Mo_put_20 : decode c_Mo_put 20 = .ok (.return_, 1) := by decide +kernel
theorem d_Mo_putNumber_0 : decode c_Mo_putNumber 0 = .ok (.iload_n 1, 1) := by decide +kernel
theorem d_Mo_putNumber_1 : decode c_Mo_putNumber 1 = .ok (.bipush 9, 2) := by decide +kernel
theorem d_Mo_putNumber_3 : decode c_Mo_putNumber 3 = .ok (.if_icmp .le 15, 3) := by decide +kernel
theorem d_Mo_putNumber_6 : decode c_Mo_putNumber 6 = .ok (.aload_n 0, 1) := by decide +kernel
theorem d_Mo_putNumber_7 : decode c_Mo_putNumber 7 = .ok (.bipush 48, 2) := by decide +kernel
theorem d_Mo_putNumber_9 : decode c_Mo_putNumber 9 = .ok (.iload_n 1, 1) := by decide +kernel
theorem d_Mo_putNumber_10 : decode c_Mo_putNumber 10 = .ok (.bipush 10, 2) := by decide +kernel
theorem d_Mo_putNumber_12 : decode c_Mo_putNumber 12 = .ok (.idiv, 1) := by decide +kernel
theorem d_Mo_putNumber_13 : decode c_Mo_putNumber 13 = .ok (.iadd, 1) := by decide +kernel
theorem d_Mo_putNumber_14 : decode c_Mo_putNumber 14 = .ok (.i2c, 1) := by decide +kernel
theorem d_Mo_putNumber_15 : decode c_Mo_putNumber 15 = .ok (.invokevirtual 208, 3) := by decide +kernel
theorem d_Mo_putNumber_18 : decode c_Mo_putNumber 18 = .ok (.aload_n 0, 1) := by decide +kernel
theorem d_Mo_putNumber_19 : decode c_Mo_putNumber 19 = .ok (.bipush 48, 2) := by decide +kernel
theorem d_Mo_putNumber_21 : decode c_Mo_putNumber 21 = .ok (.iload_n 1, 1) := by decide +kernel
theorem d_Mo_putNumber_22 : decode c_Mo_putNumber 22 = .ok (.bipush 10, 2) := by decide +kernel
theorem d_Mo_putNumber_24 : decode c_Mo_putNumber 24 = .ok (.irem, 1) := by decide +kernel
theorem d_Mo_putNumber_25 : decode c_Mo_putNumber 25 = .ok (.iadd, 1) := by decide +kernel
theorem d_Mo_putNumber_26 : decode c_Mo_putNumber 26 = .ok (.i2c, 1) := by decide +kernel
theorem d_Mo_putNumber_27 : decode c_Mo_putNumber 27 = .ok (.invokevirtual 208, 3) := by decide +kernel
theorem d_Mo_putNumber_30 : decode c_Mo_putNumber 30 = .ok (.return_, 1) := by decide +kernel
theorem d_Mo_tell_0 : decode c_Mo_tell 0 = .ok (.aload_n 0, 1) := by decide +kernel
theorem d_Mo_tell_1 : decode c_Mo_tell 1 = .ok (.getfield 137, 3) := by decide +kernel
theorem d_Mo_tell_4 : decode c_Mo_tell 4 = .ok (.ifCond .ne 5, 3) := by decide +kernel
theorem d_Mo_tell_7 : decode c_Mo_tell 7 = .ok (.iconst (-1), 1) := by decide +kernel
theorem d_Mo_tell_8 : decode c_Mo_tell 8 = .ok (.ireturn, 1) := by decide +kernel
theorem d_Mo_tell_9 : decode c_Mo_tell 9 = .ok (.aload_n 0, 1) := by decide +kernel
theorem d_Mo_tell_10 : decode c_Mo_tell 10 = .ok (.iconst 0, 1) := by decide +kernel
theorem d_Mo_tell_11 : decode c_Mo_tell 11 = .ok (.putfield 205, 3) := by decide +kernel
theorem d_Mo_tell_14 : decode c_Mo_tell 14 = .ok (.bipush 9, 2) := by decide +kernel
theorem d_Mo_tell_16 : decode c_Mo_tell 16 = .ok (.istore_n 1, 1) := by decide +kernel
theorem d_Mo_tell_17 : decode c_Mo_tell 17 = .ok (.aload_n 0, 1) := by decide +kernel
theorem d_Mo_tell_18 : decode c_Mo_tell 18 = .ok (.invokevirtual 199, 3) := by decide +kernel
theorem d_Mo_tell_21 : decode c_Mo_tell 21 = .ok (.istore_n 2, 1) := by decide +kernel
theorem d_Mo_tell_22 : decode c_Mo_tell 22 = .ok (.iconst 0, 1) := by decide +kernel
theorem d_Mo_tell_23 : decode c_Mo_tell 23 = .ok (.istore_n 3, 1) := by decide +kernel
theorem d_Mo_tell_24 : decode c_Mo_tell 24 = .ok (.iload_n 3, 1) := by decide +kernel
theorem d_Mo_tell_25 : decode c_Mo_tell 25 = .ok (.iload_n 2, 1) := by decide +kernel
theorem d_Mo_tell_26 : decode c_Mo_tell 26 = .ok (.if_icmp .ge 75, 3) := by decide +kernel
theorem d_Mo_tell_29 : decode c_Mo_tell 29 = .ok (.aload_n 0, 1) := by decide +kernel
theorem d_Mo_tell_30 : decode c_Mo_tell 30 = .ok (.iload_n 3, 1) := by decide +kernel
theorem d_Mo_tell_31 : decode c_Mo_tell 31 = .ok (.invokevirtual 202, 3) := by decide +kernel
theorem d_Mo_tell_34 : decode c_Mo_tell 34 = .ok (.istore 4, 2) := by decide +kernel
theorem d_Mo_tell_36 : decode c_Mo_tell 36 = .ok (.aload_n 0, 1) := by decide +kernel
theorem d_Mo_tell_37 : decode c_Mo_tell 37 = .ok (.iload 4, 2) := by decide +kernel
theorem d_Mo_tell_39 : decode c_Mo_tell 39 = .ok (.iconst 2, 1) := by decide +kernel
theorem d_Mo_tell_40 : decode c_Mo_tell 40 = .ok (.irem, 1) := by decide +kernel
theorem d_Mo_tell_41 : decode c_Mo_tell 41 = .ok (.ifCond .ne 8, 3) := by decide +kernel
theorem d_Mo_tell_44 : decode c_Mo_tell 44 = .ok (.bipush 62, 2) := by decide +kernel
theorem d_Mo_tell_46 : decode c_Mo_tell 46 = .ok (.goto 5, 3) := by decide +kernel
theorem d_Mo_tell_49 : decode c_Mo_tell 49 = .ok (.bipush 60, 2) := by decide +kernel
theorem d_Mo_tell_51 : decode c_Mo_tell 51 = .ok (.invokevirtual 208, 3) := by decide +kernel
theorem d_Mo_tell_54 : decode c_Mo_tell 54 = .ok (.iconst 0, 1) := by decide +kernel
theorem d_Mo_tell_55 : decode c_Mo_tell 55 = .ok (.istore 5, 2) := by decide +kernel
theorem d_Mo_tell_57 : decode c_Mo_tell 57 = .ok (.iload 5, 2) := by decide +kernel
theorem d_Mo_tell_59 : decode c_Mo_tell 59 = .ok (.aload_n 0, 1) := by decide +kernel
theorem d_Mo_tell_60 : decode c_Mo_tell 60 = .ok (.getfield 20, 3) := by decide +kernel
theorem d_Mo_tell_63 : decode c_Mo_tell 63 = .ok (.iload 4, 2) := by decide +kernel
theorem d_Mo_tell_65 : decode c_Mo_tell 65 = .ok (.iconst 2, 1) := by decide +kernel
theorem d_Mo_tell_66 : decode c_Mo_tell 66 = .ok (.idiv, 1) := by decide +kernel
theorem d_Mo_tell_67 : decode c_Mo_tell 67 = .ok (.iaload, 1) := by decide +kernel
theorem d_Mo_tell_68 : decode c_Mo_tell 68 = .ok (.if_icmp .ge 27, 3) := by decide +kernel
theorem d_Mo_tell_71 : decode c_Mo_tell 71 = .ok (.aload_n 0, 1) := by decide +kernel
theorem d_Mo_tell_72 : decode c_Mo_tell 72 = .ok (.aload_n 0, 1) := by decide +kernel
theorem d_Mo_tell_73 : decode c_Mo_tell 73 = .ok (.getfield 17, 3) := by decide +kernel
theorem d_Mo_tell_76 : decode c_Mo_tell 76 = .ok (.iconst 3, 1) := by decide +kernel
theorem d_Mo_tell_77 : decode c_Mo_tell 77 = .ok (.iload 4, 2) := by decide +kernel
theorem d_Mo_tell_79 : decode c_Mo_tell 79 = .ok (.iconst 2, 1) := by decide +kernel
theorem d_Mo_tell_80 : decode c_Mo_tell 80 = .ok (.idiv, 1) := by decide +kernel
theorem d_Mo_tell_81 : decode c_Mo_tell 81 = .ok (.imul, 1) := by decide +kernel
theorem d_Mo_tell_82 : decode c_Mo_tell 82 = .ok (.iload 5, 2) := by decide +kernel
theorem d_Mo_tell_84 : decode c_Mo_tell 84 = .ok (.iadd, 1) := by decide +kernel
theorem d_Mo_tell_85 : decode c_Mo_tell 85 = .ok (.caload, 1) := by decide +kernel
theorem d_Mo_tell_86 : decode c_Mo_tell 86 = .ok (.invokevirtual 208, 3) := by decide +kernel
theorem d_Mo_tell_89 : decode c_Mo_tell 89 = .ok (.iinc 5 1, 3) := by decide +kernel
theorem d_Mo_tell_92 : decode c_Mo_tell 92 = .ok (.goto (-35), 3) := by decide +kernel
theorem d_Mo_tell_95 : decode c_Mo_tell 95 = .ok (.iinc 3 1, 3) := by decide +kernel
theorem d_Mo_tell_98 : decode c_Mo_tell 98 = .ok (.goto (-74), 3) := by decide +kernel
theorem d_Mo_tell_101 : decode c_Mo_tell 101 = .ok (.aload_n 0, 1) := by decide +kernel
theorem d_Mo_tell_102 : decode c_Mo_tell 102 = .ok (.iload_n 1, 1) := by decide +kernel
theorem d_Mo_tell_103 : decode c_Mo_tell 103 = .ok (.invokevirtual 208, 3) := by decide +kernel
theorem d_Mo_tell_106 : decode c_Mo_tell 106 = .ok (.aload_n 0, 1) := by decide +kernel
theorem d_Mo_tell_107 : decode c_Mo_tell 107 = .ok (.aload_n 0, 1) := by decide +kernel
theorem d_Mo_tell_108 : decode c_Mo_tell 108 = .ok (.getfield 56, 3) := by decide +kernel
theorem d_Mo_tell_111 : decode c_Mo_tell 111 = .ok (.aload_n 0, 1) := by decide +kernel
theorem d_Mo_tell_112 : decode c_Mo_tell 112 = .ok (.iconst 0, 1) := by decide +kernel
theorem d_Mo_tell_113 : decode c_Mo_tell 113 = .ok (.invokevirtual 193, 3) := by decide +kernel
theorem d_Mo_tell_116 : decode c_Mo_tell 116 = .ok (.iaload, 1) := by decide +kernel
theorem d_Mo_tell_117 : decode c_Mo_tell 117 = .ok (.invokevirtual 211, 3) := by decide +kernel
theorem d_Mo_tell_120 : decode c_Mo_tell 120 = .ok (.aload_n 0, 1) := by decide +kernel
theorem d_Mo_tell_121 : decode c_Mo_tell 121 = .ok (.iload_n 1, 1) := by decide +kernel
theorem d_Mo_tell_122 : decode c_Mo_tell 122 = .ok (.invokevirtual 208, 3) := by decide +kernel
theorem d_Mo_tell_125 : decode c_Mo_tell 125 = .ok (.aload_n 0, 1) := by decide +kernel
theorem d_Mo_tell_126 : decode c_Mo_tell 126 = .ok (.aload_n 0, 1) := by decide +kernel
theorem d_Mo_tell_127 : decode c_Mo_tell 127 = .ok (.getfield 175, 3) := by decide +kernel
theorem d_Mo_tell_130 : decode c_Mo_tell 130 = .ok (.iconst 1, 1) := by decide +kernel
theorem d_Mo_tell_131 : decode c_Mo_tell 131 = .ok (.isub, 1) := by decide +kernel
theorem d_Mo_tell_132 : decode c_Mo_tell 132 = .ok (.invokevirtual 193, 3) := by decide +kernel
theorem d_Mo_tell_135 : decode c_Mo_tell 135 = .ok (.istore_n 3, 1) := by decide +kernel
theorem d_Mo_tell_136 : decode c_Mo_tell 136 = .ok (.aload_n 0, 1) := by decide +kernel
theorem d_Mo_tell_137 : decode c_Mo_tell 137 = .ok (.aload_n 0, 1) := by decide +kernel
theorem d_Mo_tell_138 : decode c_Mo_tell 138 = .ok (.getfield 26, 3) := by decide +kernel
theorem d_Mo_tell_141 : decode c_Mo_tell 141 = .ok (.aload_n 0, 1) := by decide +kernel
theorem d_Mo_tell_142 : decode c_Mo_tell 142 = .ok (.getfield 53, 3) := by decide +kernel
theorem d_Mo_tell_145 : decode c_Mo_tell 145 = .ok (.iload_n 3, 1) := by decide +kernel
theorem d_Mo_tell_146 : decode c_Mo_tell 146 = .ok (.iaload, 1) := by decide +kernel
theorem d_Mo_tell_147 : decode c_Mo_tell 147 = .ok (.iconst 2, 1) := by decide +kernel
theorem d_Mo_tell_148 : decode c_Mo_tell 148 = .ok (.idiv, 1) := by decide +kernel
theorem d_Mo_tell_149 : decode c_Mo_tell 149 = .ok (.iaload, 1) := by decide +kernel
theorem d_Mo_tell_150 : decode c_Mo_tell 150 = .ok (.iconst 1, 1) := by decide +kernel
theorem d_Mo_tell_151 : decode c_Mo_tell 151 = .ok (.isub, 1) := by decide +kernel
theorem d_Mo_tell_152 : decode c_Mo_tell 152 = .ok (.aload_n 0, 1) := by decide +kernel
theorem d_Mo_tell_153 : decode c_Mo_tell 153 = .ok (.getfield 56, 3) := by decide +kernel
theorem d_Mo_tell_156 : decode c_Mo_tell 156 = .ok (.iload_n 3, 1) := by decide +kernel
theorem d_Mo_tell_157 : decode c_Mo_tell 157 = .ok (.iaload, 1) := by decide +kernel
theorem d_Mo_tell_158 : decode c_Mo_tell 158 = .ok (.isub, 1) := by decide +kernel
theorem d_Mo_tell_159 : decode c_Mo_tell 159 = .ok (.invokevirtual 211, 3) := by decide +kernel
theorem d_Mo_tell_162 : decode c_Mo_tell 162 = .ok (.aload_n 0, 1) := by decide +kernel
theorem d_Mo_tell_163 : decode c_Mo_tell 163 = .ok (.iload_n 1, 1) := by decide +kernel
theorem d_Mo_tell_164 : decode c_Mo_tell 164 = .ok (.invokevirtual 208, 3) := by decide +kernel
theorem d_Mo_tell_167 : decode c_Mo_tell 167 = .ok (.aload_n 0, 1) := by decide +kernel
theorem d_Mo_tell_168 : decode c_Mo_tell 168 = .ok (.aload_n 0, 1) := by decide +kernel
theorem d_Mo_tell_169 : decode c_Mo_tell 169 = .ok (.getfield 178, 3) := by decide +kernel
theorem d_Mo_tell_172 : decode c_Mo_tell 172 = .ok (.invokevirtual 211, 3) := by decide +kernel
theorem d_Mo_tell_175 : decode c_Mo_tell 175 = .ok (.aload_n 0, 1) := by decide +kernel
theorem d_Mo_tell_176 : decode c_Mo_tell 176 = .ok (.iload_n 1, 1) := by decide +kernel
theorem d_Mo_tell_177 : decode c_Mo_tell 177 = .ok (.invokevirtual 208, 3) := by decide +kernel
theorem d_Mo_tell_180 : decode c_Mo_tell 180 = .ok (.iconst 0, 1) := by decide +kernel
theorem d_Mo_tell_181 : decode c_Mo_tell 181 = .ok (.istore 4, 2) := by decide +kernel
theorem d_Mo_tell_183 : decode c_Mo_tell 183 = .ok (.iload 4, 2) := by decide +kernel
theorem d_Mo_tell_185 : decode c_Mo_tell 185 = .ok (.aload_n 0, 1) := by decide +kernel
theorem d_Mo_tell_186 : decode c_Mo_tell 186 = .ok (.getfield 172, 3) := by decide +kernel
theorem d_Mo_tell_189 : decode c_Mo_tell 189 = .ok (.if_icmp .ge 69, 3) := by decide +kernel
theorem d_Mo_tell_192 : decode c_Mo_tell 192 = .ok (.iconst 1, 1) := by decide +kernel
theorem d_Mo_tell_193 : decode c_Mo_tell 193 = .ok (.istore 5, 2) := by decide +kernel
theorem d_Mo_tell_195 : decode c_Mo_tell 195 = .ok (.iload 4, 2) := by decide +kernel
theorem d_Mo_tell_197 : decode c_Mo_tell 197 = .ok (.iload 5, 2) := by decide +kernel
theorem d_Mo_tell_199 : decode c_Mo_tell 199 = .ok (.iadd, 1) := by decide +kernel
theorem d_Mo_tell_200 : decode c_Mo_tell 200 = .ok (.aload_n 0, 1) := by decide +kernel
theorem d_Mo_tell_201 : decode c_Mo_tell 201 = .ok (.getfield 172, 3) := by decide +kernel
theorem d_Mo_tell_204 : decode c_Mo_tell 204 = .ok (.if_icmp .ge 27, 3) := by decide +kernel
theorem d_Mo_tell_207 : decode c_Mo_tell 207 = .ok (.aload_n 0, 1) := by decide +kernel
theorem d_Mo_tell_208 : decode c_Mo_tell 208 = .ok (.iload 4, 2) := by decide +kernel
theorem d_Mo_tell_210 : decode c_Mo_tell 210 = .ok (.iload 5, 2) := by decide +kernel
theorem d_Mo_tell_212 : decode c_Mo_tell 212 = .ok (.iadd, 1) := by decide +kernel
theorem d_Mo_tell_213 : decode c_Mo_tell 213 = .ok (.invokevirtual 214, 3) := by decide +kernel
theorem d_Mo_tell_216 : decode c_Mo_tell 216 = .ok (.aload_n 0, 1) := by decide +kernel
theorem d_Mo_tell_217 : decode c_Mo_tell 217 = .ok (.iload 4, 2) := by decide +kernel
theorem d_Mo_tell_219 : decode c_Mo_tell 219 = .ok (.invokevirtual 214, 3) := by decide +kernel
theorem d_Mo_tell_222 : decode c_Mo_tell 222 = .ok (.if_icmp .ne 9, 3) := by decide +kernel
theorem d_Mo_tell_225 : decode c_Mo_tell 225 = .ok (.iinc 5 1, 3) := by decide +kernel
theorem d_Mo_tell_228 : decode c_Mo_tell 228 = .ok (.goto (-33), 3) := by decide +kernel
theorem d_Mo_tell_231 : decode c_Mo_tell 231 = .ok (.aload_n 0, 1) := by decide +kernel
theorem d_Mo_tell_232 : decode c_Mo_tell 232 = .ok (.iload 5, 2) := by decide +kernel
theorem d_Mo_tell_234 : decode c_Mo_tell 234 = .ok (.invokevirtual 211, 3) := by decide +kernel
theorem d_Mo_tell_237 : decode c_Mo_tell 237 = .ok (.aload_n 0, 1) := by decide +kernel
theorem d_Mo_tell_238 : decode c_Mo_tell 238 = .ok (.aload_n 0, 1) := by decide +kernel
theorem d_Mo_tell_239 : decode c_Mo_tell 239 = .ok (.iload 4, 2) := by decide +kernel
theorem d_Mo_tell_241 : decode c_Mo_tell 241 = .ok (.invokevirtual 214, 3) := by decide +kernel
theorem d_Mo_tell_244 : decode c_Mo_tell 244 = .ok (.i2c, 1) := by decide +kernel
theorem d_Mo_tell_245 : decode c_Mo_tell 245 = .ok (.invokevirtual 208, 3) := by decide +kernel
theorem d_Mo_tell_248 : decode c_Mo_tell 248 = .ok (.iload 4, 2) := by decide +kernel
theorem d_Mo_tell_250 : decode c_Mo_tell 250 = .ok (.iload 5, 2) := by decide +kernel
theorem d_Mo_tell_252 : decode c_Mo_tell 252 = .ok (.iadd, 1) := by decide +kernel
theorem d_Mo_tell_253 : decode c_Mo_tell 253 = .ok (.istore 4, 2) := by decide +kernel
theorem d_Mo_tell_255 : decode c_Mo_tell 255 = .ok (.goto (-72), 3) := by decide +kernel
theorem d_Mo_tell_258 : decode c_Mo_tell 258 = .ok (.aload_n 0, 1) := by decide +kernel
theorem d_Mo_tell_259 : decode c_Mo_tell 259 = .ok (.getfield 205, 3) := by decide +kernel
theorem d_Mo_tell_262 : decode c_Mo_tell 262 = .ok (.ireturn, 1) := by decide +kernel
theorem d_Mo_letter_0 : decode c_Mo_letter 0 = .ok (.iload_n 1, 1) := by decide +kernel
theorem d_Mo_letter_1 : decode c_Mo_letter 1 = .ok (.ifCond .lt 20, 3) := by decide +kernel
theorem d_Mo_letter_4 : decode c_Mo_letter 4 = .ok (.iload_n 1, 1) := by decide +kernel
theorem d_Mo_letter_5 : decode c_Mo_letter 5 = .ok (.aload_n 0, 1) := by decide +kernel
theorem d_Mo_letter_6 : decode c_Mo_letter 6 = .ok (.getfield 205, 3) := by decide +kernel
theorem d_Mo_letter_9 : decode c_Mo_letter 9 = .ok (.if_icmp .ge 12, 3) := by decide +kernel
theorem d_Mo_letter_12 : decode c_Mo_letter 12 = .ok (.aload_n 0, 1) := by decide +kernel
theorem d_Mo_letter_13 : decode c_Mo_letter 13 = .ok (.getfield 71, 3) := by decide +kernel
theorem d_Mo_letter_16 : decode c_Mo_letter 16 = .ok (.iload_n 1, 1) := by decide +kernel
theorem d_Mo_letter_17 : decode c_Mo_letter 17 = .ok (.caload, 1) := by decide +kernel
theorem d_Mo_letter_18 : decode c_Mo_letter 18 = .ok (.goto 4, 3) := by decide +kernel
theorem d_Mo_letter_21 : decode c_Mo_letter 21 = .ok (.iconst (-1), 1) := by decide +kernel
theorem d_Mo_letter_22 : decode c_Mo_letter 22 = .ok (.ireturn, 1) := by decide +kernel
theorem d_Te_init_0 : decode c_Te_init 0 = .ok (.aload_n 0, 1) := by decide +kernel
theorem d_Te_init_1 : decode c_Te_init 1 = .ok (.invokespecial 3, 3) := by decide +kernel
theorem d_Te_init_4 : decode c_Te_init 4 = .ok (.aload_n 0, 1) := by decide +kernel
theorem d_Te_init_5 : decode c_Te_init 5 = .ok (.sipush 400, 3) := by decide +kernel
theorem d_Te_init_8 : decode c_Te_init 8 = .ok (.newarray .char, 2) := by decide +kernel
theorem d_Te_init_10 : decode c_Te_init 10 = .ok (.putfield 9, 3) := by decide +kernel
theorem d_Te_init_13 : decode c_Te_init 13 = .ok (.return_, 1) := by decide +kernel
theorem d_Re_init_0 : decode c_Re_init 0 = .ok (.aload_n 0, 1) := by decide +kernel
theorem d_Re_init_1 : decode c_Re_init 1 = .ok (.invokespecial 3, 3) := by decide +kernel
theorem d_Re_init_4 : decode c_Re_init 4 = .ok (.aload_n 0, 1) := by decide +kernel
theorem d_Re_init_5 : decode c_Re_init 5 = .ok (.bipush 12, 2) := by decide +kernel
theorem d_Re_init_7 : decode c_Re_init 7 = .ok (.newarray .char, 2) := by decide +kernel
theorem d_Re_init_9 : decode c_Re_init 9 = .ok (.putfield 9, 3) := by decide +kernel
theorem d_Re_init_12 : decode c_Re_init 12 = .ok (.return_, 1) := by decide +kernel
theorem d_Co_init_0 : decode c_Co_init 0 = .ok (.aload_n 0, 1) := by decide +kernel
theorem d_Co_init_1 : decode c_Co_init 1 = .ok (.invokespecial 3, 3) := by decide +kernel
theorem d_Co_init_4 : decode c_Co_init 4 = .ok (.aload_n 0, 1) := by decide +kernel
theorem d_Co_init_5 : decode c_Co_init 5 = .ok (.sipush 832, 3) := by decide +kernel
theorem d_Co_init_8 : decode c_Co_init 8 = .ok (.newarray .int, 2) := by decide +kernel
theorem d_Co_init_10 : decode c_Co_init 10 = .ok (.putfield 9, 3) := by decide +kernel
theorem d_Co_init_13 : decode c_Co_init 13 = .ok (.return_, 1) := by decide +kernel
theorem d_Rs_init_0 : decode c_Rs_init 0 = .ok (.aload_n 0, 1) := by decide +kernel
theorem d_Rs_init_1 : decode c_Rs_init 1 = .ok (.invokespecial 3, 3) := by decide +kernel
theorem d_Rs_init_4 : decode c_Rs_init 4 = .ok (.aload_n 0, 1) := by decide +kernel
theorem d_Rs_init_5 : decode c_Rs_init 5 = .ok (.bipush 25, 2) := by decide +kernel
theorem d_Rs_init_7 : decode c_Rs_init 7 = .ok (.newarray .int, 2) := by decide +kernel
theorem d_Rs_init_9 : decode c_Rs_init 9 = .ok (.putfield 9, 3) := by decide +kernel
theorem d_Rs_init_12 : decode c_Rs_init 12 = .ok (.aload_n 0, 1) := by decide +kernel
theorem d_Rs_init_13 : decode c_Rs_init 13 = .ok (.bipush 25, 2) := by decide +kernel
theorem d_Rs_init_15 : decode c_Rs_init 15 = .ok (.newarray .int, 2) := by decide +kernel
theorem d_Rs_init_17 : decode c_Rs_init 17 = .ok (.putfield 15, 3) := by decide +kernel
theorem d_Rs_init_20 : decode c_Rs_init 20 = .ok (.aload_n 0, 1) := by decide +kernel
theorem d_Rs_init_21 : decode c_Rs_init 21 = .ok (.bipush 25, 2) := by decide +kernel
theorem d_Rs_init_23 : decode c_Rs_init 23 = .ok (.newarray .char, 2) := by decide +kernel
theorem d_Rs_init_25 : decode c_Rs_init 25 = .ok (.putfield 18, 3) := by decide +kernel
theorem d_Rs_init_28 : decode c_Rs_init 28 = .ok (.return_, 1) := by decide +kernel
theorem d_Gr_init_0 : decode c_Gr_init 0 = .ok (.aload_n 0, 1) := by decide +kernel
theorem d_Gr_init_1 : decode c_Gr_init 1 = .ok (.invokespecial 3, 3) := by decide +kernel
theorem d_Gr_init_4 : decode c_Gr_init 4 = .ok (.aload_n 0, 1) := by decide +kernel
theorem d_Gr_init_5 : decode c_Gr_init 5 = .ok (.bipush 8, 2) := by decide +kernel
theorem d_Gr_init_7 : decode c_Gr_init 7 = .ok (.newarray .int, 2) := by decide +kernel
theorem d_Gr_init_9 : decode c_Gr_init 9 = .ok (.putfield 9, 3) := by decide +kernel
theorem d_Gr_init_12 : decode c_Gr_init 12 = .ok (.aload_n 0, 1) := by decide +kernel
theorem d_Gr_init_13 : decode c_Gr_init 13 = .ok (.bipush 16, 2) := by decide +kernel
theorem d_Gr_init_15 : decode c_Gr_init 15 = .ok (.newarray .int, 2) := by decide +kernel
theorem d_Gr_init_17 : decode c_Gr_init 17 = .ok (.putfield 15, 3) := by decide +kernel
theorem d_Gr_init_20 : decode c_Gr_init 20 = .ok (.aload_n 0, 1) := by decide +kernel
theorem d_Gr_init_21 : decode c_Gr_init 21 = .ok (.bipush 64, 2) := by decide +kernel
theorem d_Gr_init_23 : decode c_Gr_init 23 = .ok (.newarray .char, 2) := by decide +kernel
theorem d_Gr_init_25 : decode c_Gr_init 25 = .ok (.putfield 18, 3) := by decide +kernel
theorem d_Gr_init_28 : decode c_Gr_init 28 = .ok (.aload_n 0, 1) := by decide +kernel
theorem d_Gr_init_29 : decode c_Gr_init 29 = .ok (.bipush 64, 2) := by decide +kernel
theorem d_Gr_init_31 : decode c_Gr_init 31 = .ok (.newarray .int, 2) := by decide +kernel
theorem d_Gr_init_33 : decode c_Gr_init 33 = .ok (.putfield 22, 3) := by decide +kernel
theorem d_Gr_init_36 : decode c_Gr_init 36 = .ok (.aload_n 0, 1) := by decide +kernel
theorem d_Gr_init_37 : decode c_Gr_init 37 = .ok (.bipush 16, 2) := by decide +kernel
theorem d_Gr_init_39 : decode c_Gr_init 39 = .ok (.newarray .int, 2) := by decide +kernel
theorem d_Gr_init_41 : decode c_Gr_init 41 = .ok (.putfield 25, 3) := by decide +kernel
theorem d_Gr_init_44 : decode c_Gr_init 44 = .ok (.aload_n 0, 1) := by decide +kernel
theorem d_Gr_init_45 : decode c_Gr_init 45 = .ok (.iconst 4, 1) := by decide +kernel
theorem d_Gr_init_46 : decode c_Gr_init 46 = .ok (.newarray .int, 2) := by decide +kernel
theorem d_Gr_init_48 : decode c_Gr_init 48 = .ok (.putfield 28, 3) := by decide +kernel
theorem d_Gr_init_51 : decode c_Gr_init 51 = .ok (.aload_n 0, 1) := by decide +kernel
theorem d_Gr_init_52 : decode c_Gr_init 52 = .ok (.iconst 4, 1) := by decide +kernel
theorem d_Gr_init_53 : decode c_Gr_init 53 = .ok (.newarray .int, 2) := by decide +kernel
theorem d_Gr_init_55 : decode c_Gr_init 55 = .ok (.putfield 31, 3) := by decide +kernel
theorem d_Gr_init_58 : decode c_Gr_init 58 = .ok (.aload_n 0, 1) := by decide +kernel
theorem d_Gr_init_59 : decode c_Gr_init 59 = .ok (.bipush 32, 2) := by decide +kernel
theorem d_Gr_init_61 : decode c_Gr_init 61 = .ok (.newarray .int, 2) := by decide +kernel
theorem d_Gr_init_63 : decode c_Gr_init 63 = .ok (.putfield 34, 3) := by decide +kernel
theorem d_Gr_init_66 : decode c_Gr_init 66 = .ok (.aload_n 0, 1) := by decide +kernel
theorem d_Gr_init_67 : decode c_Gr_init 67 = .ok (.bipush 72, 2) := by decide +kernel
theorem d_Gr_init_69 : decode c_Gr_init 69 = .ok (.newarray .int, 2) := by decide +kernel
theorem d_Gr_init_71 : decode c_Gr_init 71 = .ok (.putfield 37, 3) := by decide +kernel
theorem d_Gr_init_74 : decode c_Gr_init 74 = .ok (.aload_n 0, 1) := by decide +kernel
theorem d_Gr_init_75 : decode c_Gr_init 75 = .ok (.bipush 72, 2) := by decide +kernel
theorem d_Gr_init_77 : decode c_Gr_init 77 = .ok (.newarray .int, 2) := by decide +kernel
theorem d_Gr_init_79 : decode c_Gr_init 79 = .ok (.putfield 40, 3) := by decide +kernel
theorem d_Gr_init_82 : decode c_Gr_init 82 = .ok (.return_, 1) := by decide +kernel
theorem d_Mo_init_0 : decode c_Mo_init 0 = .ok (.aload_n 0, 1) := by decide +kernel
theorem d_Mo_init_1 : decode c_Mo_init 1 = .ok (.invokespecial 1, 3) := by decide +kernel
theorem d_Mo_init_4 : decode c_Mo_init 4 = .ok (.aload_n 0, 1) := by decide +kernel
theorem d_Mo_init_5 : decode c_Mo_init 5 = .ok (.sipush 400, 3) := by decide +kernel
theorem d_Mo_init_8 : decode c_Mo_init 8 = .ok (.newarray .char, 2) := by decide +kernel
theorem d_Mo_init_10 : decode c_Mo_init 10 = .ok (.putfield 7, 3) := by decide +kernel
theorem d_Mo_init_13 : decode c_Mo_init 13 = .ok (.aload_n 0, 1) := by decide +kernel
theorem d_Mo_init_14 : decode c_Mo_init 14 = .ok (.iconst 2, 1) := by decide +kernel
theorem d_Mo_init_15 : decode c_Mo_init 15 = .ok (.newarray .int, 2) := by decide +kernel
theorem d_Mo_init_17 : decode c_Mo_init 17 = .ok (.putfield 13, 3) := by decide +kernel
theorem d_Mo_init_20 : decode c_Mo_init 20 = .ok (.aload_n 0, 1) := by decide +kernel
theorem d_Mo_init_21 : decode c_Mo_init 21 = .ok (.bipush 48, 2) := by decide +kernel
theorem d_Mo_init_23 : decode c_Mo_init 23 = .ok (.newarray .char, 2) := by decide +kernel
theorem d_Mo_init_25 : decode c_Mo_init 25 = .ok (.putfield 17, 3) := by decide +kernel
theorem d_Mo_init_28 : decode c_Mo_init 28 = .ok (.aload_n 0, 1) := by decide +kernel
theorem d_Mo_init_29 : decode c_Mo_init 29 = .ok (.bipush 16, 2) := by decide +kernel
theorem d_Mo_init_31 : decode c_Mo_init 31 = .ok (.newarray .int, 2) := by decide +kernel
theorem d_Mo_init_33 : decode c_Mo_init 33 = .ok (.putfield 20, 3) := by decide +kernel
theorem d_Mo_init_36 : decode c_Mo_init 36 = .ok (.aload_n 0, 1) := by decide +kernel
theorem d_Mo_init_37 : decode c_Mo_init 37 = .ok (.bipush 64, 2) := by decide +kernel
theorem d_Mo_init_39 : decode c_Mo_init 39 = .ok (.newarray .char, 2) := by decide +kernel
theorem d_Mo_init_41 : decode c_Mo_init 41 = .ok (.putfield 23, 3) := by decide +kernel
theorem d_Mo_init_44 : decode c_Mo_init 44 = .ok (.aload_n 0, 1) := by decide +kernel
theorem d_Mo_init_45 : decode c_Mo_init 45 = .ok (.bipush 16, 2) := by decide +kernel
theorem d_Mo_init_47 : decode c_Mo_init 47 = .ok (.newarray .int, 2) := by decide +kernel
theorem d_Mo_init_49 : decode c_Mo_init 49 = .ok (.putfield 26, 3) := by decide +kernel
theorem d_Mo_init_52 : decode c_Mo_init 52 = .ok (.aload_n 0, 1) := by decide +kernel
theorem d_Mo_init_53 : decode c_Mo_init 53 = .ok (.iconst 2, 1) := by decide +kernel
theorem d_Mo_init_54 : decode c_Mo_init 54 = .ok (.newarray .int, 2) := by decide +kernel
theorem d_Mo_init_56 : decode c_Mo_init 56 = .ok (.putfield 29, 3) := by decide +kernel
theorem d_Mo_init_59 : decode c_Mo_init 59 = .ok (.aload_n 0, 1) := by decide +kernel
theorem d_Mo_init_60 : decode c_Mo_init 60 = .ok (.bipush 24, 2) := by decide +kernel
theorem d_Mo_init_62 : decode c_Mo_init 62 = .ok (.newarray .int, 2) := by decide +kernel
theorem d_Mo_init_64 : decode c_Mo_init 64 = .ok (.putfield 32, 3) := by decide +kernel
theorem d_Mo_init_67 : decode c_Mo_init 67 = .ok (.aload_n 0, 1) := by decide +kernel
theorem d_Mo_init_68 : decode c_Mo_init 68 = .ok (.bipush 24, 2) := by decide +kernel
theorem d_Mo_init_70 : decode c_Mo_init 70 = .ok (.newarray .int, 2) := by decide +kernel
theorem d_Mo_init_72 : decode c_Mo_init 72 = .ok (.putfield 35, 3) := by decide +kernel
theorem d_Mo_init_75 : decode c_Mo_init 75 = .ok (.aload_n 0, 1) := by decide +kernel
theorem d_Mo_init_76 : decode c_Mo_init 76 = .ok (.iconst 2, 1) := by decide +kernel
theorem d_Mo_init_77 : decode c_Mo_init 77 = .ok (.newarray .int, 2) := by decide +kernel
theorem d_Mo_init_79 : decode c_Mo_init 79 = .ok (.putfield 38, 3) := by decide +kernel
theorem d_Mo_init_82 : decode c_Mo_init 82 = .ok (.aload_n 0, 1) := by decide +kernel
theorem d_Mo_init_83 : decode c_Mo_init 83 = .ok (.bipush 24, 2) := by decide +kernel
theorem d_Mo_init_85 : decode c_Mo_init 85 = .ok (.newarray .char, 2) := by decide +kernel
theorem d_Mo_init_87 : decode c_Mo_init 87 = .ok (.putfield 41, 3) := by decide +kernel
theorem d_Mo_init_90 : decode c_Mo_init 90 = .ok (.aload_n 0, 1) := by decide +kernel
theorem d_Mo_init_91 : decode c_Mo_init 91 = .ok (.bipush 8, 2) := by decide +kernel
theorem d_Mo_init_93 : decode c_Mo_init 93 = .ok (.newarray .int, 2) := by decide +kernel
theorem d_Mo_init_95 : decode c_Mo_init 95 = .ok (.putfield 44, 3) := by decide +kernel
theorem d_Mo_init_98 : decode c_Mo_init 98 = .ok (.aload_n 0, 1) := by decide +kernel
theorem d_Mo_init_99 : decode c_Mo_init 99 = .ok (.bipush 8, 2) := by decide +kernel
theorem d_Mo_init_101 : decode c_Mo_init 101 = .ok (.newarray .int, 2) := by decide +kernel
theorem d_Mo_init_103 : decode c_Mo_init 103 = .ok (.putfield 47, 3) := by decide +kernel
theorem d_Mo_init_106 : decode c_Mo_init 106 = .ok (.aload_n 0, 1) := by decide +kernel
theorem d_Mo_init_107 : decode c_Mo_init 107 = .ok (.bipush 64, 2) := by decide +kernel
theorem d_Mo_init_109 : decode c_Mo_init 109 = .ok (.newarray .int, 2) := by decide +kernel
theorem d_Mo_init_111 : decode c_Mo_init 111 = .ok (.putfield 50, 3) := by decide +kernel
theorem d_Mo_init_114 : decode c_Mo_init 114 = .ok (.aload_n 0, 1) := by decide +kernel
theorem d_Mo_init_115 : decode c_Mo_init 115 = .ok (.bipush 64, 2) := by decide +kernel
theorem d_Mo_init_117 : decode c_Mo_init 117 = .ok (.newarray .int, 2) := by decide +kernel
theorem d_Mo_init_119 : decode c_Mo_init 119 = .ok (.putfield 53, 3) := by decide +kernel
theorem d_Mo_init_122 : decode c_Mo_init 122 = .ok (.aload_n 0, 1) := by decide +kernel
theorem d_Mo_init_123 : decode c_Mo_init 123 = .ok (.bipush 64, 2) := by decide +kernel
theorem d_Mo_init_125 : decode c_Mo_init 125 = .ok (.newarray .int, 2) := by decide +kernel
theorem d_Mo_init_127 : decode c_Mo_init 127 = .ok (.putfield 56, 3) := by decide +kernel
theorem d_Mo_init_130 : decode c_Mo_init 130 = .ok (.aload_n 0, 1) := by decide +kernel
theorem d_Mo_init_131 : decode c_Mo_init 131 = .ok (.bipush 12, 2) := by decide +kernel
theorem d_Mo_init_133 : decode c_Mo_init 133 = .ok (.newarray .char, 2) := by decide +kernel
theorem d_Mo_init_135 : decode c_Mo_init 135 = .ok (.putfield 59, 3) := by decide +kernel
theorem d_Mo_init_138 : decode c_Mo_init 138 = .ok (.aload_n 0, 1) := by decide +kernel
theorem d_Mo_init_139 : decode c_Mo_init 139 = .ok (.sipush 832, 3) := by decide +kernel
theorem d_Mo_init_142 : decode c_Mo_init 142 = .ok (.newarray .int, 2) := by decide +kernel
theorem d_Mo_init_144 : decode c_Mo_init 144 = .ok (.putfield 62, 3) := by decide +kernel
theorem d_Mo_init_147 : decode c_Mo_init 147 = .ok (.aload_n 0, 1) := by decide +kernel
theorem d_Mo_init_148 : decode c_Mo_init 148 = .ok (.bipush 64, 2) := by decide +kernel
theorem d_Mo_init_150 : decode c_Mo_init 150 = .ok (.newarray .int, 2) := by decide +kernel
theorem d_Mo_init_152 : decode c_Mo_init 152 = .ok (.putfield 65, 3) := by decide +kernel
theorem d_Mo_init_155 : decode c_Mo_init 155 = .ok (.aload_n 0, 1) := by decide +kernel
theorem d_Mo_init_156 : decode c_Mo_init 156 = .ok (.bipush 64, 2) := by decide +kernel
theorem d_Mo_init_158 : decode c_Mo_init 158 = .ok (.newarray .char, 2) := by decide +kernel
theorem d_Mo_init_160 : decode c_Mo_init 160 = .ok (.putfield 68, 3) := by decide +kernel
theorem d_Mo_init_163 : decode c_Mo_init 163 = .ok (.aload_n 0, 1) := by decide +kernel
theorem d_Mo_init_164 : decode c_Mo_init 164 = .ok (.sipush 300, 3) := by decide +kernel
theorem d_Mo_init_167 : decode c_Mo_init 167 = .ok (.newarray .char, 2) := by decide +kernel
theorem d_Mo_init_169 : decode c_Mo_init 169 = .ok (.putfield 71, 3) := by decide +kernel
theorem d_Mo_init_172 : decode c_Mo_init 172 = .ok (.return_, 1) := by decide +kernel
theorem d_AB_init_0 : decode c_AB_init 0 = .ok (.aload_n 0, 1) := by decide +kernel
theorem d_AB_init_1 : decode c_AB_init 1 = .ok (.invokespecial 3, 3) := by decide +kernel
theorem d_AB_init_4 : decode c_AB_init 4 = .ok (.getstatic 18, 3) := by decide +kernel
theorem d_AB_init_7 : decode c_AB_init 7 = .ok (.ifCond .eq 18, 3) := by decide +kernel
theorem d_AB_init_10 : decode c_AB_init 10 = .ok (.aload_n 0, 1) := by decide +kernel
theorem d_AB_init_11 : decode c_AB_init 11 = .ok (.iload_n 1, 1) := by decide +kernel
theorem d_AB_init_12 : decode c_AB_init 12 = .ok (.newarray .byte, 2) := by decide +kernel
theorem d_AB_init_14 : decode c_AB_init 14 = .ok (.putfield 15, 3) := by decide +kernel
theorem d_AB_init_17 : decode c_AB_init 17 = .ok (.aload_n 0, 1) := by decide +kernel
theorem d_AB_init_18 : decode c_AB_init 18 = .ok (.iconst 0, 1) := by decide +kernel
theorem d_AB_init_19 : decode c_AB_init 19 = .ok (.putfield 22, 3) := by decide +kernel
theorem d_AB_init_22 : decode c_AB_init 22 = .ok (.goto 16, 3) := by decide +kernel
theorem d_AB_init_25 : decode c_AB_init 25 = .ok (.aload_n 0, 1) := by decide +kernel
theorem d_AB_init_26 : decode c_AB_init 26 = .ok (.iload_n 1, 1) := by decide +kernel
theorem d_AB_init_27 : decode c_AB_init 27 = .ok (.invokestatic 26, 3) := by decide +kernel
theorem d_AB_init_30 : decode c_AB_init 30 = .ok (.putfield 15, 3) := by decide +kernel
theorem d_AB_init_33 : decode c_AB_init 33 = .ok (.aload_n 0, 1) := by decide +kernel
theorem d_AB_init_34 : decode c_AB_init 34 = .ok (.iconst 1, 1) := by decide +kernel
theorem d_AB_init_35 : decode c_AB_init 35 = .ok (.putfield 22, 3) := by decide +kernel
theorem d_AB_init_38 : decode c_AB_init 38 = .ok (.return_, 1) := by decide +kernel
theorem d_SB_init_0 : decode c_SB_init 0 = .ok (.aload_n 0, 1) := by decide +kernel
theorem d_SB_init_1 : decode c_SB_init 1 = .ok (.bipush 16, 2) := by decide +kernel
theorem d_SB_init_3 : decode c_SB_init 3 = .ok (.invokespecial 1, 3) := by decide +kernel
theorem d_SB_init_6 : decode c_SB_init 6 = .ok (.return_, 1) := by decide +kernel
theorem d_X_init_0 : decode c_X_init 0 = .ok (.aload_n 0, 1) := by decide +kernel
theorem d_X_init_1 : decode c_X_init 1 = .ok (.invokespecial 3, 3) := by decide +kernel
theorem d_X_init_4 : decode c_X_init 4 = .ok (.aload_n 0, 1) := by decide +kernel
theorem d_X_init_5 : decode c_X_init 5 = .ok (.new 9, 3) := by decide +kernel
theorem d_X_init_8 : decode c_X_init 8 = .ok (.dup, 1) := by decide +kernel
theorem d_X_init_9 : decode c_X_init 9 = .ok (.invokespecial 11, 3) := by decide +kernel
theorem d_X_init_12 : decode c_X_init 12 = .ok (.putfield 12, 3) := by decide +kernel
theorem d_X_init_15 : decode c_X_init 15 = .ok (.aload_n 0, 1) := by decide +kernel
theorem d_X_init_16 : decode c_X_init 16 = .ok (.new 16, 3) := by decide +kernel
theorem d_X_init_19 : decode c_X_init 19 = .ok (.dup, 1) := by decide +kernel
theorem d_X_init_20 : decode c_X_init 20 = .ok (.invokespecial 18, 3) := by decide +kernel
theorem d_X_init_23 : decode c_X_init 23 = .ok (.putfield 19, 3) := by decide +kernel
theorem d_X_init_26 : decode c_X_init 26 = .ok (.aload_n 0, 1) := by decide +kernel
theorem d_X_init_27 : decode c_X_init 27 = .ok (.new 23, 3) := by decide +kernel
theorem d_X_init_30 : decode c_X_init 30 = .ok (.dup, 1) := by decide +kernel
theorem d_X_init_31 : decode c_X_init 31 = .ok (.invokespecial 25, 3) := by decide +kernel
theorem d_X_init_34 : decode c_X_init 34 = .ok (.putfield 26, 3) := by decide +kernel
theorem d_X_init_37 : decode c_X_init 37 = .ok (.aload_n 0, 1) := by decide +kernel
theorem d_X_init_38 : decode c_X_init 38 = .ok (.new 30, 3) := by decide +kernel
theorem d_X_init_41 : decode c_X_init 41 = .ok (.dup, 1) := by decide +kernel
theorem d_X_init_42 : decode c_X_init 42 = .ok (.invokespecial 32, 3) := by decide +kernel
theorem d_X_init_45 : decode c_X_init 45 = .ok (.putfield 33, 3) := by decide +kernel
theorem d_X_init_48 : decode c_X_init 48 = .ok (.aload_n 0, 1) := by decide +kernel
theorem d_X_init_49 : decode c_X_init 49 = .ok (.new 37, 3) := by decide +kernel
theorem d_X_init_52 : decode c_X_init 52 = .ok (.dup, 1) := by decide +kernel
theorem d_X_init_53 : decode c_X_init 53 = .ok (.invokespecial 39, 3) := by decide +kernel
theorem d_X_init_56 : decode c_X_init 56 = .ok (.putfield 40, 3) := by decide +kernel
theorem d_X_init_59 : decode c_X_init 59 = .ok (.aload_n 0, 1) := by decide +kernel
theorem d_X_init_60 : decode c_X_init 60 = .ok (.new 44, 3) := by decide +kernel
theorem d_X_init_63 : decode c_X_init 63 = .ok (.dup, 1) := by decide +kernel
theorem d_X_init_64 : decode c_X_init 64 = .ok (.invokespecial 46, 3) := by decide +kernel
theorem d_X_init_67 : decode c_X_init 67 = .ok (.putfield 47, 3) := by decide +kernel
theorem d_X_init_70 : decode c_X_init 70 = .ok (.aload_n 0, 1) := by decide +kernel
theorem d_X_init_71 : decode c_X_init 71 = .ok (.new 44, 3) := by decide +kernel
theorem d_X_init_74 : decode c_X_init 74 = .ok (.dup, 1) := by decide +kernel
theorem d_X_init_75 : decode c_X_init 75 = .ok (.invokespecial 46, 3) := by decide +kernel
theorem d_X_init_78 : decode c_X_init 78 = .ok (.putfield 51, 3) := by decide +kernel
theorem d_X_init_81 : decode c_X_init 81 = .ok (.return_, 1) := by decide +kernel
