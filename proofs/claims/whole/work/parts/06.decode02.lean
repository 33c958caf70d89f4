theorem d_Rs_stepBack_158 : decode c_Rs_stepBack 158 = .ok (.aload_n 0, 1) := by decide +kernel
theorem d_Rs_stepBack_159 : decode c_Rs_stepBack 159 = .ok (.bipush 73, 2) := by decide +kernel
theorem d_Rs_stepBack_161 : decode c_Rs_stepBack 161 = .ok (.invokevirtual 86, 3) := by decide +kernel
theorem d_Rs_stepBack_164 : decode c_Rs_stepBack 164 = .ok (.aload_n 0, 1) := by decide +kernel
theorem d_Rs_stepBack_165 : decode c_Rs_stepBack 165 = .ok (.dup, 1) := by decide +kernel
theorem d_Rs_stepBack_166 : decode c_Rs_stepBack 166 = .ok (.getfield 34, 3) := by decide +kernel
theorem d_Rs_stepBack_169 : decode c_Rs_stepBack 169 = .ok (.iconst 1, 1) := by decide +kernel
theorem d_Rs_stepBack_170 : decode c_Rs_stepBack 170 = .ok (.isub, 1) := by decide +kernel
theorem d_Rs_stepBack_171 : decode c_Rs_stepBack 171 = .ok (.putfield 34, 3) := by decide +kernel
theorem d_Rs_stepBack_174 : decode c_Rs_stepBack 174 = .ok (.iconst 1, 1) := by decide +kernel
theorem d_Rs_stepBack_175 : decode c_Rs_stepBack 175 = .ok (.ireturn, 1) := by decide +kernel
theorem d_Rs_stepBack_176 : decode c_Rs_stepBack 176 = .ok (.aload_n 0, 1) := by decide +kernel
theorem d_Rs_stepBack_177 : decode c_Rs_stepBack 177 = .ok (.aload_n 1, 1) := by decide +kernel
theorem d_Rs_stepBack_178 : decode c_Rs_stepBack 178 = .ok (.aload_n 3, 1) := by decide +kernel
theorem d_Rs_stepBack_179 : decode c_Rs_stepBack 179 = .ok (.iload 4, 2) := by decide +kernel
theorem d_Rs_stepBack_181 : decode c_Rs_stepBack 181 = .ok (.invokevirtual 89, 3) := by decide +kernel
theorem d_Rs_stepBack_184 : decode c_Rs_stepBack 184 = .ok (.ireturn, 1) := by decide +kernel
theorem d_Rs_placeAt_0 : decode c_Rs_placeAt 0 = .ok (.aload_n 0, 1) := by decide +kernel
theorem d_Rs_placeAt_1 : decode c_Rs_placeAt 1 = .ok (.getfield 15, 3) := by decide +kernel
theorem d_Rs_placeAt_4 : decode c_Rs_placeAt 4 = .ok (.aload_n 0, 1) := by decide +kernel
theorem d_Rs_placeAt_5 : decode c_Rs_placeAt 5 = .ok (.getfield 22, 3) := by decide +kernel
theorem d_Rs_placeAt_8 : decode c_Rs_placeAt 8 = .ok (.iconst 1, 1) := by decide +kernel
theorem d_Rs_placeAt_9 : decode c_Rs_placeAt 9 = .ok (.isub, 1) := by decide +kernel
theorem d_Rs_placeAt_10 : decode c_Rs_placeAt 10 = .ok (.iload_n 1, 1) := by decide +kernel
theorem d_Rs_placeAt_11 : decode c_Rs_placeAt 11 = .ok (.isub, 1) := by decide +kernel
theorem d_Rs_placeAt_12 : decode c_Rs_placeAt 12 = .ok (.iaload, 1) := by decide +kernel
theorem d_Rs_placeAt_13 : decode c_Rs_placeAt 13 = .ok (.ireturn, 1) := by decide +kernel
theorem d_Gr_beginsSide_0 : decode c_Gr_beginsSide 0 = .ok (.iload_n 1, 1) := by decide +kernel
theorem d_Gr_beginsSide_1 : decode c_Gr_beginsSide 1 = .ok (.aload_n 0, 1) := by decide +kernel
theorem d_Gr_beginsSide_2 : decode c_Gr_beginsSide 2 = .ok (.aload_n 0, 1) := by decide +kernel
theorem d_Gr_beginsSide_3 : decode c_Gr_beginsSide 3 = .ok (.getfield 22, 3) := by decide +kernel
theorem d_Gr_beginsSide_6 : decode c_Gr_beginsSide 6 = .ok (.iload_n 1, 1) := by decide +kernel
theorem d_Gr_beginsSide_7 : decode c_Gr_beginsSide 7 = .ok (.iaload, 1) := by decide +kernel
theorem d_Gr_beginsSide_8 : decode c_Gr_beginsSide 8 = .ok (.invokevirtual 88, 3) := by decide +kernel
theorem d_Gr_beginsSide_11 : decode c_Gr_beginsSide 11 = .ok (.if_icmp .ne 7, 3) := by decide +kernel
theorem d_Gr_beginsSide_14 : decode c_Gr_beginsSide 14 = .ok (.iconst 1, 1) := by decide +kernel
theorem d_Gr_beginsSide_15 : decode c_Gr_beginsSide 15 = .ok (.goto 4, 3) := by decide +kernel
theorem d_Gr_beginsSide_18 : decode c_Gr_beginsSide 18 = .ok (.iconst 0, 1) := by decide +kernel
theorem d_Gr_beginsSide_19 : decode c_Gr_beginsSide 19 = .ok (.ireturn, 1) := by decide +kernel
theorem d_Rs_listSides_0 : decode c_Rs_listSides 0 = .ok (.aload_n 0, 1) := by decide +kernel
theorem d_Rs_listSides_1 : decode c_Rs_listSides 1 = .ok (.iconst 0, 1) := by decide +kernel
theorem d_Rs_listSides_2 : decode c_Rs_listSides 2 = .ok (.putfield 93, 3) := by decide +kernel
theorem d_Rs_listSides_5 : decode c_Rs_listSides 5 = .ok (.iconst 0, 1) := by decide +kernel
theorem d_Rs_listSides_6 : decode c_Rs_listSides 6 = .ok (.istore_n 2, 1) := by decide +kernel
theorem d_Rs_listSides_7 : decode c_Rs_listSides 7 = .ok (.iload_n 2, 1) := by decide +kernel
theorem d_Rs_listSides_8 : decode c_Rs_listSides 8 = .ok (.aload_n 0, 1) := by decide +kernel
theorem d_Rs_listSides_9 : decode c_Rs_listSides 9 = .ok (.getfield 22, 3) := by decide +kernel
theorem d_Rs_listSides_12 : decode c_Rs_listSides 12 = .ok (.if_icmp .ge 52, 3) := by decide +kernel
theorem d_Rs_listSides_15 : decode c_Rs_listSides 15 = .ok (.aload_n 0, 1) := by decide +kernel
theorem d_Rs_listSides_16 : decode c_Rs_listSides 16 = .ok (.iload_n 2, 1) := by decide +kernel
theorem d_Rs_listSides_17 : decode c_Rs_listSides 17 = .ok (.invokevirtual 96, 3) := by decide +kernel
theorem d_Rs_listSides_20 : decode c_Rs_listSides 20 = .ok (.istore_n 3, 1) := by decide +kernel
theorem d_Rs_listSides_21 : decode c_Rs_listSides 21 = .ok (.iload_n 2, 1) := by decide +kernel
theorem d_Rs_listSides_22 : decode c_Rs_listSides 22 = .ok (.ifCond .eq 11, 3) := by decide +kernel
theorem d_Rs_listSides_25 : decode c_Rs_listSides 25 = .ok (.aload_n 1, 1) := by decide +kernel
theorem d_Rs_listSides_26 : decode c_Rs_listSides 26 = .ok (.iload_n 3, 1) := by decide +kernel
theorem d_Rs_listSides_27 : decode c_Rs_listSides 27 = .ok (.invokevirtual 100, 3) := by decide +kernel
theorem d_Rs_listSides_30 : decode c_Rs_listSides 30 = .ok (.ifCond .eq 28, 3) := by decide +kernel
theorem d_Rs_listSides_33 : decode c_Rs_listSides 33 = .ok (.aload_n 0, 1) := by decide +kernel
theorem d_Rs_listSides_34 : decode c_Rs_listSides 34 = .ok (.getfield 9, 3) := by decide +kernel
theorem d_Rs_listSides_37 : decode c_Rs_listSides 37 = .ok (.aload_n 0, 1) := by decide +kernel
theorem d_Rs_listSides_38 : decode c_Rs_listSides 38 = .ok (.getfield 93, 3) := by decide +kernel
theorem d_Rs_listSides_41 : decode c_Rs_listSides 41 = .ok (.aload_n 1, 1) := by decide +kernel
theorem d_Rs_listSides_42 : decode c_Rs_listSides 42 = .ok (.getfield 104, 3) := by decide +kernel
theorem d_Rs_listSides_45 : decode c_Rs_listSides 45 = .ok (.iload_n 3, 1) := by decide +kernel
theorem d_Rs_listSides_46 : decode c_Rs_listSides 46 = .ok (.iaload, 1) := by decide +kernel
theorem d_Rs_listSides_47 : decode c_Rs_listSides 47 = .ok (.iastore, 1) := by decide +kernel
theorem d_Rs_listSides_48 : decode c_Rs_listSides 48 = .ok (.aload_n 0, 1) := by decide +kernel
theorem d_Rs_listSides_49 : decode c_Rs_listSides 49 = .ok (.dup, 1) := by decide +kernel
theorem d_Rs_listSides_50 : decode c_Rs_listSides 50 = .ok (.getfield 93, 3) := by decide +kernel
theorem d_Rs_listSides_53 : decode c_Rs_listSides 53 = .ok (.iconst 1, 1) := by decide +kernel
theorem d_Rs_listSides_54 : decode c_Rs_listSides 54 = .ok (.iadd, 1) := by decide +kernel
theorem d_Rs_listSides_55 : decode c_Rs_listSides 55 = .ok (.putfield 93, 3) := by decide +kernel
theorem d_Rs_listSides_58 : decode c_Rs_listSides 58 = .ok (.iinc 2 1, 3) := by decide +kernel
theorem d_Rs_listSides_61 : decode c_Rs_listSides 61 = .ok (.goto (-54), 3) := by decide +kernel
theorem d_Rs_listSides_64 : decode c_Rs_listSides 64 = .ok (.return_, 1) := by decide +kernel
theorem d_Rs_find_0 : decode c_Rs_find 0 = .ok (.aload_n 0, 1) := by decide +kernel
theorem d_Rs_find_1 : decode c_Rs_find 1 = .ok (.iconst 0, 1) := by decide +kernel
theorem d_Rs_find_2 : decode c_Rs_find 2 = .ok (.putfield 22, 3) := by decide +kernel
theorem d_Rs_find_5 : decode c_Rs_find 5 = .ok (.aload_n 0, 1) := by decide +kernel
theorem d_Rs_find_6 : decode c_Rs_find 6 = .ok (.iconst 0, 1) := by decide +kernel
theorem d_Rs_find_7 : decode c_Rs_find 7 = .ok (.putfield 26, 3) := by decide +kernel
theorem d_Rs_find_10 : decode c_Rs_find 10 = .ok (.aload_n 0, 1) := by decide +kernel
theorem d_Rs_find_11 : decode c_Rs_find 11 = .ok (.aload_n 2, 1) := by decide +kernel
theorem d_Rs_find_12 : decode c_Rs_find 12 = .ok (.getfield 29, 3) := by decide +kernel
theorem d_Rs_find_15 : decode c_Rs_find 15 = .ok (.putfield 34, 3) := by decide +kernel
theorem d_Rs_find_18 : decode c_Rs_find 18 = .ok (.aload_n 0, 1) := by decide +kernel
theorem d_Rs_find_19 : decode c_Rs_find 19 = .ok (.aload_n 3, 1) := by decide +kernel
theorem d_Rs_find_20 : decode c_Rs_find 20 = .ok (.aload_n 1, 1) := by decide +kernel
theorem d_Rs_find_21 : decode c_Rs_find 21 = .ok (.aload_n 0, 1) := by decide +kernel
theorem d_Rs_find_22 : decode c_Rs_find 22 = .ok (.getfield 34, 3) := by decide +kernel
theorem d_Rs_find_25 : decode c_Rs_find 25 = .ok (.invokevirtual 37, 3) := by decide +kernel
theorem d_Rs_find_28 : decode c_Rs_find 28 = .ok (.putfield 43, 3) := by decide +kernel
theorem d_Rs_find_31 : decode c_Rs_find 31 = .ok (.aload_n 0, 1) := by decide +kernel
theorem d_Rs_find_32 : decode c_Rs_find 32 = .ok (.aload_n 3, 1) := by decide +kernel
theorem d_Rs_find_33 : decode c_Rs_find 33 = .ok (.aload_n 0, 1) := by decide +kernel
theorem d_Rs_find_34 : decode c_Rs_find 34 = .ok (.getfield 34, 3) := by decide +kernel
theorem d_Rs_find_37 : decode c_Rs_find 37 = .ok (.aload_n 0, 1) := by decide +kernel
theorem d_Rs_find_38 : decode c_Rs_find 38 = .ok (.getfield 43, 3) := by decide +kernel
theorem d_Rs_find_41 : decode c_Rs_find 41 = .ok (.invokevirtual 46, 3) := by decide +kernel
theorem d_Rs_find_44 : decode c_Rs_find 44 = .ok (.putfield 50, 3) := by decide +kernel
theorem d_Rs_find_47 : decode c_Rs_find 47 = .ok (.iconst 1, 1) := by decide +kernel
theorem d_Rs_find_48 : decode c_Rs_find 48 = .ok (.istore 4, 2) := by decide +kernel
theorem d_Rs_find_50 : decode c_Rs_find 50 = .ok (.iconst 0, 1) := by decide +kernel
theorem d_Rs_find_51 : decode c_Rs_find 51 = .ok (.istore 5, 2) := by decide +kernel
theorem d_Rs_find_53 : decode c_Rs_find 53 = .ok (.iload 4, 2) := by decide +kernel
theorem d_Rs_find_55 : decode c_Rs_find 55 = .ok (.ifCond .eq 25, 3) := by decide +kernel
theorem d_Rs_find_58 : decode c_Rs_find 58 = .ok (.iload 5, 2) := by decide +kernel
theorem d_Rs_find_60 : decode c_Rs_find 60 = .ok (.bipush 25, 2) := by decide +kernel
theorem d_Rs_find_62 : decode c_Rs_find 62 = .ok (.if_icmp .ge 18, 3) := by decide +kernel
theorem d_Rs_find_65 : decode c_Rs_find 65 = .ok (.aload_n 0, 1) := by decide +kernel
theorem d_Rs_find_66 : decode c_Rs_find 66 = .ok (.aload_n 1, 1) := by decide +kernel
theorem d_Rs_find_67 : decode c_Rs_find 67 = .ok (.aload_n 2, 1) := by decide +kernel
theorem d_Rs_find_68 : decode c_Rs_find 68 = .ok (.aload_n 3, 1) := by decide +kernel
theorem d_Rs_find_69 : decode c_Rs_find 69 = .ok (.invokevirtual 53, 3) := by decide +kernel
theorem d_Rs_find_72 : decode c_Rs_find 72 = .ok (.istore 4, 2) := by decide +kernel
theorem d_Rs_find_74 : decode c_Rs_find 74 = .ok (.iinc 5 1, 3) := by decide +kernel
theorem d_Rs_find_77 : decode c_Rs_find 77 = .ok (.goto (-24), 3) := by decide +kernel
theorem d_Rs_find_80 : decode c_Rs_find 80 = .ok (.aload_n 0, 1) := by decide +kernel
theorem d_Rs_find_81 : decode c_Rs_find 81 = .ok (.aload_n 1, 1) := by decide +kernel
theorem d_Rs_find_82 : decode c_Rs_find 82 = .ok (.invokevirtual 57, 3) := by decide +kernel
theorem d_Rs_find_85 : decode c_Rs_find 85 = .ok (.aload_n 0, 1) := by decide +kernel
theorem d_Rs_find_86 : decode c_Rs_find 86 = .ok (.iconst 1, 1) := by decide +kernel
theorem d_Rs_find_87 : decode c_Rs_find 87 = .ok (.putfield 61, 3) := by decide +kernel
theorem d_Rs_find_90 : decode c_Rs_find 90 = .ok (.return_, 1) := by decide +kernel
theorem d_X_align_0 : decode c_X_align 0 = .ok (.aload_n 0, 1) := by decide +kernel
theorem d_X_align_1 : decode c_X_align 1 = .ok (.getfield 47, 3) := by decide +kernel
theorem d_X_align_4 : decode c_X_align 4 = .ok (.getfield 76, 3) := by decide +kernel
theorem d_X_align_7 : decode c_X_align 7 = .ok (.ifCond .ne 6, 3) := by decide +kernel
theorem d_X_align_10 : decode c_X_align 10 = .ok (.bipush (-2), 2) := by decide +kernel
theorem d_X_align_12 : decode c_X_align 12 = .ok (.ireturn, 1) := by decide +kernel
theorem d_X_align_13 : decode c_X_align 13 = .ok (.aload_n 0, 1) := by decide +kernel
theorem d_X_align_14 : decode c_X_align 14 = .ok (.getfield 26, 3) := by decide +kernel
theorem d_X_align_17 : decode c_X_align 17 = .ok (.aload_n 0, 1) := by decide +kernel
theorem d_X_align_18 : decode c_X_align 18 = .ok (.getfield 47, 3) := by decide +kernel
theorem d_X_align_21 : decode c_X_align 21 = .ok (.aload_n 0, 1) := by decide +kernel
theorem d_X_align_22 : decode c_X_align 22 = .ok (.getfield 19, 3) := by decide +kernel
theorem d_X_align_25 : decode c_X_align 25 = .ok (.aload_n 0, 1) := by decide +kernel
theorem d_X_align_26 : decode c_X_align 26 = .ok (.getfield 19, 3) := by decide +kernel
theorem d_X_align_29 : decode c_X_align 29 = .ok (.getfield 101, 3) := by decide +kernel
theorem d_X_align_32 : decode c_X_align 32 = .ok (.invokevirtual 102, 3) := by decide +kernel
theorem d_X_align_35 : decode c_X_align 35 = .ok (.aload_n 0, 1) := by decide +kernel
theorem d_X_align_36 : decode c_X_align 36 = .ok (.getfield 33, 3) := by decide +kernel
theorem d_X_align_39 : decode c_X_align 39 = .ok (.aload_n 0, 1) := by decide +kernel
theorem d_X_align_40 : decode c_X_align 40 = .ok (.getfield 47, 3) := by decide +kernel
theorem d_X_align_43 : decode c_X_align 43 = .ok (.aload_n 0, 1) := by decide +kernel
theorem d_X_align_44 : decode c_X_align 44 = .ok (.getfield 19, 3) := by decide +kernel
theorem d_X_align_47 : decode c_X_align 47 = .ok (.aload_n 0, 1) := by decide +kernel
theorem d_X_align_48 : decode c_X_align 48 = .ok (.getfield 26, 3) := by decide +kernel
theorem d_X_align_51 : decode c_X_align 51 = .ok (.invokevirtual 106, 3) := by decide +kernel
theorem d_X_align_54 : decode c_X_align 54 = .ok (.aload_n 0, 1) := by decide +kernel
theorem d_X_align_55 : decode c_X_align 55 = .ok (.getfield 33, 3) := by decide +kernel
theorem d_X_align_58 : decode c_X_align 58 = .ok (.getfield 110, 3) := by decide +kernel
theorem d_X_align_61 : decode c_X_align 61 = .ok (.ireturn, 1) := by decide +kernel
theorem d_X_least_0 : decode c_X_least 0 = .ok (.iload_n 1, 1) := by decide +kernel
theorem d_X_least_1 : decode c_X_least 1 = .ok (.ifCond .lt 25, 3) := by decide +kernel
theorem d_X_least_4 : decode c_X_least 4 = .ok (.iload_n 1, 1) := by decide +kernel
theorem d_X_least_5 : decode c_X_least 5 = .ok (.aload_n 0, 1) := by decide +kernel
theorem d_X_least_6 : decode c_X_least 6 = .ok (.getfield 19, 3) := by decide +kernel
theorem d_X_least_9 : decode c_X_least 9 = .ok (.getfield 101, 3) := by decide +kernel
theorem d_X_least_12 : decode c_X_least 12 = .ok (.if_icmp .gt 14, 3) := by decide +kernel
theorem d_X_least_15 : decode c_X_least 15 = .ok (.aload_n 0, 1) := by decide +kernel
theorem d_X_least_16 : decode c_X_least 16 = .ok (.getfield 47, 3) := by decide +kernel
theorem d_X_least_19 : decode c_X_least 19 = .ok (.iload_n 2, 1) := by decide +kernel
theorem d_X_least_20 : decode c_X_least 20 = .ok (.invokevirtual 88, 3) := by decide +kernel
theorem d_X_least_23 : decode c_X_least 23 = .ok (.ifCond .ne 5, 3) := by decide +kernel
theorem d_X_least_26 : decode c_X_least 26 = .ok (.iconst (-1), 1) := by decide +kernel
theorem d_X_least_27 : decode c_X_least 27 = .ok (.ireturn, 1) := by decide +kernel
theorem d_X_least_28 : decode c_X_least 28 = .ok (.aload_n 0, 1) := by decide +kernel
theorem d_X_least_29 : decode c_X_least 29 = .ok (.getfield 26, 3) := by decide +kernel
theorem d_X_least_32 : decode c_X_least 32 = .ok (.aload_n 0, 1) := by decide +kernel
theorem d_X_least_33 : decode c_X_least 33 = .ok (.getfield 47, 3) := by decide +kernel
theorem d_X_least_36 : decode c_X_least 36 = .ok (.aload_n 0, 1) := by decide +kernel
theorem d_X_least_37 : decode c_X_least 37 = .ok (.getfield 19, 3) := by decide +kernel
theorem d_X_least_40 : decode c_X_least 40 = .ok (.iload_n 1, 1) := by decide +kernel
theorem d_X_least_41 : decode c_X_least 41 = .ok (.invokevirtual 102, 3) := by decide +kernel
theorem d_X_least_44 : decode c_X_least 44 = .ok (.aload_n 0, 1) := by decide +kernel
theorem d_X_least_45 : decode c_X_least 45 = .ok (.getfield 26, 3) := by decide +kernel
theorem d_X_least_48 : decode c_X_least 48 = .ok (.iload_n 1, 1) := by decide +kernel
theorem d_X_least_49 : decode c_X_least 49 = .ok (.iload_n 2, 1) := by decide +kernel
theorem d_X_least_50 : decode c_X_least 50 = .ok (.invokevirtual 113, 3) := by decide +kernel
theorem d_X_least_53 : decode c_X_least 53 = .ok (.ireturn, 1) := by decide +kernel
theorem d_X_walk_0 : decode c_X_walk 0 = .ok (.aload_n 0, 1) := by decide +kernel
theorem d_X_walk_1 : decode c_X_walk 1 = .ok (.getfield 33, 3) := by decide +kernel
theorem d_X_walk_4 : decode c_X_walk 4 = .ok (.getfield 72, 3) := by decide +kernel
theorem d_X_walk_7 : decode c_X_walk 7 = .ok (.ifCond .eq 29, 3) := by decide +kernel
theorem d_X_walk_10 : decode c_X_walk 10 = .ok (.iload_n 1, 1) := by decide +kernel
theorem d_X_walk_11 : decode c_X_walk 11 = .ok (.ifCond .lt 25, 3) := by decide +kernel
theorem d_X_walk_14 : decode c_X_walk 14 = .ok (.iload_n 1, 1) := by decide +kernel
theorem d_X_walk_15 : decode c_X_walk 15 = .ok (.aload_n 0, 1) := by decide +kernel
theorem d_X_walk_16 : decode c_X_walk 16 = .ok (.getfield 33, 3) := by decide +kernel
theorem d_X_walk_19 : decode c_X_walk 19 = .ok (.getfield 117, 3) := by decide +kernel
theorem d_X_walk_22 : decode c_X_walk 22 = .ok (.if_icmp .ge 14, 3) := by decide +kernel
theorem d_X_walk_25 : decode c_X_walk 25 = .ok (.aload_n 0, 1) := by decide +kernel
theorem d_X_walk_26 : decode c_X_walk 26 = .ok (.getfield 33, 3) := by decide +kernel
theorem d_X_walk_29 : decode c_X_walk 29 = .ok (.iload_n 1, 1) := by decide +kernel
theorem d_X_walk_30 : decode c_X_walk 30 = .ok (.invokevirtual 120, 3) := by decide +kernel
theorem d_X_walk_33 : decode c_X_walk 33 = .ok (.goto 4, 3) := by decide +kernel
theorem d_X_walk_36 : decode c_X_walk 36 = .ok (.iconst (-1), 1) := by decide +kernel
theorem d_X_walk_37 : decode c_X_walk 37 = .ok (.ireturn, 1) := by decide +kernel
theorem d_Rs_editAt_0 : decode c_Rs_editAt 0 = .ok (.aload_n 0, 1) := by decide +kernel
theorem d_Rs_editAt_1 : decode c_Rs_editAt 1 = .ok (.getfield 18, 3) := by decide +kernel
theorem d_Rs_editAt_4 : decode c_Rs_editAt 4 = .ok (.aload_n 0, 1) := by decide +kernel
theorem d_Rs_editAt_5 : decode c_Rs_editAt 5 = .ok (.getfield 26, 3) := by decide +kernel
theorem d_Rs_editAt_8 : decode c_Rs_editAt 8 = .ok (.iconst 1, 1) := by decide +kernel
theorem d_Rs_editAt_9 : decode c_Rs_editAt 9 = .ok (.isub, 1) := by decide +kernel
theorem d_Rs_editAt_10 : decode c_Rs_editAt 10 = .ok (.iload_n 1, 1) := by decide +kernel
theorem d_Rs_editAt_11 : decode c_Rs_editAt 11 = .ok (.isub, 1) := by decide +kernel
theorem d_Rs_editAt_12 : decode c_Rs_editAt 12 = .ok (.caload, 1) := by decide +kernel
theorem d_Rs_editAt_13 : decode c_Rs_editAt 13 = .ok (.ireturn, 1) := by decide +kernel
theorem d_X_edit_0 : decode c_X_edit 0 = .ok (.aload_n 0, 1) := by decide +kernel
theorem d_X_edit_1 : decode c_X_edit 1 = .ok (.getfield 33, 3) := by decide +kernel
theorem d_X_edit_4 : decode c_X_edit 4 = .ok (.getfield 72, 3) := by decide +kernel
theorem d_X_edit_7 : decode c_X_edit 7 = .ok (.ifCond .eq 29, 3) := by decide +kernel
theorem d_X_edit_10 : decode c_X_edit 10 = .ok (.iload_n 1, 1) := by decide +kernel
theorem d_X_edit_11 : decode c_X_edit 11 = .ok (.ifCond .lt 25, 3) := by decide +kernel
theorem d_X_edit_14 : decode c_X_edit 14 = .ok (.iload_n 1, 1) := by decide +kernel
theorem d_X_edit_15 : decode c_X_edit 15 = .ok (.aload_n 0, 1) := by decide +kernel
theorem d_X_edit_16 : decode c_X_edit 16 = .ok (.getfield 33, 3) := by decide +kernel
theorem d_X_edit_19 : decode c_X_edit 19 = .ok (.getfield 124, 3) := by decide +kernel
theorem d_X_edit_22 : decode c_X_edit 22 = .ok (.if_icmp .ge 14, 3) := by decide +kernel
theorem d_X_edit_25 : decode c_X_edit 25 = .ok (.aload_n 0, 1) := by decide +kernel
theorem d_X_edit_26 : decode c_X_edit 26 = .ok (.getfield 33, 3) := by decide +kernel
theorem d_X_edit_29 : decode c_X_edit 29 = .ok (.iload_n 1, 1) := by decide +kernel
theorem d_X_edit_30 : decode c_X_edit 30 = .ok (.invokevirtual 127, 3) := by decide +kernel
theorem d_X_edit_33 : decode c_X_edit 33 = .ok (.goto 4, 3) := by decide +kernel
theorem d_X_edit_36 : decode c_X_edit 36 = .ok (.iconst (-1), 1) := by decide +kernel
theorem d_X_edit_37 : decode c_X_edit 37 = .ok (.ireturn, 1) := by decide +kernel
theorem d_X_liesForwards_0 : decode c_X_liesForwards 0 = .ok (.iconst 0, 1) := by decide +kernel
theorem d_X_liesForwards_1 : decode c_X_liesForwards 1 = .ok (.istore_n 2, 1) := by decide +kernel
theorem d_X_liesForwards_2 : decode c_X_liesForwards 2 = .ok (.iload_n 2, 1) := by decide +kernel
theorem d_X_liesForwards_3 : decode c_X_liesForwards 3 = .ok (.aload_n 0, 1) := by decide +kernel
theorem d_X_liesForwards_4 : decode c_X_liesForwards 4 = .ok (.getfield 33, 3) := by decide +kernel
theorem d_X_liesForwards_7 : decode c_X_liesForwards 7 = .ok (.getfield 135, 3) := by decide +kernel
theorem d_X_liesForwards_10 : decode c_X_liesForwards 10 = .ok (.if_icmp .ge 34, 3) := by decide +kernel
theorem d_X_liesForwards_13 : decode c_X_liesForwards 13 = .ok (.aload_n 0, 1) := by decide +kernel
theorem d_X_liesForwards_14 : decode c_X_liesForwards 14 = .ok (.getfield 47, 3) := by decide +kernel
theorem d_X_liesForwards_17 : decode c_X_liesForwards 17 = .ok (.getfield 224, 3) := by decide +kernel
theorem d_X_liesForwards_20 : decode c_X_liesForwards 20 = .ok (.iload_n 1, 1) := by decide +kernel
theorem d_X_liesForwards_21 : decode c_X_liesForwards 21 = .ok (.iload_n 2, 1) := by decide +kernel
theorem d_X_liesForwards_22 : decode c_X_liesForwards 22 = .ok (.iadd, 1) := by decide +kernel
theorem d_X_liesForwards_23 : decode c_X_liesForwards 23 = .ok (.iaload, 1) := by decide +kernel
theorem d_X_liesForwards_24 : decode c_X_liesForwards 24 = .ok (.aload_n 0, 1) := by decide +kernel
theorem d_X_liesForwards_25 : decode c_X_liesForwards 25 = .ok (.getfield 33, 3) := by decide +kernel
theorem d_X_liesForwards_28 : decode c_X_liesForwards 28 = .ok (.getfield 227, 3) := by decide +kernel
theorem d_X_liesForwards_31 : decode c_X_liesForwards 31 = .ok (.iload_n 2, 1) := by decide +kernel
theorem d_X_liesForwards_32 : decode c_X_liesForwards 32 = .ok (.iaload, 1) := by decide +kernel
theorem d_X_liesForwards_33 : decode c_X_liesForwards 33 = .ok (.if_icmp .eq 5, 3) := by decide +kernel
theorem d_X_liesForwards_36 : decode c_X_liesForwards 36 = .ok (.iconst 0, 1) := by decide +kernel
theorem d_X_liesForwards_37 : decode c_X_liesForwards 37 = .ok (.ireturn, 1) := by decide +kernel
theorem d_X_liesForwards_38 : decode c_X_liesForwards 38 = .ok (.iinc 2 1, 3) := by decide +kernel
theorem d_X_liesForwards_41 : decode c_X_liesForwards 41 = .ok (.goto (-39), 3) := by decide +kernel
theorem d_X_liesForwards_44 : decode c_X_liesForwards 44 = .ok (.iconst 1, 1) := by decide +kernel
theorem d_X_liesForwards_45 : decode c_X_liesForwards 45 = .ok (.ireturn, 1) := by decide +kernel
theorem d_X_liesTurned_0 : decode c_X_liesTurned 0 = .ok (.aload_n 0, 1) := by decide +kernel
theorem d_X_liesTurned_1 : decode c_X_liesTurned 1 = .ok (.getfield 33, 3) := by decide +kernel
theorem d_X_liesTurned_4 : decode c_X_liesTurned 4 = .ok (.getfield 135, 3) := by decide +kernel
theorem d_X_liesTurned_7 : decode c_X_liesTurned 7 = .ok (.iconst 1, 1) := by decide +kernel
theorem d_X_liesTurned_8 : decode c_X_liesTurned 8 = .ok (.isub, 1) := by decide +kernel
theorem d_X_liesTurned_9 : decode c_X_liesTurned 9 = .ok (.istore_n 2, 1) := by decide +kernel
theorem d_X_liesTurned_10 : decode c_X_liesTurned 10 = .ok (.iconst 0, 1) := by decide +kernel
theorem d_X_liesTurned_11 : decode c_X_liesTurned 11 = .ok (.istore_n 3, 1) := by decide +kernel
theorem d_X_liesTurned_12 : decode c_X_liesTurned 12 = .ok (.iload_n 3, 1) := by decide +kernel
theorem d_X_liesTurned_13 : decode c_X_liesTurned 13 = .ok (.iload_n 2, 1) := by decide +kernel
theorem d_X_liesTurned_14 : decode c_X_liesTurned 14 = .ok (.if_icmp .gt 39, 3) := by decide +kernel
theorem d_X_liesTurned_17 : decode c_X_liesTurned 17 = .ok (.aload_n 0, 1) := by decide +kernel
theorem d_X_liesTurned_18 : decode c_X_liesTurned 18 = .ok (.getfield 47, 3) := by decide +kernel
theorem d_X_liesTurned_21 : decode c_X_liesTurned 21 = .ok (.getfield 224, 3) := by decide +kernel
theorem d_X_liesTurned_24 : decode c_X_liesTurned 24 = .ok (.iload_n 1, 1) := by decide +kernel
theorem d_X_liesTurned_25 : decode c_X_liesTurned 25 = .ok (.iload_n 3, 1) := by decide +kernel
theorem d_X_liesTurned_26 : decode c_X_liesTurned 26 = .ok (.iadd, 1) := by decide +kernel
theorem d_X_liesTurned_27 : decode c_X_liesTurned 27 = .ok (.iaload, 1) := by decide +kernel
theorem d_X_liesTurned_28 : decode c_X_liesTurned 28 = .ok (.aload_n 0, 1) := by decide +kernel
theorem d_X_liesTurned_29 : decode c_X_liesTurned 29 = .ok (.getfield 33, 3) := by decide +kernel
theorem d_X_liesTurned_32 : decode c_X_liesTurned 32 = .ok (.getfield 227, 3) := by decide +kernel
theorem d_X_liesTurned_35 : decode c_X_liesTurned 35 = .ok (.iload_n 2, 1) := by decide +kernel
theorem d_X_liesTurned_36 : decode c_X_liesTurned 36 = .ok (.iload_n 3, 1) := by decide +kernel
theorem d_X_liesTurned_37 : decode c_X_liesTurned 37 = .ok (.isub, 1) := by decide +kernel
theorem d_X_liesTurned_38 : decode c_X_liesTurned 38 = .ok (.iaload, 1) := by decide +kernel
theorem d_X_liesTurned_39 : decode c_X_liesTurned 39 = .ok (.invokestatic 221, 3) := by decide +kernel
theorem d_X_liesTurned_42 : decode c_X_liesTurned 42 = .ok (.if_icmp .eq 5, 3) := by decide +kernel
theorem d_X_liesTurned_45 : decode c_X_liesTurned 45 = .ok (.iconst 0, 1) := by decide +kernel
theorem d_X_liesTurned_46 : decode c_X_liesTurned 46 = .ok (.ireturn, 1) := by decide +kernel
theorem d_X_liesTurned_47 : decode c_X_liesTurned 47 = .ok (.iinc 3 1, 3) := by decide +kernel
theorem d_X_liesTurned_50 : decode c_X_liesTurned 50 = .ok (.goto (-38), 3) := by decide +kernel
theorem d_X_liesTurned_53 : decode c_X_liesTurned 53 = .ok (.iconst 1, 1) := by decide +kernel
theorem d_X_liesTurned_54 : decode c_X_liesTurned 54 = .ok (.ireturn, 1) := by decide +kernel
theorem d_X_lies_0 : decode c_X_lies 0 = .ok (.aload_n 0, 1) := by decide +kernel
theorem d_X_lies_1 : decode c_X_lies 1 = .ok (.getfield 33, 3) := by decide +kernel
theorem d_X_lies_4 : decode c_X_lies 4 = .ok (.getfield 72, 3) := by decide +kernel
theorem d_X_lies_7 : decode c_X_lies 7 = .ok (.ifCond .eq 18, 3) := by decide +kernel
theorem d_X_lies_10 : decode c_X_lies 10 = .ok (.iload_n 1, 1) := by decide +kernel
theorem d_X_lies_11 : decode c_X_lies 11 = .ok (.ifCond .lt 14, 3) := by decide +kernel
theorem d_X_lies_14 : decode c_X_lies 14 = .ok (.iload_n 1, 1) := by decide +kernel
theorem d_X_lies_15 : decode c_X_lies 15 = .ok (.aload_n 0, 1) := by decide +kernel
theorem d_X_lies_16 : decode c_X_lies 16 = .ok (.getfield 47, 3) := by decide +kernel
theorem d_X_lies_19 : decode c_X_lies 19 = .ok (.getfield 82, 3) := by decide +kernel
theorem d_X_lies_22 : decode c_X_lies 22 = .ok (.if_icmp .lt 5, 3) := by decide +kernel
theorem d_X_lies_25 : decode c_X_lies 25 = .ok (.iconst 0, 1) := by decide +kernel
theorem d_X_lies_26 : decode c_X_lies 26 = .ok (.ireturn, 1) := by decide +kernel
theorem d_X_lies_27 : decode c_X_lies 27 = .ok (.aload_n 0, 1) := by decide +kernel
theorem d_X_lies_28 : decode c_X_lies 28 = .ok (.getfield 47, 3) := by decide +kernel
theorem d_X_lies_31 : decode c_X_lies 31 = .ok (.getfield 131, 3) := by decide +kernel
theorem d_X_lies_34 : decode c_X_lies 34 = .ok (.iload_n 1, 1) := by decide +kernel
theorem d_X_lies_35 : decode c_X_lies 35 = .ok (.iaload, 1) := by decide +kernel
theorem d_X_lies_36 : decode c_X_lies 36 = .ok (.aload_n 0, 1) := by decide +kernel
theorem d_X_lies_37 : decode c_X_lies 37 = .ok (.getfield 33, 3) := by decide +kernel
theorem d_X_lies_40 : decode c_X_lies 40 = .ok (.getfield 135, 3) := by decide +kernel
theorem d_X_lies_43 : decode c_X_lies 43 = .ok (.isub, 1) := by decide +kernel
theorem d_X_lies_44 : decode c_X_lies 44 = .ok (.istore_n 2, 1) := by decide +kernel
theorem d_X_lies_45 : decode c_X_lies 45 = .ok (.iconst 0, 1) := by decide +kernel
theorem d_X_lies_46 : decode c_X_lies 46 = .ok (.istore_n 3, 1) := by decide +kernel
theorem d_X_lies_47 : decode c_X_lies 47 = .ok (.iload_n 3, 1) := by decide +kernel
theorem d_X_lies_48 : decode c_X_lies 48 = .ok (.iload_n 2, 1) := by decide +kernel
theorem d_X_lies_49 : decode c_X_lies 49 = .ok (.if_icmp .gt 37, 3) := by decide +kernel
theorem d_X_lies_52 : decode c_X_lies 52 = .ok (.iload_n 1, 1) := by decide +kernel
theorem d_X_lies_53 : decode c_X_lies 53 = .ok (.bipush 8, 2) := by decide +kernel
theorem d_X_lies_55 : decode c_X_lies 55 = .ok (.imul, 1) := by decide +kernel
theorem d_X_lies_56 : decode c_X_lies 56 = .ok (.iload_n 3, 1) := by decide +kernel
theorem d_X_lies_57 : decode c_X_lies 57 = .ok (.iadd, 1) := by decide +kernel
theorem d_X_lies_58 : decode c_X_lies 58 = .ok (.istore 4, 2) := by decide +kernel
theorem d_X_lies_60 : decode c_X_lies 60 = .ok (.aload_n 0, 1) := by decide +kernel
theorem d_X_lies_61 : decode c_X_lies 61 = .ok (.iload 4, 2) := by decide +kernel
theorem d_X_lies_63 : decode c_X_lies 63 = .ok (.invokevirtual 138, 3) := by decide +kernel
theorem d_X_lies_66 : decode c_X_lies 66 = .ok (.ifCond .ne 12, 3) := by decide +kernel
theorem d_X_lies_69 : decode c_X_lies 69 = .ok (.aload_n 0, 1) := by decide +kernel
theorem d_X_lies_70 : decode c_X_lies 70 = .ok (.iload 4, 2) := by decide +kernel
theorem d_X_lies_72 : decode c_X_lies 72 = .ok (.invokevirtual 141, 3) := by decide +kernel
theorem d_X_lies_75 : decode c_X_lies 75 = .ok (.ifCond .eq 5, 3) := by decide +kernel
theorem d_X_lies_78 : decode c_X_lies 78 = .ok (.iconst 1, 1) := by decide +kernel
theorem d_X_lies_79 : decode c_X_lies 79 = .ok (.ireturn, 1) := by decide +kernel
theorem d_X_lies_80 : decode c_X_lies 80 = .ok (.iinc 3 1, 3) := by decide +kernel
theorem d_X_lies_83 : decode c_X_lies 83 = .ok (.goto (-36), 3) := by decide +kernel
theorem d_X_lies_86 : decode c_X_lies 86 = .ok (.iconst 0, 1) := by decide +kernel
theorem d_X_lies_87 : decode c_X_lies 87 = .ok (.ireturn, 1) := by decide +kernel
theorem d_AS_newLength_0 : decode c_AS_newLength 0 = .ok (.iload_n 0, 1) := by decide +kernel
theorem d_AS_newLength_1 : decode c_AS_newLength 1 = .ok (.iload_n 1, 1) := by decide +kernel
theorem d_AS_newLength_2 : decode c_AS_newLength 2 = .ok (.iload_n 2, 1) := by decide +kernel
theorem d_AS_newLength_3 : decode c_AS_newLength 3 = .ok (.invokestatic 194, 3) := by decide +kernel
theorem d_AS_newLength_6 : decode c_AS_newLength 6 = .ok (.iadd, 1) := by decide +kernel
theorem d_AS_newLength_7 : decode c_AS_newLength 7 = .ok (.istore_n 3, 1) := by decide +kernel
theorem d_AS_newLength_8 : decode c_AS_newLength 8 = .ok (.iconst 0, 1) := by decide +kernel
theorem d_AS_newLength_9 : decode c_AS_newLength 9 = .ok (.iload_n 3, 1) := by decide +kernel
theorem d_AS_newLength_10 : decode c_AS_newLength 10 = .ok (.if_icmp .ge 11, 3) := by decide +kernel
theorem d_AS_newLength_13 : decode c_AS_newLength 13 = .ok (.iload_n 3, 1) := by decide +kernel
theorem d_AS_newLength_14 : decode c_AS_newLength 14 = .ok (.ldc 200, 2) := by decide +kernel
theorem d_AS_newLength_16 : decode c_AS_newLength 16 = .ok (.if_icmp .gt 5, 3) := by decide +kernel
theorem d_AS_newLength_19 : decode c_AS_newLength 19 = .ok (.iload_n 3, 1) := by decide +kernel
theorem d_AS_newLength_20 : decode c_AS_newLength 20 = .ok (.ireturn, 1) := by decide +kernel
theorem d_AS_newLength_21 : decode c_AS_newLength 21 = .ok (.iload_n 0, 1) := by decide +kernel
theorem d_AS_newLength_22 : decode c_AS_newLength 22 = .ok (.iload_n 1, 1) := by decide +kernel
theorem d_AS_newLength_23 : decode c_AS_newLength 23 = .ok (.invokestatic 201, 3) := by decide +kernel
theorem d_AS_newLength_26 : decode c_AS_newLength 26 = .ok (.ireturn, 1) := by decide +kernel
theorem d_AB_newCapacity_0 : decode c_AB_newCapacity 0 = .ok (.aload_n 0, 1) := by decide +kernel
theorem d_AB_newCapacity_1 : decode c_AB_newCapacity 1 = .ok (.getfield 15, 3) := by decide +kernel
theorem d_AB_newCapacity_4 : decode c_AB_newCapacity 4 = .ok (.arraylength, 1) := by decide +kernel
theorem d_AB_newCapacity_5 : decode c_AB_newCapacity 5 = .ok (.istore_n 2, 1) := by decide +kernel
theorem d_AB_newCapacity_6 : decode c_AB_newCapacity 6 = .ok (.iload_n 1, 1) := by decide +kernel
theorem d_AB_newCapacity_7 : decode c_AB_newCapacity 7 = .ok (.aload_n 0, 1) := by decide +kernel
theorem d_AB_newCapacity_8 : decode c_AB_newCapacity 8 = .ok (.getfield 22, 3) := by decide +kernel
theorem d_AB_newCapacity_11 : decode c_AB_newCapacity 11 = .ok (.ishl, 1) := by decide +kernel
theorem d_AB_newCapacity_12 : decode c_AB_newCapacity 12 = .ok (.istore_n 3, 1) := by decide +kernel
theorem d_AB_newCapacity_13 : decode c_AB_newCapacity 13 = .ok (.iload_n 3, 1) := by decide +kernel
theorem d_AB_newCapacity_14 : decode c_AB_newCapacity 14 = .ok (.iload_n 2, 1) := by decide +kernel
theorem d_AB_newCapacity_15 : decode c_AB_newCapacity 15 = .ok (.isub, 1) := by decide +kernel
theorem d_AB_newCapacity_16 : decode c_AB_newCapacity 16 = .ok (.istore 4, 2) := by decide +kernel
theorem d_AB_newCapacity_18 : decode c_AB_newCapacity 18 = .ok (.iload_n 2, 1) := by decide +kernel
theorem d_AB_newCapacity_19 : decode c_AB_newCapacity 19 = .ok (.iload 4, 2) := by decide +kernel
theorem d_AB_newCapacity_21 : decode c_AB_newCapacity 21 = .ok (.iload_n 2, 1) := by decide +kernel
theorem d_AB_newCapacity_22 : decode c_AB_newCapacity 22 = .ok (.iconst 2, 1) := by decide +kernel
theorem d_AB_newCapacity_23 : decode c_AB_newCapacity 23 = .ok (.aload_n 0, 1) := by decide +kernel
theorem d_AB_newCapacity_24 : decode c_AB_newCapacity 24 = .ok (.getfield 22, 3) := by decide +kernel
theorem d_AB_newCapacity_27 : decode c_AB_newCapacity 27 = .ok (.ishl, 1) := by decide +kernel
theorem d_AB_newCapacity_28 : decode c_AB_newCapacity 28 = .ok (.iadd, 1) := by decide +kernel
theorem d_AB_newCapacity_29 : decode c_AB_newCapacity 29 = .ok (.invokestatic 114, 3) := by decide +kernel
theorem d_AB_newCapacity_32 : decode c_AB_newCapacity 32 = .ok (.istore 5, 2) := by decide +kernel
theorem d_AB_newCapacity_34 : decode c_AB_newCapacity 34 = .ok (.iload 5, 2) := by decide +kernel
theorem d_AB_newCapacity_36 : decode c_AB_newCapacity 36 = .ok (.ldc 39, 2) := by decide +kernel
theorem d_AB_newCapacity_38 : decode c_AB_newCapacity 38 = .ok (.if_icmp .ne 13, 3) := by decide +kernel
theorem d_AB_newCapacity_41 : decode c_AB_newCapacity 41 = .ok (.new 120, 3) := by decide +kernel
theorem d_AB_newCapacity_44 : decode c_AB_newCapacity 44 = .ok (.dup, 1) := by decide +kernel
theorem d_AB_newCapacity_45 : decode c_AB_newCapacity 45 = .ok (.ldc 122, 2) := by decide +kernel
theorem d_AB_newCapacity_47 : decode c_AB_newCapacity 47 = .ok (.invokespecial 124, 3) := by decide +kernel
theorem d_AB_newCapacity_50 : decode c_AB_newCapacity 50 = .ok (.athrow, 1) := by decide +kernel
theorem d_AB_newCapacity_51 : decode c_AB_newCapacity 51 = .ok (.iload 5, 2) := by decide +kernel
theorem d_AB_newCapacity_53 : decode c_AB_newCapacity 53 = .ok (.aload_n 0, 1) := by decide +kernel
theorem d_AB_newCapacity_54 : decode c_AB_newCapacity 54 = .ok (.getfield 22, 3) := by decide +kernel
theorem d_AB_newCapacity_57 : decode c_AB_newCapacity 57 = .ok (.ishr, 1) := by decide +kernel
theorem d_AB_newCapacity_58 : decode c_AB_newCapacity 58 = .ok (.ireturn, 1) := by decide +kernel
theorem d_Ar_copyOf_0 : decode c_Ar_copyOf 0 = .ok (.iload_n 1, 1) := by decide +kernel
theorem d_Ar_copyOf_1 : decode c_Ar_copyOf 1 = .ok (.aload_n 0, 1) := by decide +kernel
theorem d_Ar_copyOf_2 : decode c_Ar_copyOf 2 = .ok (.arraylength, 1) := by decide +kernel
theorem d_Ar_copyOf_3 : decode c_Ar_copyOf 3 = .ok (.if_icmp .ne 11, 3) := by decide +kernel
theorem d_Ar_copyOf_6 : decode c_Ar_copyOf 6 = .ok (.aload_n 0, 1) := by decide +kernel
theorem d_Ar_copyOf_7 : decode c_Ar_copyOf 7 = .ok (.invokevirtual 310, 3) := by decide +kernel
theorem d_Ar_copyOf_10 : decode c_Ar_copyOf 10 = .ok (.checkcast 311, 3) := by decide +kernel
theorem d_Ar_copyOf_13 : decode c_Ar_copyOf 13 = .ok (.areturn, 1) := by decide +kernel
theorem d_Ar_copyOf_14 : decode c_Ar_copyOf 14 = .ok (.iload_n 1, 1) := by decide +kernel
theorem d_Ar_copyOf_15 : decode c_Ar_copyOf 15 = .ok (.newarray .byte, 2) := by decide +kernel
theorem d_Ar_copyOf_17 : decode c_Ar_copyOf 17 = .ok (.astore_n 2, 1) := by decide +kernel
theorem d_Ar_copyOf_18 : decode c_Ar_copyOf 18 = .ok (.aload_n 0, 1) := by decide +kernel
theorem d_Ar_copyOf_19 : decode c_Ar_copyOf 19 = .ok (.iconst 0, 1) := by decide +kernel
theorem d_Ar_copyOf_20 : decode c_Ar_copyOf 20 = .ok (.aload_n 2, 1) := by decide +kernel
theorem d_Ar_copyOf_21 : decode c_Ar_copyOf 21 = .ok (.iconst 0, 1) := by decide +kernel
theorem d_Ar_copyOf_22 : decode c_Ar_copyOf 22 = .ok (.aload_n 0, 1) := by decide +kernel
theorem d_Ar_copyOf_23 : decode c_Ar_copyOf 23 = .ok (.arraylength, 1) := by decide +kernel
theorem d_Ar_copyOf_24 : decode c_Ar_copyOf 24 = .ok (.iload_n 1, 1) := by decide +kernel
theorem d_Ar_copyOf_25 : decode c_Ar_copyOf 25 = .ok (.invokestatic 304, 3) := by decide +kernel
theorem d_Ar_copyOf_28 : decode c_Ar_copyOf 28 = .ok (.invokestatic 150, 3) := by decide +kernel
theorem d_Ar_copyOf_31 : decode c_Ar_copyOf 31 = .ok (.aload_n 2, 1) := by decide +kernel
theorem d_Ar_copyOf_32 : decode c_Ar_copyOf 32 = .ok (.areturn, 1) := by decide +kernel
theorem d_AB_ensureCapacityInternal_0 : decode c_AB_ensureCapacityInternal 0 = .ok (.aload_n 0, 1) := by decide +kernel
theorem d_AB_ensureCapacityInternal_1 : decode c_AB_ensureCapacityInternal 1 = .ok (.getfield 15, 3) := by decide +kernel
theorem d_AB_ensureCapacityInternal_4 : decode c_AB_ensureCapacityInternal 4 = .ok (.arraylength, 1) := by decide +kernel
theorem d_AB_ensureCapacityInternal_5 : decode c_AB_ensureCapacityInternal 5 = .ok (.aload_n 0, 1) := by decide +kernel
theorem d_AB_ensureCapacityInternal_6 : decode c_AB_ensureCapacityInternal 6 = .ok (.getfield 22, 3) := by decide +kernel
theorem d_AB_ensureCapacityInternal_9 : decode c_AB_ensureCapacityInternal 9 = .ok (.ishr, 1) := by decide +kernel
theorem d_AB_ensureCapacityInternal_10 : decode c_AB_ensureCapacityInternal 10 = .ok (.istore_n 2, 1) := by decide +kernel
theorem d_AB_ensureCapacityInternal_11 : decode c_AB_ensureCapacityInternal 11 = .ok (.iload_n 1, 1) := by decide +kernel
theorem d_AB_ensureCapacityInternal_12 : decode c_AB_ensureCapacityInternal 12 = .ok (.iload_n 2, 1) := by decide +kernel
theorem d_AB_ensureCapacityInternal_13 : decode c_AB_ensureCapacityInternal 13 = .ok (.isub, 1) := by decide +kernel
theorem d_AB_ensureCapacityInternal_14 : decode c_AB_ensureCapacityInternal 14 = .ok (.ifCond .le 24, 3) := by decide +kernel
theorem d_AB_ensureCapacityInternal_17 : decode c_AB_ensureCapacityInternal 17 = .ok (.aload_n 0, 1) := by decide +kernel
theorem d_AB_ensureCapacityInternal_18 : decode c_AB_ensureCapacityInternal 18 = .ok (.aload_n 0, 1) := by decide +kernel
theorem d_AB_ensureCapacityInternal_19 : decode c_AB_ensureCapacityInternal 19 = .ok (.getfield 15, 3) := by decide +kernel
theorem d_AB_ensureCapacityInternal_22 : decode c_AB_ensureCapacityInternal 22 = .ok (.aload_n 0, 1) := by decide +kernel
theorem d_AB_ensureCapacityInternal_23 : decode c_AB_ensureCapacityInternal 23 = .ok (.iload_n 1, 1) := by decide +kernel
theorem d_AB_ensureCapacityInternal_24 : decode c_AB_ensureCapacityInternal 24 = .ok (.invokevirtual 104, 3) := by decide +kernel
theorem d_AB_ensureCapacityInternal_27 : decode c_AB_ensureCapacityInternal 27 = .ok (.aload_n 0, 1) := by decide +kernel
theorem d_AB_ensureCapacityInternal_28 : decode c_AB_ensureCapacityInternal 28 = .ok (.getfield 22, 3) := by decide +kernel
theorem d_AB_ensureCapacityInternal_31 : decode c_AB_ensureCapacityInternal 31 = .ok (.ishl, 1) := by decide +kernel
theorem d_AB_ensureCapacityInternal_32 : decode c_AB_ensureCapacityInternal 32 = .ok (.invokestatic 108, 3) := by decide +kernel
theorem d_AB_ensureCapacityInternal_35 : decode c_AB_ensureCapacityInternal 35 = .ok (.putfield 15, 3) := by decide +kernel
theorem d_AB_ensureCapacityInternal_38 : decode c_AB_ensureCapacityInternal 38 = .ok (.return_, 1) := by decide +kernel
theorem d_AB_setLength_0 : decode c_AB_setLength 0 = .ok (.iload_n 1, 1) := by decide +kernel
theorem d_AB_setLength_1 : decode c_AB_setLength 1 = .ok (.ifCond .ge 12, 3) := by decide +kernel
theorem d_AB_setLength_4 : decode c_AB_setLength 4 = .ok (.new 129, 3) := by decide +kernel
theorem d_AB_setLength_7 : decode c_AB_setLength 7 = .ok (.dup, 1) := by decide +kernel
theorem d_AB_setLength_8 : decode c_AB_setLength 8 = .ok (.iload_n 1, 1) := by decide +kernel
theorem d_AB_setLength_9 : decode c_AB_setLength 9 = .ok (.invokespecial 131, 3) := by decide +kernel
theorem d_AB_setLength_12 : decode c_AB_setLength 12 = .ok (.athrow, 1) := by decide +kernel
theorem d_AB_setLength_13 : decode c_AB_setLength 13 = .ok (.aload_n 0, 1) := by decide +kernel
theorem d_AB_setLength_14 : decode c_AB_setLength 14 = .ok (.iload_n 1, 1) := by decide +kernel
theorem d_AB_setLength_15 : decode c_AB_setLength 15 = .ok (.invokevirtual 100, 3) := by decide +kernel
theorem d_AB_setLength_18 : decode c_AB_setLength 18 = .ok (.aload_n 0, 1) := by decide +kernel
theorem d_AB_setLength_19 : decode c_AB_setLength 19 = .ok (.getfield 79, 3) := by decide +kernel
theorem d_AB_setLength_22 : decode c_AB_setLength 22 = .ok (.iload_n 1, 1) := by decide +kernel
theorem d_AB_setLength_23 : decode c_AB_setLength 23 = .ok (.if_icmp .ge 40, 3) := by decide +kernel
theorem d_AB_setLength_26 : decode c_AB_setLength 26 = .ok (.aload_n 0, 1) := by decide +kernel
theorem d_AB_setLength_27 : decode c_AB_setLength 27 = .ok (.invokevirtual 83, 3) := by decide +kernel
theorem d_AB_setLength_30 : decode c_AB_setLength 30 = .ok (.ifCond .eq 18, 3) := by decide +kernel
theorem d_AB_setLength_33 : decode c_AB_setLength 33 = .ok (.aload_n 0, 1) := by decide +kernel
theorem d_AB_setLength_34 : decode c_AB_setLength 34 = .ok (.getfield 15, 3) := by decide +kernel
theorem d_AB_setLength_37 : decode c_AB_setLength 37 = .ok (.aload_n 0, 1) := by decide +kernel
theorem d_AB_setLength_38 : decode c_AB_setLength 38 = .ok (.getfield 79, 3) := by decide +kernel
theorem d_AB_setLength_41 : decode c_AB_setLength 41 = .ok (.iload_n 1, 1) := by decide +kernel
theorem d_AB_setLength_42 : decode c_AB_setLength 42 = .ok (.invokestatic 133, 3) := by decide +kernel
theorem d_AB_setLength_45 : decode c_AB_setLength 45 = .ok (.goto 31, 3) := by decide +kernel
theorem d_AB_setLength_48 : decode c_AB_setLength 48 = .ok (.aload_n 0, 1) := by decide +kernel
theorem d_AB_setLength_49 : decode c_AB_setLength 49 = .ok (.getfield 15, 3) := by decide +kernel
theorem d_AB_setLength_52 : decode c_AB_setLength 52 = .ok (.aload_n 0, 1) := by decide +kernel
theorem d_AB_setLength_53 : decode c_AB_setLength 53 = .ok (.getfield 79, 3) := by decide +kernel
theorem d_AB_setLength_56 : decode c_AB_setLength 56 = .ok (.iload_n 1, 1) := by decide +kernel
theorem d_AB_setLength_57 : decode c_AB_setLength 57 = .ok (.invokestatic 137, 3) := by decide +kernel
theorem d_AB_setLength_60 : decode c_AB_setLength 60 = .ok (.goto 16, 3) := by decide +kernel
theorem d_AB_setLength_63 : decode c_AB_setLength 63 = .ok (.aload_n 0, 1) := by decide +kernel
theorem d_AB_setLength_64 : decode c_AB_setLength 64 = .ok (.getfield 79, 3) := by decide +kernel
theorem d_AB_setLength_67 : decode c_AB_setLength 67 = .ok (.iload_n 1, 1) := by decide +kernel
theorem d_AB_setLength_68 : decode c_AB_setLength 68 = .ok (.if_icmp .le 8, 3) := by decide +kernel
theorem d_AB_setLength_71 : decode c_AB_setLength 71 = .ok (.aload_n 0, 1) := by decide +kernel
theorem d_AB_setLength_72 : decode c_AB_setLength 72 = .ok (.iconst 1, 1) := by decide +kernel
theorem d_AB_setLength_73 : decode c_AB_setLength 73 = .ok (.putfield 73, 3) := by decide +kernel
theorem d_AB_setLength_76 : decode c_AB_setLength 76 = .ok (.aload_n 0, 1) := by decide +kernel
theorem d_AB_setLength_77 : decode c_AB_setLength 77 = .ok (.iload_n 1, 1) := by decide +kernel
theorem d_AB_setLength_78 : decode c_AB_setLength 78 = .ok (.putfield 79, 3) := by decide +kernel
theorem d_AB_setLength_81 : decode c_AB_setLength 81 = .ok (.return_, 1) := by decide +kernel
theorem d_SB_setLength_0 : decode c_SB_setLength 0 = .ok (.aload_n 0, 1) := by decide +kernel
theorem d_SB_setLength_1 : decode c_SB_setLength 1 = .ok (.iload_n 1, 1) := by decide +kernel
theorem d_SB_setLength_2 : decode c_SB_setLength 2 = .ok (.invokespecial 333, 3) := by decide +kernel
theorem d_SB_setLength_5 : decode c_SB_setLength 5 = .ok (.return_, 1) := by decide +kernel
theorem d_AB_isLatin1_0 : decode c_AB_isLatin1 0 = .ok (.getstatic 18, 3) := by decide +kernel
theorem d_AB_isLatin1_3 : decode c_AB_isLatin1 3 = .ok (.ifCond .eq 14, 3) := by decide +kernel
theorem d_AB_isLatin1_6 : decode c_AB_isLatin1 6 = .ok (.aload_n 0, 1) := by decide +kernel
theorem d_AB_isLatin1_7 : decode c_AB_isLatin1 7 = .ok (.getfield 22, 3) := by decide +kernel
theorem d_AB_isLatin1_10 : decode c_AB_isLatin1 10 = .ok (.ifCond .ne 7, 3) := by decide +kernel
theorem d_AB_isLatin1_13 : decode c_AB_isLatin1 13 = .ok (.iconst 1, 1) := by decide +kernel
theorem d_AB_isLatin1_14 : decode c_AB_isLatin1 14 = .ok (.goto 4, 3) := by decide +kernel
theorem d_AB_isLatin1_17 : decode c_AB_isLatin1 17 = .ok (.iconst 0, 1) := by decide +kernel
theorem d_AB_isLatin1_18 : decode c_AB_isLatin1 18 = .ok (.ireturn, 1) := by decide +kernel
theorem d_SL_canEncode_0 : decode c_SL_canEncode 0 = .ok (.iload_n 0, 1) := by decide +kernel
theorem d_SL_canEncode_1 : decode c_SL_canEncode 1 = .ok (.sipush 255, 3) := by decide +kernel
theorem d_SL_canEncode_4 : decode c_SL_canEncode 4 = .ok (.if_icmp .gt 7, 3) := by decide +kernel
theorem d_SL_canEncode_7 : decode c_SL_canEncode 7 = .ok (.iconst 1, 1) := by decide +kernel
theorem d_SL_canEncode_8 : decode c_SL_canEncode 8 = .ok (.goto 4, 3) := by decide +kernel
theorem d_SL_canEncode_11 : decode c_SL_canEncode 11 = .ok (.iconst 0, 1) := by decide +kernel
theorem d_SL_canEncode_12 : decode c_SL_canEncode 12 = .ok (.ireturn, 1) := by decide +kernel
theorem d_AB_append_C_0 : decode c_AB_append_C 0 = .ok (.aload_n 0, 1) := by decide +kernel
theorem d_AB_append_C_1 : decode c_AB_append_C 1 = .ok (.aload_n 0, 1) := by decide +kernel
theorem d_AB_append_C_2 : decode c_AB_append_C 2 = .ok (.getfield 79, 3) := by decide +kernel
theorem d_AB_append_C_5 : decode c_AB_append_C 5 = .ok (.iconst 1, 1) := by decide +kernel
theorem d_AB_append_C_6 : decode c_AB_append_C 6 = .ok (.iadd, 1) := by decide +kernel
theorem d_AB_append_C_7 : decode c_AB_append_C 7 = .ok (.invokevirtual 100, 3) := by decide +kernel
theorem d_AB_append_C_10 : decode c_AB_append_C 10 = .ok (.aload_n 0, 1) := by decide +kernel
theorem d_AB_append_C_11 : decode c_AB_append_C 11 = .ok (.invokevirtual 83, 3) := by decide +kernel
theorem d_AB_append_C_14 : decode c_AB_append_C 14 = .ok (.ifCond .eq 31, 3) := by decide +kernel
theorem d_AB_append_C_17 : decode c_AB_append_C 17 = .ok (.iload_n 1, 1) := by decide +kernel
theorem d_AB_append_C_18 : decode c_AB_append_C 18 = .ok (.invokestatic 191, 3) := by decide +kernel
theorem d_AB_append_C_21 : decode c_AB_append_C 21 = .ok (.ifCond .eq 24, 3) := by decide +kernel
theorem d_AB_append_C_24 : decode c_AB_append_C 24 = .ok (.aload_n 0, 1) := by decide +kernel
theorem d_AB_append_C_25 : decode c_AB_append_C 25 = .ok (.getfield 15, 3) := by decide +kernel
theorem d_AB_append_C_28 : decode c_AB_append_C 28 = .ok (.aload_n 0, 1) := by decide +kernel
theorem d_AB_append_C_29 : decode c_AB_append_C 29 = .ok (.dup, 1) := by decide +kernel
theorem d_AB_append_C_30 : decode c_AB_append_C 30 = .ok (.getfield 79, 3) := by decide +kernel
theorem d_AB_append_C_33 : decode c_AB_append_C 33 = .ok (.dup_x1, 1) := by decide +kernel
theorem d_AB_append_C_34 : decode c_AB_append_C 34 = .ok (.iconst 1, 1) := by decide +kernel
theorem d_AB_append_C_35 : decode c_AB_append_C 35 = .ok (.iadd, 1) := by decide +kernel
theorem d_AB_append_C_36 : decode c_AB_append_C 36 = .ok (.putfield 79, 3) := by decide +kernel
theorem d_AB_append_C_39 : decode c_AB_append_C 39 = .ok (.iload_n 1, 1) := by decide +kernel
theorem d_AB_append_C_40 : decode c_AB_append_C 40 = .ok (.i2b, 1) := by decide +kernel
theorem d_AB_append_C_41 : decode c_AB_append_C 41 = .ok (.bastore, 1) := by decide +kernel
theorem d_AB_append_C_42 : decode c_AB_append_C 42 = .ok (.goto 33, 3) := by decide +kernel
theorem d_AB_append_C_45 : decode c_AB_append_C 45 = .ok (.aload_n 0, 1) := by decide +kernel
theorem d_AB_append_C_46 : decode c_AB_append_C 46 = .ok (.invokevirtual 83, 3) := by decide +kernel
theorem d_AB_append_C_49 : decode c_AB_append_C 49 = .ok (.ifCond .eq 7, 3) := by decide +kernel
theorem d_AB_append_C_52 : decode c_AB_append_C 52 = .ok (.aload_n 0, 1) := by decide +kernel
theorem d_AB_append_C_53 : decode c_AB_append_C 53 = .ok (.invokevirtual 195, 3) := by decide +kernel
theorem d_AB_append_C_56 : decode c_AB_append_C 56 = .ok (.aload_n 0, 1) := by decide +kernel
theorem d_AB_append_C_57 : decode c_AB_append_C 57 = .ok (.getfield 15, 3) := by decide +kernel
theorem d_AB_append_C_60 : decode c_AB_append_C 60 = .ok (.aload_n 0, 1) := by decide +kernel
theorem d_AB_append_C_61 : decode c_AB_append_C 61 = .ok (.dup, 1) := by decide +kernel
theorem d_AB_append_C_62 : decode c_AB_append_C 62 = .ok (.getfield 79, 3) := by decide +kernel
theorem d_AB_append_C_65 : decode c_AB_append_C 65 = .ok (.dup_x1, 1) := by decide +kernel
theorem d_AB_append_C_66 : decode c_AB_append_C 66 = .ok (.iconst 1, 1) := by decide +kernel
theorem d_AB_append_C_67 : decode c_AB_append_C 67 = .ok (.iadd, 1) := by decide +kernel
theorem d_AB_append_C_68 : decode c_AB_append_C 68 = .ok (.putfield 79, 3) := by decide +kernel
theorem d_AB_append_C_71 : decode c_AB_append_C 71 = .ok (.iload_n 1, 1) := by decide +kernel
theorem d_AB_append_C_72 : decode c_AB_append_C 72 = .ok (.invokestatic 197, 3) := by decide +kernel
theorem d_AB_append_C_75 : decode c_AB_append_C 75 = .ok (.aload_n 0, 1) := by decide +kernel
theorem d_AB_append_C_76 : decode c_AB_append_C 76 = .ok (.areturn, 1) := by decide +kernel
theorem d_SB_append_C_0 : decode c_SB_append_C 0 = .ok (.aload_n 0, 1) := by decide +kernel
theorem d_SB_append_C_1 : decode c_SB_append_C 1 = .ok (.iload_n 1, 1) := by decide +kernel
theorem d_SB_append_C_2 : decode c_SB_append_C 2 = .ok (.invokespecial 50, 3) := by decide +kernel
theorem d_SB_append_C_5 : decode c_SB_append_C 5 = .ok (.pop, 1) := by decide +kernel
theorem d_SB_append_C_6 : decode c_SB_append_C 6 = .ok (.aload_n 0, 1) := by decide +kernel
theorem d_SB_append_C_7 : decode c_SB_append_C 7 = .ok (.areturn, 1) := by decide +kernel
theorem d_X_writeName_0 : decode c_X_writeName 0 = .ok (.iload_n 1, 1) := by decide +kernel
theorem d_X_writeName_1 : decode c_X_writeName 1 = .ok (.sipush 16384, 3) := by decide +kernel
theorem d_X_writeName_4 : decode c_X_writeName 4 = .ok (.if_icmp .lt 21, 3) := by decide +kernel
theorem d_X_writeName_7 : decode c_X_writeName 7 = .ok (.aload_n 0, 1) := by decide +kernel
theorem d_X_writeName_8 : decode c_X_writeName 8 = .ok (.getfield 40, 3) := by decide +kernel
theorem d_X_writeName_11 : decode c_X_writeName 11 = .ok (.iload_n 1, 1) := by decide +kernel
theorem d_X_writeName_12 : decode c_X_writeName 12 = .ok (.sipush 128, 3) := by decide +kernel
theorem d_X_writeName_15 : decode c_X_writeName 15 = .ok (.idiv, 1) := by decide +kernel
theorem d_X_writeName_16 : decode c_X_writeName 16 = .ok (.sipush 128, 3) := by decide +kernel
theorem d_X_writeName_19 : decode c_X_writeName 19 = .ok (.idiv, 1) := by decide +kernel
theorem d_X_writeName_20 : decode c_X_writeName 20 = .ok (.i2c, 1) := by decide +kernel
theorem d_X_writeName_21 : decode c_X_writeName 21 = .ok (.invokevirtual 154, 3) := by decide +kernel
theorem d_X_writeName_24 : decode c_X_writeName 24 = .ok (.pop, 1) := by decide +kernel
theorem d_X_writeName_25 : decode c_X_writeName 25 = .ok (.iload_n 1, 1) := by decide +kernel
theorem d_X_writeName_26 : decode c_X_writeName 26 = .ok (.sipush 128, 3) := by decide +kernel
theorem d_X_writeName_29 : decode c_X_writeName 29 = .ok (.if_icmp .lt 21, 3) := by decide +kernel
theorem d_X_writeName_32 : decode c_X_writeName 32 = .ok (.aload_n 0, 1) := by decide +kernel
theorem d_X_writeName_33 : decode c_X_writeName 33 = .ok (.getfield 40, 3) := by decide +kernel
theorem d_X_writeName_36 : decode c_X_writeName 36 = .ok (.iload_n 1, 1) := by decide +kernel
theorem d_X_writeName_37 : decode c_X_writeName 37 = .ok (.sipush 128, 3) := by decide +kernel
theorem d_X_writeName_40 : decode c_X_writeName 40 = .ok (.idiv, 1) := by decide +kernel
theorem d_X_writeName_41 : decode c_X_writeName 41 = .ok (.sipush 128, 3) := by decide +kernel
theorem d_X_writeName_44 : decode c_X_writeName 44 = .ok (.irem, 1) := by decide +kernel
theorem d_X_writeName_45 : decode c_X_writeName 45 = .ok (.i2c, 1) := by decide +kernel
theorem d_X_writeName_46 : decode c_X_writeName 46 = .ok (.invokevirtual 154, 3) := by decide +kernel
theorem d_X_writeName_49 : decode c_X_writeName 49 = .ok (.pop, 1) := by decide +kernel
theorem d_X_writeName_50 : decode c_X_writeName 50 = .ok (.aload_n 0, 1) := by decide +kernel
theorem d_X_writeName_51 : decode c_X_writeName 51 = .ok (.getfield 40, 3) := by decide +kernel
theorem d_X_writeName_54 : decode c_X_writeName 54 = .ok (.iload_n 1, 1) := by decide +kernel
theorem d_X_writeName_55 : decode c_X_writeName 55 = .ok (.sipush 128, 3) := by decide +kernel
theorem d_X_writeName_58 : decode c_X_writeName 58 = .ok (.irem, 1) := by decide +kernel
theorem d_X_writeName_59 : decode c_X_writeName 59 = .ok (.i2c, 1) := by decide +kernel
theorem d_X_writeName_60 : decode c_X_writeName 60 = .ok (.invokevirtual 154, 3) := by decide +kernel
theorem d_X_writeName_63 : decode c_X_writeName 63 = .ok (.pop, 1) := by decide +kernel
theorem d_X_writeName_64 : decode c_X_writeName 64 = .ok (.return_, 1) := by decide +kernel
theorem d_X_writeSides_0 : decode c_X_writeSides 0 = .ok (.iconst 0, 1) := by decide +kernel
theorem d_X_writeSides_1 : decode c_X_writeSides 1 = .ok (.istore_n 1, 1) := by decide +kernel
theorem d_X_writeSides_2 : decode c_X_writeSides 2 = .ok (.iload_n 1, 1) := by decide +kernel
theorem d_X_writeSides_3 : decode c_X_writeSides 3 = .ok (.aload_n 0, 1) := by decide +kernel
theorem d_X_writeSides_4 : decode c_X_writeSides 4 = .ok (.getfield 33, 3) := by decide +kernel
theorem d_X_writeSides_7 : decode c_X_writeSides 7 = .ok (.getfield 135, 3) := by decide +kernel
theorem d_X_writeSides_10 : decode c_X_writeSides 10 = .ok (.if_icmp .ge 55, 3) := by decide +kernel
theorem d_X_writeSides_13 : decode c_X_writeSides 13 = .ok (.aload_n 0, 1) := by decide +kernel
theorem d_X_writeSides_14 : decode c_X_writeSides 14 = .ok (.getfield 33, 3) := by decide +kernel
theorem d_X_writeSides_17 : decode c_X_writeSides 17 = .ok (.getfield 227, 3) := by decide +kernel
theorem d_X_writeSides_20 : decode c_X_writeSides 20 = .ok (.iload_n 1, 1) := by decide +kernel
theorem d_X_writeSides_21 : decode c_X_writeSides 21 = .ok (.iaload, 1) := by decide +kernel
theorem d_X_writeSides_22 : decode c_X_writeSides 22 = .ok (.istore_n 2, 1) := by decide +kernel
theorem d_X_writeSides_23 : decode c_X_writeSides 23 = .ok (.aload_n 0, 1) := by decide +kernel
theorem d_X_writeSides_24 : decode c_X_writeSides 24 = .ok (.getfield 40, 3) := by decide +kernel
theorem d_X_writeSides_27 : decode c_X_writeSides 27 = .ok (.iload_n 2, 1) := by decide +kernel
theorem d_X_writeSides_28 : decode c_X_writeSides 28 = .ok (.iconst 2, 1) := by decide +kernel
theorem d_X_writeSides_29 : decode c_X_writeSides 29 = .ok (.irem, 1) := by decide +kernel
theorem d_X_writeSides_30 : decode c_X_writeSides 30 = .ok (.ifCond .ne 8, 3) := by decide +kernel
theorem d_X_writeSides_33 : decode c_X_writeSides 33 = .ok (.bipush 62, 2) := by decide +kernel
theorem d_X_writeSides_35 : decode c_X_writeSides 35 = .ok (.goto 5, 3) := by decide +kernel
theorem d_X_writeSides_38 : decode c_X_writeSides 38 = .ok (.bipush 60, 2) := by decide +kernel
theorem d_X_writeSides_40 : decode c_X_writeSides 40 = .ok (.invokevirtual 154, 3) := by decide +kernel
theorem d_X_writeSides_43 : decode c_X_writeSides 43 = .ok (.pop, 1) := by decide +kernel
theorem d_X_writeSides_44 : decode c_X_writeSides 44 = .ok (.aload_n 0, 1) := by decide +kernel
theorem d_X_writeSides_45 : decode c_X_writeSides 45 = .ok (.aload_n 0, 1) := by decide +kernel
theorem d_X_writeSides_46 : decode c_X_writeSides 46 = .ok (.getfield 47, 3) := by decide +kernel
theorem d_X_writeSides_49 : decode c_X_writeSides 49 = .ok (.getfield 230, 3) := by decide +kernel
theorem d_X_writeSides_52 : decode c_X_writeSides 52 = .ok (.iload_n 2, 1) := by decide +kernel
theorem d_X_writeSides_53 : decode c_X_writeSides 53 = .ok (.iconst 2, 1) := by decide +kernel
theorem d_X_writeSides_54 : decode c_X_writeSides 54 = .ok (.idiv, 1) := by decide +kernel
theorem d_X_writeSides_55 : decode c_X_writeSides 55 = .ok (.iaload, 1) := by decide +kernel
theorem d_X_writeSides_56 : decode c_X_writeSides 56 = .ok (.invokevirtual 233, 3) := by decide +kernel
theorem d_X_writeSides_59 : decode c_X_writeSides 59 = .ok (.iinc 1 1, 3) := by decide +kernel
theorem d_X_writeSides_62 : decode c_X_writeSides 62 = .ok (.goto (-60), 3) := by decide +kernel
theorem d_X_writeSides_65 : decode c_X_writeSides 65 = .ok (.return_, 1) := by decide +kernel
theorem d_In_stringSize_0 : decode c_In_stringSize 0 = .ok (.iconst 1, 1) := by decide +kernel
theorem d_In_stringSize_1 : decode c_In_stringSize 1 = .ok (.istore_n 1, 1) := by decide +kernel
theorem d_In_stringSize_2 : decode c_In_stringSize 2 = .ok (.iload_n 0, 1) := by decide +kernel
theorem d_In_stringSize_3 : decode c_In_stringSize 3 = .ok (.ifCond .lt 8, 3) := by decide +kernel
theorem d_In_stringSize_6 : decode c_In_stringSize 6 = .ok (.iconst 0, 1) := by decide +kernel
theorem d_In_stringSize_7 : decode c_In_stringSize 7 = .ok (.istore_n 1, 1) := by decide +kernel
theorem d_In_stringSize_8 : decode c_In_stringSize 8 = .ok (.iload_n 0, 1) := by decide +kernel
theorem d_In_stringSize_9 : decode c_In_stringSize 9 = .ok (.ineg, 1) := by decide +kernel
theorem d_In_stringSize_10 : decode c_In_stringSize 10 = .ok (.istore_n 0, 1) := by decide +kernel
theorem d_In_stringSize_11 : decode c_In_stringSize 11 = .ok (.bipush (-10), 2) := by decide +kernel
theorem d_In_stringSize_13 : decode c_In_stringSize 13 = .ok (.istore_n 2, 1) := by decide +kernel
theorem d_In_stringSize_14 : decode c_In_stringSize 14 = .ok (.iconst 1, 1) := by decide +kernel
theorem d_In_stringSize_15 : decode c_In_stringSize 15 = .ok (.istore_n 3, 1) := by decide +kernel
theorem d_In_stringSize_16 : decode c_In_stringSize 16 = .ok (.iload_n 3, 1) := by decide +kernel
theorem d_In_stringSize_17 : decode c_In_stringSize 17 = .ok (.bipush 10, 2) := by decide +kernel
theorem d_In_stringSize_19 : decode c_In_stringSize 19 = .ok (.if_icmp .ge 23, 3) := by decide +kernel
theorem d_In_stringSize_22 : decode c_In_stringSize 22 = .ok (.iload_n 0, 1) := by decide +kernel
theorem d_In_stringSize_23 : decode c_In_stringSize 23 = .ok (.iload_n 2, 1) := by decide +kernel
theorem d_In_stringSize_24 : decode c_In_stringSize 24 = .ok (.if_icmp .le 7, 3) := by decide +kernel
theorem d_In_stringSize_27 : decode c_In_stringSize 27 = .ok (.iload_n 3, 1) := by decide +kernel
theorem d_In_stringSize_28 : decode c_In_stringSize 28 = .ok (.iload_n 1, 1) := by decide +kernel
theorem d_In_stringSize_29 : decode c_In_stringSize 29 = .ok (.iadd, 1) := by decide +kernel
theorem d_In_stringSize_30 : decode c_In_stringSize 30 = .ok (.ireturn, 1) := by decide +kernel
theorem d_In_stringSize_31 : decode c_In_stringSize 31 = .ok (.bipush 10, 2) := by decide +kernel
theorem d_In_stringSize_33 : decode c_In_stringSize 33 = .ok (.iload_n 2, 1) := by decide +kernel
theorem d_In_stringSize_34 : decode c_In_stringSize 34 = .ok (.imul, 1) := by decide +kernel
theorem d_In_stringSize_35 : decode c_In_stringSize 35 = .ok (.istore_n 2, 1) := by decide +kernel
theorem d_In_stringSize_36 : decode c_In_stringSize 36 = .ok (.iinc 3 1, 3) := by decide +kernel
theorem d_In_stringSize_39 : decode c_In_stringSize 39 = .ok (.goto (-23), 3) := by decide +kernel
theorem d_In_stringSize_42 : decode c_In_stringSize 42 = .ok (.bipush 10, 2) := by decide +kernel
theorem d_In_stringSize_44 : decode c_In_stringSize 44 = .ok (.iload_n 1, 1) := by decide +kernel
theorem d_In_stringSize_45 : decode c_In_stringSize 45 = .ok (.iadd, 1) := by decide +kernel
theorem d_In_stringSize_46 : decode c_In_stringSize 46 = .ok (.ireturn, 1) := by decide +kernel
theorem d_In_getChars_0 : decode c_In_getChars 0 = .ok (.iload_n 1, 1) := by decide +kernel
theorem d_In_getChars_1 : decode c_In_getChars 1 = .ok (.istore 5, 2) := by decide +kernel
theorem d_In_getChars_3 : decode c_In_getChars 3 = .ok (.iload_n 0, 1) := by decide +kernel
theorem d_In_getChars_4 : decode c_In_getChars 4 = .ok (.ifCond .ge 7, 3) := by decide +kernel
theorem d_In_getChars_7 : decode c_In_getChars 7 = .ok (.iconst 1, 1) := by decide +kernel
theorem d_In_getChars_8 : decode c_In_getChars 8 = .ok (.goto 4, 3) := by decide +kernel
theorem d_In_getChars_11 : decode c_In_getChars 11 = .ok (.iconst 0, 1) := by decide +kernel
theorem d_In_getChars_12 : decode c_In_getChars 12 = .ok (.istore 6, 2) := by decide +kernel
theorem d_In_getChars_14 : decode c_In_getChars 14 = .ok (.iload 6, 2) := by decide +kernel
theorem d_In_getChars_16 : decode c_In_getChars 16 = .ok (.ifCond .ne 6, 3) := by decide +kernel
theorem d_In_getChars_19 : decode c_In_getChars 19 = .ok (.iload_n 0, 1) := by decide +kernel
theorem d_In_getChars_20 : decode c_In_getChars 20 = .ok (.ineg, 1) := by decide +kernel
theorem d_In_getChars_21 : decode c_In_getChars 21 = .ok (.istore_n 0, 1) := by decide +kernel
theorem d_In_getChars_22 : decode c_In_getChars 22 = .ok (.iload_n 0, 1) := by decide +kernel
theorem d_In_getChars_23 : decode c_In_getChars 23 = .ok (.bipush (-100), 2) := by decide +kernel
theorem d_In_getChars_25 : decode c_In_getChars 25 = .ok (.if_icmp .gt 47, 3) := by decide +kernel
theorem d_In_getChars_28 : decode c_In_getChars 28 = .ok (.iload_n 0, 1) := by decide +kernel
theorem d_In_getChars_29 : decode c_In_getChars 29 = .ok (.bipush 100, 2) := by decide +kernel
theorem d_In_getChars_31 : decode c_In_getChars 31 = .ok (.idiv, 1) := by decide +kernel
theorem d_In_getChars_32 : decode c_In_getChars 32 = .ok (.istore_n 3, 1) := by decide +kernel
theorem d_In_getChars_33 : decode c_In_getChars 33 = .ok (.iload_n 3, 1) := by decide +kernel
theorem d_In_getChars_34 : decode c_In_getChars 34 = .ok (.bipush 100, 2) := by decide +kernel
theorem d_In_getChars_36 : decode c_In_getChars 36 = .ok (.imul, 1) := by decide +kernel
theorem d_In_getChars_37 : decode c_In_getChars 37 = .ok (.iload_n 0, 1) := by decide +kernel
theorem d_In_getChars_38 : decode c_In_getChars 38 = .ok (.isub, 1) := by decide +kernel
theorem d_In_getChars_39 : decode c_In_getChars 39 = .ok (.istore 4, 2) := by decide +kernel
theorem d_In_getChars_41 : decode c_In_getChars 41 = .ok (.iload_n 3, 1) := by decide +kernel
theorem d_In_getChars_42 : decode c_In_getChars 42 = .ok (.istore_n 0, 1) := by decide +kernel
theorem d_In_getChars_43 : decode c_In_getChars 43 = .ok (.aload_n 2, 1) := by decide +kernel
theorem d_In_getChars_44 : decode c_In_getChars 44 = .ok (.iinc 5 (-1), 3) := by decide +kernel
theorem d_In_getChars_47 : decode c_In_getChars 47 = .ok (.iload 5, 2) := by decide +kernel
theorem d_In_getChars_49 : decode c_In_getChars 49 = .ok (.getstatic 83, 3) := by decide +kernel
theorem d_In_getChars_52 : decode c_In_getChars 52 = .ok (.iload 4, 2) := by decide +kernel
theorem d_In_getChars_54 : decode c_In_getChars 54 = .ok (.baload, 1) := by decide +kernel
theorem d_In_getChars_55 : decode c_In_getChars 55 = .ok (.bastore, 1) := by decide +kernel
theorem d_In_getChars_56 : decode c_In_getChars 56 = .ok (.aload_n 2, 1) := by decide +kernel
theorem d_In_getChars_57 : decode c_In_getChars 57 = .ok (.iinc 5 (-1), 3) := by decide +kernel
theorem d_In_getChars_60 : decode c_In_getChars 60 = .ok (.iload 5, 2) := by decide +kernel
theorem d_In_getChars_62 : decode c_In_getChars 62 = .ok (.getstatic 87, 3) := by decide +kernel
theorem d_In_getChars_65 : decode c_In_getChars 65 = .ok (.iload 4, 2) := by decide +kernel
theorem d_In_getChars_67 : decode c_In_getChars 67 = .ok (.baload, 1) := by decide +kernel
theorem d_In_getChars_68 : decode c_In_getChars 68 = .ok (.bastore, 1) := by decide +kernel
theorem d_In_getChars_69 : decode c_In_getChars 69 = .ok (.goto (-47), 3) := by decide +kernel
theorem d_In_getChars_72 : decode c_In_getChars 72 = .ok (.aload_n 2, 1) := by decide +kernel
theorem d_In_getChars_73 : decode c_In_getChars 73 = .ok (.iinc 5 (-1), 3) := by decide +kernel
theorem d_In_getChars_76 : decode c_In_getChars 76 = .ok (.iload 5, 2) := by decide +kernel
theorem d_In_getChars_78 : decode c_In_getChars 78 = .ok (.getstatic 83, 3) := by decide +kernel
theorem d_In_getChars_81 : decode c_In_getChars 81 = .ok (.iload_n 0, 1) := by decide +kernel
theorem d_In_getChars_82 : decode c_In_getChars 82 = .ok (.ineg, 1) := by decide +kernel
theorem d_In_getChars_83 : decode c_In_getChars 83 = .ok (.baload, 1) := by decide +kernel
theorem d_In_getChars_84 : decode c_In_getChars 84 = .ok (.bastore, 1) := by decide +kernel
