theorem d_Gr_beginsSide_3 : decode c_Gr_beginsSide 3 = .ok (.getfield 22, 3) := by decide +kernel
theorem d_Gr_beginsSide_6 : decode c_Gr_beginsSide 6 = .ok (.iload_n 1, 1) := by decide +kernel
theorem d_Gr_beginsSide_7 : decode c_Gr_beginsSide 7 = .ok (.iaload, 1) := by decide +kernel
theorem d_Gr_beginsSide_8 : decode c_Gr_beginsSide 8 = .ok (.invokevirtual 88, 3) := by decide +kernel
theorem d_Gr_beginsSide_11 : decode c_Gr_beginsSide 11 = .ok (.if_icmp .ne 7, 3) := by decide +kernel
theorem d_Gr_beginsSide_14 : decode c_Gr_beginsSide 14 = .ok (.iconst 1, 1) := by decide +kernel
theorem d_Gr_beginsSide_15 : decode c_Gr_beginsSide 15 = .ok (.goto 4, 3) := by decide +kernel
theorem d_Gr_beginsSide_18 : decode c_Gr_beginsSide 18 = .ok (.iconst 0, 1) := by decide +kernel
theorem d_Gr_beginsSide_19 : decode c_Gr_beginsSide 19 = .ok (.ireturn, 1) := by decide +kernel
theorem d_Rs_listSides_0 : decode c_Rs_listSides 0 = .ok (.aload_n 0, 1) := by decide +kernel
theorem d_Rs_listSides_1 : decode c_Rs_listSides 1 = .ok (.iconst 0, 1) := by decide +kernel
theorem d_Rs_listSides_2 : decode c_Rs_listSides 2 = .ok (.putfield 93, 3) := by decide +kernel
theorem d_Rs_listSides_5 : decode c_Rs_listSides 5 = .ok (.iconst 0, 1) := by decide +kernel
theorem d_Rs_listSides_6 : decode c_Rs_listSides 6 = .ok (.istore_n 2, 1) := by decide +kernel
theorem d_Rs_listSides_7 : decode c_Rs_listSides 7 = .ok (.iload_n 2, 1) := by decide +kernel
theorem d_Rs_listSides_8 : decode c_Rs_listSides 8 = .ok (.aload_n 0, 1) := by decide +kernel
theorem d_Rs_listSides_9 : decode c_Rs_listSides 9 = .ok (.getfield 22, 3) := by decide +kernel
theorem d_Rs_listSides_12 : decode c_Rs_listSides 12 = .ok (.if_icmp .ge 52, 3) := by decide +kernel
theorem d_Rs_listSides_15 : decode c_Rs_listSides 15 = .ok (.aload_n 0, 1) := by decide +kernel
theorem d_Rs_listSides_16 : decode c_Rs_listSides 16 = .ok (.iload_n 2, 1) := by decide +kernel
theorem d_Rs_listSides_17 : decode c_Rs_listSides 17 = .ok (.invokevirtual 96, 3) := by decide +kernel
theorem d_Rs_listSides_20 : decode c_Rs_listSides 20 = .ok (.istore_n 3, 1) := by decide +kernel
theorem d_Rs_listSides_21 : decode c_Rs_listSides 21 = .ok (.iload_n 2, 1) := by decide +kernel
theorem d_Rs_listSides_22 : decode c_Rs_listSides 22 = .ok (.ifCond .eq 11, 3) := by decide +kernel
theorem d_Rs_listSides_25 : decode c_Rs_listSides 25 = .ok (.aload_n 1, 1) := by decide +kernel
theorem d_Rs_listSides_26 : decode c_Rs_listSides 26 = .ok (.iload_n 3, 1) := by decide +kernel
theorem d_Rs_listSides_27 : decode c_Rs_listSides 27 = .ok (.invokevirtual 100, 3) := by decide +kernel
theorem d_Rs_listSides_30 : decode c_Rs_listSides 30 = .ok (.ifCond .eq 28, 3) := by decide +kernel
theorem d_Rs_listSides_33 : decode c_Rs_listSides 33 = .ok (.aload_n 0, 1) := by decide +kernel
theorem d_Rs_listSides_34 : decode c_Rs_listSides 34 = .ok (.getfield 9, 3) := by decide +kernel
theorem d_Rs_listSides_37 : decode c_Rs_listSides 37 = .ok (.aload_n 0, 1) := by decide +kernel
theorem d_Rs_listSides_38 : decode c_Rs_listSides 38 = .ok (.getfield 93, 3) := by decide +kernel
theorem d_Rs_listSides_41 : decode c_Rs_listSides 41 = .ok (.aload_n 1, 1) := by decide +kernel
theorem d_Rs_listSides_42 : decode c_Rs_listSides 42 = .ok (.getfield 104, 3) := by decide +kernel
theorem d_Rs_listSides_45 : decode c_Rs_listSides 45 = .ok (.iload_n 3, 1) := by decide +kernel
theorem d_Rs_listSides_46 : decode c_Rs_listSides 46 = .ok (.iaload, 1) := by decide +kernel
theorem d_Rs_listSides_47 : decode c_Rs_listSides 47 = .ok (.iastore, 1) := by decide +kernel
theorem d_Rs_listSides_48 : decode c_Rs_listSides 48 = .ok (.aload_n 0, 1) := by decide +kernel
theorem d_Rs_listSides_49 : decode c_Rs_listSides 49 = .ok (.dup, 1) := by decide +kernel
theorem d_Rs_listSides_50 : decode c_Rs_listSides 50 = .ok (.getfield 93, 3) := by decide +kernel
theorem d_Rs_listSides_53 : decode c_Rs_listSides 53 = .ok (.iconst 1, 1) := by decide +kernel
theorem d_Rs_listSides_54 : decode c_Rs_listSides 54 = .ok (.iadd, 1) := by decide +kernel
theorem d_Rs_listSides_55 : decode c_Rs_listSides 55 = .ok (.putfield 93, 3) := by decide +kernel
theorem d_Rs_listSides_58 : decode c_Rs_listSides 58 = .ok (.iinc 2 1, 3) := by decide +kernel
theorem d_Rs_listSides_61 : decode c_Rs_listSides 61 = .ok (.goto (-54), 3) := by decide +kernel
theorem d_Rs_listSides_64 : decode c_Rs_listSides 64 = .ok (.return_, 1) := by decide +kernel
theorem d_Rs_find_0 : decode c_Rs_find 0 = .ok (.aload_n 0, 1) := by decide +kernel
theorem d_Rs_find_1 : decode c_Rs_find 1 = .ok (.iconst 0, 1) := by decide +kernel
theorem d_Rs_find_2 : decode c_Rs_find 2 = .ok (.putfield 22, 3) := by decide +kernel
theorem d_Rs_find_5 : decode c_Rs_find 5 = .ok (.aload_n 0, 1) := by decide +kernel
theorem d_Rs_find_6 : decode c_Rs_find 6 = .ok (.iconst 0, 1) := by decide +kernel
theorem d_Rs_find_7 : decode c_Rs_find 7 = .ok (.putfield 26, 3) := by decide +kernel
theorem d_Rs_find_10 : decode c_Rs_find 10 = .ok (.aload_n 0, 1) := by decide +kernel
theorem d_Rs_find_11 : decode c_Rs_find 11 = .ok (.aload_n 2, 1) := by decide +kernel
theorem d_Rs_find_12 : decode c_Rs_find 12 = .ok (.getfield 29, 3) := by decide +kernel
theorem d_Rs_find_15 : decode c_Rs_find 15 = .ok (.putfield 34, 3) := by decide +kernel
theorem d_Rs_find_18 : decode c_Rs_find 18 = .ok (.aload_n 0, 1) := by decide +kernel
theorem d_Rs_find_19 : decode c_Rs_find 19 = .ok (.aload_n 3, 1) := by decide +kernel
theorem d_Rs_find_20 : decode c_Rs_find 20 = .ok (.aload_n 1, 1) := by decide +kernel
theorem d_Rs_find_21 : decode c_Rs_find 21 = .ok (.aload_n 0, 1) := by decide +kernel
theorem d_Rs_find_22 : decode c_Rs_find 22 = .ok (.getfield 34, 3) := by decide +kernel
theorem d_Rs_find_25 : decode c_Rs_find 25 = .ok (.invokevirtual 37, 3) := by decide +kernel
theorem d_Rs_find_28 : decode c_Rs_find 28 = .ok (.putfield 43, 3) := by decide +kernel
theorem d_Rs_find_31 : decode c_Rs_find 31 = .ok (.aload_n 0, 1) := by decide +kernel
theorem d_Rs_find_32 : decode c_Rs_find 32 = .ok (.aload_n 3, 1) := by decide +kernel
theorem d_Rs_find_33 : decode c_Rs_find 33 = .ok (.aload_n 0, 1) := by decide +kernel
theorem d_Rs_find_34 : decode c_Rs_find 34 = .ok (.getfield 34, 3) := by decide +kernel
theorem d_Rs_find_37 : decode c_Rs_find 37 = .ok (.aload_n 0, 1) := by decide +kernel
theorem d_Rs_find_38 : decode c_Rs_find 38 = .ok (.getfield 43, 3) := by decide +kernel
theorem d_Rs_find_41 : decode c_Rs_find 41 = .ok (.invokevirtual 46, 3) := by decide +kernel
theorem d_Rs_find_44 : decode c_Rs_find 44 = .ok (.putfield 50, 3) := by decide +kernel
theorem d_Rs_find_47 : decode c_Rs_find 47 = .ok (.iconst 1, 1) := by decide +kernel
theorem d_Rs_find_48 : decode c_Rs_find 48 = .ok (.istore 4, 2) := by decide +kernel
theorem d_Rs_find_50 : decode c_Rs_find 50 = .ok (.iconst 0, 1) := by decide +kernel
theorem d_Rs_find_51 : decode c_Rs_find 51 = .ok (.istore 5, 2) := by decide +kernel
theorem d_Rs_find_53 : decode c_Rs_find 53 = .ok (.iload 4, 2) := by decide +kernel
theorem d_Rs_find_55 : decode c_Rs_find 55 = .ok (.ifCond .eq 25, 3) := by decide +kernel
theorem d_Rs_find_58 : decode c_Rs_find 58 = .ok (.iload 5, 2) := by decide +kernel
theorem d_Rs_find_60 : decode c_Rs_find 60 = .ok (.bipush 25, 2) := by decide +kernel
theorem d_Rs_find_62 : decode c_Rs_find 62 = .ok (.if_icmp .ge 18, 3) := by decide +kernel
theorem d_Rs_find_65 : decode c_Rs_find 65 = .ok (.aload_n 0, 1) := by decide +kernel
theorem d_Rs_find_66 : decode c_Rs_find 66 = .ok (.aload_n 1, 1) := by decide +kernel
theorem d_Rs_find_67 : decode c_Rs_find 67 = .ok (.aload_n 2, 1) := by decide +kernel
theorem d_Rs_find_68 : decode c_Rs_find 68 = .ok (.aload_n 3, 1) := by decide +kernel
theorem d_Rs_find_69 : decode c_Rs_find 69 = .ok (.invokevirtual 53, 3) := by decide +kernel
theorem d_Rs_find_72 : decode c_Rs_find 72 = .ok (.istore 4, 2) := by decide +kernel
theorem d_Rs_find_74 : decode c_Rs_find 74 = .ok (.iinc 5 1, 3) := by decide +kernel
theorem d_Rs_find_77 : decode c_Rs_find 77 = .ok (.goto (-24), 3) := by decide +kernel
theorem d_Rs_find_80 : decode c_Rs_find 80 = .ok (.aload_n 0, 1) := by decide +kernel
theorem d_Rs_find_81 : decode c_Rs_find 81 = .ok (.aload_n 1, 1) := by decide +kernel
theorem d_Rs_find_82 : decode c_Rs_find 82 = .ok (.invokevirtual 57, 3) := by decide +kernel
theorem d_Rs_find_85 : decode c_Rs_find 85 = .ok (.aload_n 0, 1) := by decide +kernel
theorem d_Rs_find_86 : decode c_Rs_find 86 = .ok (.iconst 1, 1) := by decide +kernel
theorem d_Rs_find_87 : decode c_Rs_find 87 = .ok (.putfield 61, 3) := by decide +kernel
theorem d_Rs_find_90 : decode c_Rs_find 90 = .ok (.return_, 1) := by decide +kernel
theorem d_X_align_0 : decode c_X_align 0 = .ok (.aload_n 0, 1) := by decide +kernel
theorem d_X_align_1 : decode c_X_align 1 = .ok (.getfield 47, 3) := by decide +kernel
theorem d_X_align_4 : decode c_X_align 4 = .ok (.getfield 76, 3) := by decide +kernel
theorem d_X_align_7 : decode c_X_align 7 = .ok (.ifCond .ne 6, 3) := by decide +kernel
theorem d_X_align_10 : decode c_X_align 10 = .ok (.bipush (-2), 2) := by decide +kernel
theorem d_X_align_12 : decode c_X_align 12 = .ok (.ireturn, 1) := by decide +kernel
theorem d_X_align_13 : decode c_X_align 13 = .ok (.aload_n 0, 1) := by decide +kernel
theorem d_X_align_14 : decode c_X_align 14 = .ok (.getfield 26, 3) := by decide +kernel
theorem d_X_align_17 : decode c_X_align 17 = .ok (.aload_n 0, 1) := by decide +kernel
theorem d_X_align_18 : decode c_X_align 18 = .ok (.getfield 47, 3) := by decide +kernel
theorem d_X_align_21 : decode c_X_align 21 = .ok (.aload_n 0, 1) := by decide +kernel
theorem d_X_align_22 : decode c_X_align 22 = .ok (.getfield 19, 3) := by decide +kernel
theorem d_X_align_25 : decode c_X_align 25 = .ok (.aload_n 0, 1) := by decide +kernel
theorem d_X_align_26 : decode c_X_align 26 = .ok (.getfield 19, 3) := by decide +kernel
theorem d_X_align_29 : decode c_X_align 29 = .ok (.getfield 101, 3) := by decide +kernel
theorem d_X_align_32 : decode c_X_align 32 = .ok (.invokevirtual 102, 3) := by decide +kernel
theorem d_X_align_35 : decode c_X_align 35 = .ok (.aload_n 0, 1) := by decide +kernel
theorem d_X_align_36 : decode c_X_align 36 = .ok (.getfield 33, 3) := by decide +kernel
theorem d_X_align_39 : decode c_X_align 39 = .ok (.aload_n 0, 1) := by decide +kernel
theorem d_X_align_40 : decode c_X_align 40 = .ok (.getfield 47, 3) := by decide +kernel
theorem d_X_align_43 : decode c_X_align 43 = .ok (.aload_n 0, 1) := by decide +kernel
theorem d_X_align_44 : decode c_X_align 44 = .ok (.getfield 19, 3) := by decide +kernel
theorem d_X_align_47 : decode c_X_align 47 = .ok (.aload_n 0, 1) := by decide +kernel
theorem d_X_align_48 : decode c_X_align 48 = .ok (.getfield 26, 3) := by decide +kernel
theorem d_X_align_51 : decode c_X_align 51 = .ok (.invokevirtual 106, 3) := by decide +kernel
theorem d_X_align_54 : decode c_X_align 54 = .ok (.aload_n 0, 1) := by decide +kernel
theorem d_X_align_55 : decode c_X_align 55 = .ok (.getfield 33, 3) := by decide +kernel
theorem d_X_align_58 : decode c_X_align 58 = .ok (.getfield 110, 3) := by decide +kernel
theorem d_X_align_61 : decode c_X_align 61 = .ok (.ireturn, 1) := by decide +kernel
theorem d_X_least_0 : decode c_X_least 0 = .ok (.iload_n 1, 1) := by decide +kernel
theorem d_X_least_1 : decode c_X_least 1 = .ok (.ifCond .lt 25, 3) := by decide +kernel
theorem d_X_least_4 : decode c_X_least 4 = .ok (.iload_n 1, 1) := by decide +kernel
theorem d_X_least_5 : decode c_X_least 5 = .ok (.aload_n 0, 1) := by decide +kernel
theorem d_X_least_6 : decode c_X_least 6 = .ok (.getfield 19, 3) := by decide +kernel
theorem d_X_least_9 : decode c_X_least 9 = .ok (.getfield 101, 3) := by decide +kernel
theorem d_X_least_12 : decode c_X_least 12 = .ok (.if_icmp .gt 14, 3) := by decide +kernel
theorem d_X_least_15 : decode c_X_least 15 = .ok (.aload_n 0, 1) := by decide +kernel
theorem d_X_least_16 : decode c_X_least 16 = .ok (.getfield 47, 3) := by decide +kernel
theorem d_X_least_19 : decode c_X_least 19 = .ok (.iload_n 2, 1) := by decide +kernel
theorem d_X_least_20 : decode c_X_least 20 = .ok (.invokevirtual 88, 3) := by decide +kernel
theorem d_X_least_23 : decode c_X_least 23 = .ok (.ifCond .ne 5, 3) := by decide +kernel
theorem d_X_least_26 : decode c_X_least 26 = .ok (.iconst (-1), 1) := by decide +kernel
theorem d_X_least_27 : decode c_X_least 27 = .ok (.ireturn, 1) := by decide +kernel
theorem d_X_least_28 : decode c_X_least 28 = .ok (.aload_n 0, 1) := by decide +kernel
theorem d_X_least_29 : decode c_X_least 29 = .ok (.getfield 26, 3) := by decide +kernel
theorem d_X_least_32 : decode c_X_least 32 = .ok (.aload_n 0, 1) := by decide +kernel
theorem d_X_least_33 : decode c_X_least 33 = .ok (.getfield 47, 3) := by decide +kernel
theorem d_X_least_36 : decode c_X_least 36 = .ok (.aload_n 0, 1) := by decide +kernel
theorem d_X_least_37 : decode c_X_least 37 = .ok (.getfield 19, 3) := by decide +kernel
theorem d_X_least_40 : decode c_X_least 40 = .ok (.iload_n 1, 1) := by decide +kernel
theorem d_X_least_41 : decode c_X_least 41 = .ok (.invokevirtual 102, 3) := by decide +kernel
theorem d_X_least_44 : decode c_X_least 44 = .ok (.aload_n 0, 1) := by decide +kernel
theorem d_X_least_45 : decode c_X_least 45 = .ok (.getfield 26, 3) := by decide +kernel
theorem d_X_least_48 : decode c_X_least 48 = .ok (.iload_n 1, 1) := by decide +kernel
theorem d_X_least_49 : decode c_X_least 49 = .ok (.iload_n 2, 1) := by decide +kernel
theorem d_X_least_50 : decode c_X_least 50 = .ok (.invokevirtual 113, 3) := by decide +kernel
theorem d_X_least_53 : decode c_X_least 53 = .ok (.ireturn, 1) := by decide +kernel
theorem d_X_walk_0 : decode c_X_walk 0 = .ok (.aload_n 0, 1) := by decide +kernel
theorem d_X_walk_1 : decode c_X_walk 1 = .ok (.getfield 33, 3) := by decide +kernel
theorem d_X_walk_4 : decode c_X_walk 4 = .ok (.getfield 72, 3) := by decide +kernel
theorem d_X_walk_7 : decode c_X_walk 7 = .ok (.ifCond .eq 29, 3) := by decide +kernel
theorem d_X_walk_10 : decode c_X_walk 10 = .ok (.iload_n 1, 1) := by decide +kernel
theorem d_X_walk_11 : decode c_X_walk 11 = .ok (.ifCond .lt 25, 3) := by decide +kernel
theorem d_X_walk_14 : decode c_X_walk 14 = .ok (.iload_n 1, 1) := by decide +kernel
theorem d_X_walk_15 : decode c_X_walk 15 = .ok (.aload_n 0, 1) := by decide +kernel
theorem d_X_walk_16 : decode c_X_walk 16 = .ok (.getfield 33, 3) := by decide +kernel
theorem d_X_walk_19 : decode c_X_walk 19 = .ok (.getfield 117, 3) := by decide +kernel
theorem d_X_walk_22 : decode c_X_walk 22 = .ok (.if_icmp .ge 14, 3) := by decide +kernel
theorem d_X_walk_25 : decode c_X_walk 25 = .ok (.aload_n 0, 1) := by decide +kernel
theorem d_X_walk_26 : decode c_X_walk 26 = .ok (.getfield 33, 3) := by decide +kernel
theorem d_X_walk_29 : decode c_X_walk 29 = .ok (.iload_n 1, 1) := by decide +kernel
theorem d_X_walk_30 : decode c_X_walk 30 = .ok (.invokevirtual 120, 3) := by decide +kernel
theorem d_X_walk_33 : decode c_X_walk 33 = .ok (.goto 4, 3) := by decide +kernel
theorem d_X_walk_36 : decode c_X_walk 36 = .ok (.iconst (-1), 1) := by decide +kernel
theorem d_X_walk_37 : decode c_X_walk 37 = .ok (.ireturn, 1) := by decide +kernel
theorem d_Rs_editAt_0 : decode c_Rs_editAt 0 = .ok (.aload_n 0, 1) := by decide +kernel
theorem d_Rs_editAt_1 : decode c_Rs_editAt 1 = .ok (.getfield 18, 3) := by decide +kernel
theorem d_Rs_editAt_4 : decode c_Rs_editAt 4 = .ok (.aload_n 0, 1) := by decide +kernel
theorem d_Rs_editAt_5 : decode c_Rs_editAt 5 = .ok (.getfield 26, 3) := by decide +kernel
theorem d_Rs_editAt_8 : decode c_Rs_editAt 8 = .ok (.iconst 1, 1) := by decide +kernel
theorem d_Rs_editAt_9 : decode c_Rs_editAt 9 = .ok (.isub, 1) := by decide +kernel
theorem d_Rs_editAt_10 : decode c_Rs_editAt 10 = .ok (.iload_n 1, 1) := by decide +kernel
theorem d_Rs_editAt_11 : decode c_Rs_editAt 11 = .ok (.isub, 1) := by decide +kernel
theorem d_Rs_editAt_12 : decode c_Rs_editAt 12 = .ok (.caload, 1) := by decide +kernel
theorem d_Rs_editAt_13 : decode c_Rs_editAt 13 = .ok (.ireturn, 1) := by decide +kernel
theorem d_X_edit_0 : decode c_X_edit 0 = .ok (.aload_n 0, 1) := by decide +kernel
theorem d_X_edit_1 : decode c_X_edit 1 = .ok (.getfield 33, 3) := by decide +kernel
theorem d_X_edit_4 : decode c_X_edit 4 = .ok (.getfield 72, 3) := by decide +kernel
theorem d_X_edit_7 : decode c_X_edit 7 = .ok (.ifCond .eq 29, 3) := by decide +kernel
theorem d_X_edit_10 : decode c_X_edit 10 = .ok (.iload_n 1, 1) := by decide +kernel
theorem d_X_edit_11 : decode c_X_edit 11 = .ok (.ifCond .lt 25, 3) := by decide +kernel
theorem d_X_edit_14 : decode c_X_edit 14 = .ok (.iload_n 1, 1) := by decide +kernel
theorem d_X_edit_15 : decode c_X_edit 15 = .ok (.aload_n 0, 1) := by decide +kernel
theorem d_X_edit_16 : decode c_X_edit 16 = .ok (.getfield 33, 3) := by decide +kernel
theorem d_X_edit_19 : decode c_X_edit 19 = .ok (.getfield 124, 3) := by decide +kernel
theorem d_X_edit_22 : decode c_X_edit 22 = .ok (.if_icmp .ge 14, 3) := by decide +kernel
theorem d_X_edit_25 : decode c_X_edit 25 = .ok (.aload_n 0, 1) := by decide +kernel
theorem d_X_edit_26 : decode c_X_edit 26 = .ok (.getfield 33, 3) := by decide +kernel
theorem d_X_edit_29 : decode c_X_edit 29 = .ok (.iload_n 1, 1) := by decide +kernel
theorem d_X_edit_30 : decode c_X_edit 30 = .ok (.invokevirtual 127, 3) := by decide +kernel
theorem d_X_edit_33 : decode c_X_edit 33 = .ok (.goto 4, 3) := by decide +kernel
theorem d_X_edit_36 : decode c_X_edit 36 = .ok (.iconst (-1), 1) := by decide +kernel
theorem d_X_edit_37 : decode c_X_edit 37 = .ok (.ireturn, 1) := by decide +kernel
theorem d_X_liesForwards_0 : decode c_X_liesForwards 0 = .ok (.iconst 0, 1) := by decide +kernel
theorem d_X_liesForwards_1 : decode c_X_liesForwards 1 = .ok (.istore_n 2, 1) := by decide +kernel
theorem d_X_liesForwards_2 : decode c_X_liesForwards 2 = .ok (.iload_n 2, 1) := by decide +kernel
theorem d_X_liesForwards_3 : decode c_X_liesForwards 3 = .ok (.aload_n 0, 1) := by decide +kernel
theorem d_X_liesForwards_4 : decode c_X_liesForwards 4 = .ok (.getfield 33, 3) := by decide +kernel
theorem d_X_liesForwards_7 : decode c_X_liesForwards 7 = .ok (.getfield 135, 3) := by decide +kernel
theorem d_X_liesForwards_10 : decode c_X_liesForwards 10 = .ok (.if_icmp .ge 34, 3) := by decide +kernel
theorem d_X_liesForwards_13 : decode c_X_liesForwards 13 = .ok (.aload_n 0, 1) := by decide +kernel
theorem d_X_liesForwards_14 : decode c_X_liesForwards 14 = .ok (.getfield 47, 3) := by decide +kernel
theorem d_X_liesForwards_17 : decode c_X_liesForwards 17 = .ok (.getfield 224, 3) := by decide +kernel
theorem d_X_liesForwards_20 : decode c_X_liesForwards 20 = .ok (.iload_n 1, 1) := by decide +kernel
theorem d_X_liesForwards_21 : decode c_X_liesForwards 21 = .ok (.iload_n 2, 1) := by decide +kernel
theorem d_X_liesForwards_22 : decode c_X_liesForwards 22 = .ok (.iadd, 1) := by decide +kernel
theorem d_X_liesForwards_23 : decode c_X_liesForwards 23 = .ok (.iaload, 1) := by decide +kernel
theorem d_X_liesForwards_24 : decode c_X_liesForwards 24 = .ok (.aload_n 0, 1) := by decide +kernel
theorem d_X_liesForwards_25 : decode c_X_liesForwards 25 = .ok (.getfield 33, 3) := by decide +kernel
theorem d_X_liesForwards_28 : decode c_X_liesForwards 28 = .ok (.getfield 227, 3) := by decide +kernel
theorem d_X_liesForwards_31 : decode c_X_liesForwards 31 = .ok (.iload_n 2, 1) := by decide +kernel
theorem d_X_liesForwards_32 : decode c_X_liesForwards 32 = .ok (.iaload, 1) := by decide +kernel
theorem d_X_liesForwards_33 : decode c_X_liesForwards 33 = .ok (.if_icmp .eq 5, 3) := by decide +kernel
theorem d_X_liesForwards_36 : decode c_X_liesForwards 36 = .ok (.iconst 0, 1) := by decide +kernel
theorem d_X_liesForwards_37 : decode c_X_liesForwards 37 = .ok (.ireturn, 1) := by decide +kernel
theorem d_X_liesForwards_38 : decode c_X_liesForwards 38 = .ok (.iinc 2 1, 3) := by decide +kernel
theorem d_X_liesForwards_41 : decode c_X_liesForwards 41 = .ok (.goto (-39), 3) := by decide +kernel
theorem d_X_liesForwards_44 : decode c_X_liesForwards 44 = .ok (.iconst 1, 1) := by decide +kernel
theorem d_X_liesForwards_45 : decode c_X_liesForwards 45 = .ok (.ireturn, 1) := by decide +kernel
theorem d_X_liesTurned_0 : decode c_X_liesTurned 0 = .ok (.aload_n 0, 1) := by decide +kernel
theorem d_X_liesTurned_1 : decode c_X_liesTurned 1 = .ok (.getfield 33, 3) := by decide +kernel
theorem d_X_liesTurned_4 : decode c_X_liesTurned 4 = .ok (.getfield 135, 3) := by decide +kernel
theorem d_X_liesTurned_7 : decode c_X_liesTurned 7 = .ok (.iconst 1, 1) := by decide +kernel
theorem d_X_liesTurned_8 : decode c_X_liesTurned 8 = .ok (.isub, 1) := by decide +kernel
theorem d_X_liesTurned_9 : decode c_X_liesTurned 9 = .ok (.istore_n 2, 1) := by decide +kernel
theorem d_X_liesTurned_10 : decode c_X_liesTurned 10 = .ok (.iconst 0, 1) := by decide +kernel
theorem d_X_liesTurned_11 : decode c_X_liesTurned 11 = .ok (.istore_n 3, 1) := by decide +kernel
theorem d_X_liesTurned_12 : decode c_X_liesTurned 12 = .ok (.iload_n 3, 1) := by decide +kernel
theorem d_X_liesTurned_13 : decode c_X_liesTurned 13 = .ok (.iload_n 2, 1) := by decide +kernel
theorem d_X_liesTurned_14 : decode c_X_liesTurned 14 = .ok (.if_icmp .gt 39, 3) := by decide +kernel
theorem d_X_liesTurned_17 : decode c_X_liesTurned 17 = .ok (.aload_n 0, 1) := by decide +kernel
theorem d_X_liesTurned_18 : decode c_X_liesTurned 18 = .ok (.getfield 47, 3) := by decide +kernel
theorem d_X_liesTurned_21 : decode c_X_liesTurned 21 = .ok (.getfield 224, 3) := by decide +kernel
theorem d_X_liesTurned_24 : decode c_X_liesTurned 24 = .ok (.iload_n 1, 1) := by decide +kernel
theorem d_X_liesTurned_25 : decode c_X_liesTurned 25 = .ok (.iload_n 3, 1) := by decide +kernel
theorem d_X_liesTurned_26 : decode c_X_liesTurned 26 = .ok (.iadd, 1) := by decide +kernel
theorem d_X_liesTurned_27 : decode c_X_liesTurned 27 = .ok (.iaload, 1) := by decide +kernel
theorem d_X_liesTurned_28 : decode c_X_liesTurned 28 = .ok (.aload_n 0, 1) := by decide +kernel
theorem d_X_liesTurned_29 : decode c_X_liesTurned 29 = .ok (.getfield 33, 3) := by decide +kernel
theorem d_X_liesTurned_32 : decode c_X_liesTurned 32 = .ok (.getfield 227, 3) := by decide +kernel
theorem d_X_liesTurned_35 : decode c_X_liesTurned 35 = .ok (.iload_n 2, 1) := by decide +kernel
theorem d_X_liesTurned_36 : decode c_X_liesTurned 36 = .ok (.iload_n 3, 1) := by decide +kernel
theorem d_X_liesTurned_37 : decode c_X_liesTurned 37 = .ok (.isub, 1) := by decide +kernel
theorem d_X_liesTurned_38 : decode c_X_liesTurned 38 = .ok (.iaload, 1) := by decide +kernel
theorem d_X_liesTurned_39 : decode c_X_liesTurned 39 = .ok (.invokestatic 221, 3) := by decide +kernel
theorem d_X_liesTurned_42 : decode c_X_liesTurned 42 = .ok (.if_icmp .eq 5, 3) := by decide +kernel
theorem d_X_liesTurned_45 : decode c_X_liesTurned 45 = .ok (.iconst 0, 1) := by decide +kernel
theorem d_X_liesTurned_46 : decode c_X_liesTurned 46 = .ok (.ireturn, 1) := by decide +kernel
theorem d_X_liesTurned_47 : decode c_X_liesTurned 47 = .ok (.iinc 3 1, 3) := by decide +kernel
theorem d_X_liesTurned_50 : decode c_X_liesTurned 50 = .ok (.goto (-38), 3) := by decide +kernel
theorem d_X_liesTurned_53 : decode c_X_liesTurned 53 = .ok (.iconst 1, 1) := by decide +kernel
theorem d_X_liesTurned_54 : decode c_X_liesTurned 54 = .ok (.ireturn, 1) := by decide +kernel
theorem d_X_lies_0 : decode c_X_lies 0 = .ok (.aload_n 0, 1) := by decide +kernel
theorem d_X_lies_1 : decode c_X_lies 1 = .ok (.getfield 33, 3) := by decide +kernel
theorem d_X_lies_4 : decode c_X_lies 4 = .ok (.getfield 72, 3) := by decide +kernel
theorem d_X_lies_7 : decode c_X_lies 7 = .ok (.ifCond .eq 18, 3) := by decide +kernel
theorem d_X_lies_10 : decode c_X_lies 10 = .ok (.iload_n 1, 1) := by decide +kernel
theorem d_X_lies_11 : decode c_X_lies 11 = .ok (.ifCond .lt 14, 3) := by decide +kernel
theorem d_X_lies_14 : decode c_X_lies 14 = .ok (.iload_n 1, 1) := by decide +kernel
theorem d_X_lies_15 : decode c_X_lies 15 = .ok (.aload_n 0, 1) := by decide +kernel
theorem d_X_lies_16 : decode c_X_lies 16 = .ok (.getfield 47, 3) := by decide +kernel
theorem d_X_lies_19 : decode c_X_lies 19 = .ok (.getfield 82, 3) := by decide +kernel
theorem d_X_lies_22 : decode c_X_lies 22 = .ok (.if_icmp .lt 5, 3) := by decide +kernel
theorem d_X_lies_25 : decode c_X_lies 25 = .ok (.iconst 0, 1) := by decide +kernel
theorem d_X_lies_26 : decode c_X_lies 26 = .ok (.ireturn, 1) := by decide +kernel
theorem d_X_lies_27 : decode c_X_lies 27 = .ok (.aload_n 0, 1) := by decide +kernel
theorem d_X_lies_28 : decode c_X_lies 28 = .ok (.getfield 47, 3) := by decide +kernel
theorem d_X_lies_31 : decode c_X_lies 31 = .ok (.getfield 131, 3) := by decide +kernel
theorem d_X_lies_34 : decode c_X_lies 34 = .ok (.iload_n 1, 1) := by decide +kernel
theorem d_X_lies_35 : decode c_X_lies 35 = .ok (.iaload, 1) := by decide +kernel
theorem d_X_lies_36 : decode c_X_lies 36 = .ok (.aload_n 0, 1) := by decide +kernel
theorem d_X_lies_37 : decode c_X_lies 37 = .ok (.getfield 33, 3) := by decide +kernel
theorem d_X_lies_40 : decode c_X_lies 40 = .ok (.getfield 135, 3) := by decide +kernel
theorem d_X_lies_43 : decode c_X_lies 43 = .ok (.isub, 1) := by decide +kernel
theorem d_X_lies_44 : decode c_X_lies 44 = .ok (.istore_n 2, 1) := by decide +kernel
theorem d_X_lies_45 : decode c_X_lies 45 = .ok (.iconst 0, 1) := by decide +kernel
theorem d_X_lies_46 : decode c_X_lies 46 = .ok (.istore_n 3, 1) := by decide +kernel
theorem d_X_lies_47 : decode c_X_lies 47 = .ok (.iload_n 3, 1) := by decide +kernel
theorem d_X_lies_48 : decode c_X_lies 48 = .ok (.iload_n 2, 1) := by decide +kernel
theorem d_X_lies_49 : decode c_X_lies 49 = .ok (.if_icmp .gt 37, 3) := by decide +kernel
theorem d_X_lies_52 : decode c_X_lies 52 = .ok (.iload_n 1, 1) := by decide +kernel
theorem d_X_lies_53 : decode c_X_lies 53 = .ok (.bipush 8, 2) := by decide +kernel
theorem d_X_lies_55 : decode c_X_lies 55 = .ok (.imul, 1) := by decide +kernel
theorem d_X_lies_56 : decode c_X_lies 56 = .ok (.iload_n 3, 1) := by decide +kernel
theorem d_X_lies_57 : decode c_X_lies 57 = .ok (.iadd, 1) := by decide +kernel
theorem d_X_lies_58 : decode c_X_lies 58 = .ok (.istore 4, 2) := by decide +kernel
theorem d_X_lies_60 : decode c_X_lies 60 = .ok (.aload_n 0, 1) := by decide +kernel
theorem d_X_lies_61 : decode c_X_lies 61 = .ok (.iload 4, 2) := by decide +kernel
theorem d_X_lies_63 : decode c_X_lies 63 = .ok (.invokevirtual 138, 3) := by decide +kernel
theorem d_X_lies_66 : decode c_X_lies 66 = .ok (.ifCond .ne 12, 3) := by decide +kernel
theorem d_X_lies_69 : decode c_X_lies 69 = .ok (.aload_n 0, 1) := by decide +kernel
theorem d_X_lies_70 : decode c_X_lies 70 = .ok (.iload 4, 2) := by decide +kernel
theorem d_X_lies_72 : decode c_X_lies 72 = .ok (.invokevirtual 141, 3) := by decide +kernel
theorem d_X_lies_75 : decode c_X_lies 75 = .ok (.ifCond .eq 5, 3) := by decide +kernel
theorem d_X_lies_78 : decode c_X_lies 78 = .ok (.iconst 1, 1) := by decide +kernel
theorem d_X_lies_79 : decode c_X_lies 79 = .ok (.ireturn, 1) := by decide +kernel
theorem d_X_lies_80 : decode c_X_lies 80 = .ok (.iinc 3 1, 3) := by decide +kernel
theorem d_X_lies_83 : decode c_X_lies 83 = .ok (.goto (-36), 3) := by decide +kernel
theorem d_X_lies_86 : decode c_X_lies 86 = .ok (.iconst 0, 1) := by decide +kernel
theorem d_X_lies_87 : decode c_X_lies 87 = .ok (.ireturn, 1) := by decide +kernel
theorem d_Mo_type_0 : decode c_Mo_type 0 = .ok (.iload_n 1, 1) := by decide +kernel
theorem d_Mo_type_1 : decode c_Mo_type 1 = .ok (.bipush 9, 2) := by decide +kernel
theorem d_Mo_type_3 : decode c_Mo_type 3 = .ok (.if_icmp .eq 21, 3) := by decide +kernel
theorem d_Mo_type_6 : decode c_Mo_type 6 = .ok (.iload_n 1, 1) := by decide +kernel
theorem d_Mo_type_7 : decode c_Mo_type 7 = .ok (.bipush 10, 2) := by decide +kernel
theorem d_Mo_type_9 : decode c_Mo_type 9 = .ok (.if_icmp .eq 15, 3) := by decide +kernel
theorem d_Mo_type_12 : decode c_Mo_type 12 = .ok (.iload_n 1, 1) := by decide +kernel
theorem d_Mo_type_13 : decode c_Mo_type 13 = .ok (.bipush 32, 2) := by decide +kernel
theorem d_Mo_type_15 : decode c_Mo_type 15 = .ok (.if_icmp .lt 19, 3) := by decide +kernel
theorem d_Mo_type_18 : decode c_Mo_type 18 = .ok (.iload_n 1, 1) := by decide +kernel
theorem d_Mo_type_19 : decode c_Mo_type 19 = .ok (.bipush 126, 2) := by decide +kernel
theorem d_Mo_type_21 : decode c_Mo_type 21 = .ok (.if_icmp .gt 13, 3) := by decide +kernel
theorem d_Mo_type_24 : decode c_Mo_type 24 = .ok (.aload_n 0, 1) := by decide +kernel
theorem d_Mo_type_25 : decode c_Mo_type 25 = .ok (.getfield 74, 3) := by decide +kernel
theorem d_Mo_type_28 : decode c_Mo_type 28 = .ok (.sipush 400, 3) := by decide +kernel
theorem d_Mo_type_31 : decode c_Mo_type 31 = .ok (.if_icmp .ne 5, 3) := by decide +kernel
theorem d_Mo_type_34 : decode c_Mo_type 34 = .ok (.iconst 0, 1) := by decide +kernel
theorem d_Mo_type_35 : decode c_Mo_type 35 = .ok (.ireturn, 1) := by decide +kernel
theorem d_Mo_type_36 : decode c_Mo_type 36 = .ok (.aload_n 0, 1) := by decide +kernel
theorem d_Mo_type_37 : decode c_Mo_type 37 = .ok (.getfield 7, 3) := by decide +kernel
theorem d_Mo_type_40 : decode c_Mo_type 40 = .ok (.aload_n 0, 1) := by decide +kernel
theorem d_Mo_type_41 : decode c_Mo_type 41 = .ok (.getfield 74, 3) := by decide +kernel
theorem d_Mo_type_44 : decode c_Mo_type 44 = .ok (.iload_n 1, 1) := by decide +kernel
theorem d_Mo_type_45 : decode c_Mo_type 45 = .ok (.castore, 1) := by decide +kernel
theorem d_Mo_type_46 : decode c_Mo_type 46 = .ok (.aload_n 0, 1) := by decide +kernel
theorem d_Mo_type_47 : decode c_Mo_type 47 = .ok (.dup, 1) := by decide +kernel
theorem d_Mo_type_48 : decode c_Mo_type 48 = .ok (.getfield 74, 3) := by decide +kernel
theorem d_Mo_type_51 : decode c_Mo_type 51 = .ok (.iconst 1, 1) := by decide +kernel
theorem d_Mo_type_52 : decode c_Mo_type 52 = .ok (.iadd, 1) := by decide +kernel
theorem d_Mo_type_53 : decode c_Mo_type 53 = .ok (.putfield 74, 3) := by decide +kernel
theorem d_Mo_type_56 : decode c_Mo_type 56 = .ok (.iconst 1, 1) := by decide +kernel
theorem d_Mo_type_57 : decode c_Mo_type 57 = .ok (.ireturn, 1) := by decide +kernel
theorem d_Mo_clear_0 : decode c_Mo_clear 0 = .ok (.aload_n 0, 1) := by decide +kernel
theorem d_Mo_clear_1 : decode c_Mo_clear 1 = .ok (.iconst 0, 1) := by decide +kernel
theorem d_Mo_clear_2 : decode c_Mo_clear 2 = .ok (.putfield 74, 3) := by decide +kernel
theorem d_Mo_clear_5 : decode c_Mo_clear 5 = .ok (.return_, 1) := by decide +kernel
theorem d_Mo_eat_0 : decode c_Mo_eat 0 = .ok (.aload_n 0, 1) := by decide +kernel
theorem d_Mo_eat_1 : decode c_Mo_eat 1 = .ok (.getfield 78, 3) := by decide +kernel
theorem d_Mo_eat_4 : decode c_Mo_eat 4 = .ok (.aload_n 0, 1) := by decide +kernel
theorem d_Mo_eat_5 : decode c_Mo_eat 5 = .ok (.getfield 81, 3) := by decide +kernel
theorem d_Mo_eat_8 : decode c_Mo_eat 8 = .ok (.if_icmp .ge 16, 3) := by decide +kernel
theorem d_Mo_eat_11 : decode c_Mo_eat 11 = .ok (.aload_n 0, 1) := by decide +kernel
theorem d_Mo_eat_12 : decode c_Mo_eat 12 = .ok (.getfield 7, 3) := by decide +kernel
theorem d_Mo_eat_15 : decode c_Mo_eat 15 = .ok (.aload_n 0, 1) := by decide +kernel
theorem d_Mo_eat_16 : decode c_Mo_eat 16 = .ok (.getfield 78, 3) := by decide +kernel
theorem d_Mo_eat_19 : decode c_Mo_eat 19 = .ok (.caload, 1) := by decide +kernel
theorem d_Mo_eat_20 : decode c_Mo_eat 20 = .ok (.iload_n 1, 1) := by decide +kernel
theorem d_Mo_eat_21 : decode c_Mo_eat 21 = .ok (.if_icmp .eq 5, 3) := by decide +kernel
theorem d_Mo_eat_24 : decode c_Mo_eat 24 = .ok (.iconst 0, 1) := by decide +kernel
theorem d_Mo_eat_25 : decode c_Mo_eat 25 = .ok (.ireturn, 1) := by decide +kernel
theorem d_Mo_eat_26 : decode c_Mo_eat 26 = .ok (.aload_n 0, 1) := by decide +kernel
theorem d_Mo_eat_27 : decode c_Mo_eat 27 = .ok (.dup, 1) := by decide +kernel
theorem d_Mo_eat_28 : decode c_Mo_eat 28 = .ok (.getfield 78, 3) := by decide +kernel
theorem d_Mo_eat_31 : decode c_Mo_eat 31 = .ok (.iconst 1, 1) := by decide +kernel
theorem d_Mo_eat_32 : decode c_Mo_eat 32 = .ok (.iadd, 1) := by decide +kernel
theorem d_Mo_eat_33 : decode c_Mo_eat 33 = .ok (.putfield 78, 3) := by decide +kernel
theorem d_Mo_eat_36 : decode c_Mo_eat 36 = .ok (.iconst 1, 1) := by decide +kernel
theorem d_Mo_eat_37 : decode c_Mo_eat 37 = .ok (.ireturn, 1) := by decide +kernel
theorem d_Mo_inName_0 : decode c_Mo_inName 0 = .ok (.iload_n 0, 1) := by decide +kernel
theorem d_Mo_inName_1 : decode c_Mo_inName 1 = .ok (.bipush 97, 2) := by decide +kernel
theorem d_Mo_inName_3 : decode c_Mo_inName 3 = .ok (.if_icmp .lt 9, 3) := by decide +kernel
theorem d_Mo_inName_6 : decode c_Mo_inName 6 = .ok (.iload_n 0, 1) := by decide +kernel
theorem d_Mo_inName_7 : decode c_Mo_inName 7 = .ok (.bipush 122, 2) := by decide +kernel
theorem d_Mo_inName_9 : decode c_Mo_inName 9 = .ok (.if_icmp .le 15, 3) := by decide +kernel
theorem d_Mo_inName_12 : decode c_Mo_inName 12 = .ok (.iload_n 0, 1) := by decide +kernel
theorem d_Mo_inName_13 : decode c_Mo_inName 13 = .ok (.bipush 48, 2) := by decide +kernel
theorem d_Mo_inName_15 : decode c_Mo_inName 15 = .ok (.if_icmp .lt 13, 3) := by decide +kernel
theorem d_Mo_inName_18 : decode c_Mo_inName 18 = .ok (.iload_n 0, 1) := by decide +kernel
theorem d_Mo_inName_19 : decode c_Mo_inName 19 = .ok (.bipush 57, 2) := by decide +kernel
theorem d_Mo_inName_21 : decode c_Mo_inName 21 = .ok (.if_icmp .gt 7, 3) := by decide +kernel
theorem d_Mo_inName_24 : decode c_Mo_inName 24 = .ok (.iconst 1, 1) := by decide +kernel
theorem d_Mo_inName_25 : decode c_Mo_inName 25 = .ok (.goto 4, 3) := by decide +kernel
theorem d_Mo_inName_28 : decode c_Mo_inName 28 = .ok (.iconst 0, 1) := by decide +kernel
theorem d_Mo_inName_29 : decode c_Mo_inName 29 = .ok (.ireturn, 1) := by decide +kernel
theorem d_Mo_eatName_0 : decode c_Mo_eatName 0 = .ok (.aload_n 0, 1) := by decide +kernel
theorem d_Mo_eatName_1 : decode c_Mo_eatName 1 = .ok (.aload_n 0, 1) := by decide +kernel
theorem d_Mo_eatName_2 : decode c_Mo_eatName 2 = .ok (.getfield 78, 3) := by decide +kernel
theorem d_Mo_eatName_5 : decode c_Mo_eatName 5 = .ok (.putfield 84, 3) := by decide +kernel
theorem d_Mo_eatName_8 : decode c_Mo_eatName 8 = .ok (.aload_n 0, 1) := by decide +kernel
theorem d_Mo_eatName_9 : decode c_Mo_eatName 9 = .ok (.getfield 78, 3) := by decide +kernel
theorem d_Mo_eatName_12 : decode c_Mo_eatName 12 = .ok (.aload_n 0, 1) := by decide +kernel
theorem d_Mo_eatName_13 : decode c_Mo_eatName 13 = .ok (.getfield 81, 3) := by decide +kernel
theorem d_Mo_eatName_16 : decode c_Mo_eatName 16 = .ok (.if_icmp .ge 31, 3) := by decide +kernel
theorem d_Mo_eatName_19 : decode c_Mo_eatName 19 = .ok (.aload_n 0, 1) := by decide +kernel
theorem d_Mo_eatName_20 : decode c_Mo_eatName 20 = .ok (.getfield 7, 3) := by decide +kernel
theorem d_Mo_eatName_23 : decode c_Mo_eatName 23 = .ok (.aload_n 0, 1) := by decide +kernel
theorem d_Mo_eatName_24 : decode c_Mo_eatName 24 = .ok (.getfield 78, 3) := by decide +kernel
theorem d_Mo_eatName_27 : decode c_Mo_eatName 27 = .ok (.caload, 1) := by decide +kernel
theorem d_Mo_eatName_28 : decode c_Mo_eatName 28 = .ok (.invokestatic 87, 3) := by decide +kernel
theorem d_Mo_eatName_31 : decode c_Mo_eatName 31 = .ok (.ifCond .eq 16, 3) := by decide +kernel
theorem d_Mo_eatName_34 : decode c_Mo_eatName 34 = .ok (.aload_n 0, 1) := by decide +kernel
theorem d_Mo_eatName_35 : decode c_Mo_eatName 35 = .ok (.dup, 1) := by decide +kernel
theorem d_Mo_eatName_36 : decode c_Mo_eatName 36 = .ok (.getfield 78, 3) := by decide +kernel
theorem d_Mo_eatName_39 : decode c_Mo_eatName 39 = .ok (.iconst 1, 1) := by decide +kernel
theorem d_Mo_eatName_40 : decode c_Mo_eatName 40 = .ok (.iadd, 1) := by decide +kernel
theorem d_Mo_eatName_41 : decode c_Mo_eatName 41 = .ok (.putfield 78, 3) := by decide +kernel
theorem d_Mo_eatName_44 : decode c_Mo_eatName 44 = .ok (.goto (-36), 3) := by decide +kernel
theorem d_Mo_eatName_47 : decode c_Mo_eatName 47 = .ok (.aload_n 0, 1) := by decide +kernel
theorem d_Mo_eatName_48 : decode c_Mo_eatName 48 = .ok (.aload_n 0, 1) := by decide +kernel
theorem d_Mo_eatName_49 : decode c_Mo_eatName 49 = .ok (.getfield 78, 3) := by decide +kernel
theorem d_Mo_eatName_52 : decode c_Mo_eatName 52 = .ok (.aload_n 0, 1) := by decide +kernel
theorem d_Mo_eatName_53 : decode c_Mo_eatName 53 = .ok (.getfield 84, 3) := by decide +kernel
theorem d_Mo_eatName_56 : decode c_Mo_eatName 56 = .ok (.isub, 1) := by decide +kernel
theorem d_Mo_eatName_57 : decode c_Mo_eatName 57 = .ok (.putfield 91, 3) := by decide +kernel
theorem d_Mo_eatName_60 : decode c_Mo_eatName 60 = .ok (.aload_n 0, 1) := by decide +kernel
theorem d_Mo_eatName_61 : decode c_Mo_eatName 61 = .ok (.getfield 91, 3) := by decide +kernel
theorem d_Mo_eatName_64 : decode c_Mo_eatName 64 = .ok (.iconst 1, 1) := by decide +kernel
theorem d_Mo_eatName_65 : decode c_Mo_eatName 65 = .ok (.if_icmp .lt 15, 3) := by decide +kernel
theorem d_Mo_eatName_68 : decode c_Mo_eatName 68 = .ok (.aload_n 0, 1) := by decide +kernel
theorem d_Mo_eatName_69 : decode c_Mo_eatName 69 = .ok (.getfield 91, 3) := by decide +kernel
theorem d_Mo_eatName_72 : decode c_Mo_eatName 72 = .ok (.iconst 3, 1) := by decide +kernel
theorem d_Mo_eatName_73 : decode c_Mo_eatName 73 = .ok (.if_icmp .gt 7, 3) := by decide +kernel
theorem d_Mo_eatName_76 : decode c_Mo_eatName 76 = .ok (.iconst 1, 1) := by decide +kernel
theorem d_Mo_eatName_77 : decode c_Mo_eatName 77 = .ok (.goto 4, 3) := by decide +kernel
theorem d_Mo_eatName_80 : decode c_Mo_eatName 80 = .ok (.iconst 0, 1) := by decide +kernel
theorem d_Mo_eatName_81 : decode c_Mo_eatName 81 = .ok (.ireturn, 1) := by decide +kernel
theorem d_Mo_segmentNamed_0 : decode c_Mo_segmentNamed 0 = .ok (.iconst 0, 1) := by decide +kernel
theorem d_Mo_segmentNamed_1 : decode c_Mo_segmentNamed 1 = .ok (.istore_n 1, 1) := by decide +kernel
theorem d_Mo_segmentNamed_2 : decode c_Mo_segmentNamed 2 = .ok (.iload_n 1, 1) := by decide +kernel
theorem d_Mo_segmentNamed_3 : decode c_Mo_segmentNamed 3 = .ok (.aload_n 0, 1) := by decide +kernel
theorem d_Mo_segmentNamed_4 : decode c_Mo_segmentNamed 4 = .ok (.getfield 13, 3) := by decide +kernel
theorem d_Mo_segmentNamed_7 : decode c_Mo_segmentNamed 7 = .ok (.iconst 1, 1) := by decide +kernel
theorem d_Mo_segmentNamed_8 : decode c_Mo_segmentNamed 8 = .ok (.iaload, 1) := by decide +kernel
theorem d_Mo_segmentNamed_9 : decode c_Mo_segmentNamed 9 = .ok (.if_icmp .ge 90, 3) := by decide +kernel
theorem d_Mo_segmentNamed_12 : decode c_Mo_segmentNamed 12 = .ok (.aload_n 0, 1) := by decide +kernel
theorem d_Mo_segmentNamed_13 : decode c_Mo_segmentNamed 13 = .ok (.getfield 20, 3) := by decide +kernel
theorem d_Mo_segmentNamed_16 : decode c_Mo_segmentNamed 16 = .ok (.bipush 8, 2) := by decide +kernel
theorem d_Mo_segmentNamed_18 : decode c_Mo_segmentNamed 18 = .ok (.iload_n 1, 1) := by decide +kernel
theorem d_Mo_segmentNamed_19 : decode c_Mo_segmentNamed 19 = .ok (.iadd, 1) := by decide +kernel
theorem d_Mo_segmentNamed_20 : decode c_Mo_segmentNamed 20 = .ok (.iaload, 1) := by decide +kernel
theorem d_Mo_segmentNamed_21 : decode c_Mo_segmentNamed 21 = .ok (.aload_n 0, 1) := by decide +kernel
theorem d_Mo_segmentNamed_22 : decode c_Mo_segmentNamed 22 = .ok (.getfield 91, 3) := by decide +kernel
theorem d_Mo_segmentNamed_25 : decode c_Mo_segmentNamed 25 = .ok (.if_icmp .ne 7, 3) := by decide +kernel
theorem d_Mo_segmentNamed_28 : decode c_Mo_segmentNamed 28 = .ok (.iconst 1, 1) := by decide +kernel
theorem d_Mo_segmentNamed_29 : decode c_Mo_segmentNamed 29 = .ok (.goto 4, 3) := by decide +kernel
theorem d_Mo_segmentNamed_32 : decode c_Mo_segmentNamed 32 = .ok (.iconst 0, 1) := by decide +kernel
theorem d_Mo_segmentNamed_33 : decode c_Mo_segmentNamed 33 = .ok (.istore_n 2, 1) := by decide +kernel
theorem d_Mo_segmentNamed_34 : decode c_Mo_segmentNamed 34 = .ok (.iconst 0, 1) := by decide +kernel
theorem d_Mo_segmentNamed_35 : decode c_Mo_segmentNamed 35 = .ok (.istore_n 3, 1) := by decide +kernel
theorem d_Mo_segmentNamed_36 : decode c_Mo_segmentNamed 36 = .ok (.iload_n 3, 1) := by decide +kernel
theorem d_Mo_segmentNamed_37 : decode c_Mo_segmentNamed 37 = .ok (.aload_n 0, 1) := by decide +kernel
theorem d_Mo_segmentNamed_38 : decode c_Mo_segmentNamed 38 = .ok (.getfield 91, 3) := by decide +kernel
theorem d_Mo_segmentNamed_41 : decode c_Mo_segmentNamed 41 = .ok (.if_icmp .ge 46, 3) := by decide +kernel
theorem d_Mo_segmentNamed_44 : decode c_Mo_segmentNamed 44 = .ok (.iload_n 2, 1) := by decide +kernel
theorem d_Mo_segmentNamed_45 : decode c_Mo_segmentNamed 45 = .ok (.ifCond .eq 42, 3) := by decide +kernel
theorem d_Mo_segmentNamed_48 : decode c_Mo_segmentNamed 48 = .ok (.aload_n 0, 1) := by decide +kernel
theorem d_Mo_segmentNamed_49 : decode c_Mo_segmentNamed 49 = .ok (.getfield 17, 3) := by decide +kernel
theorem d_Mo_segmentNamed_52 : decode c_Mo_segmentNamed 52 = .ok (.bipush 24, 2) := by decide +kernel
theorem d_Mo_segmentNamed_54 : decode c_Mo_segmentNamed 54 = .ok (.iconst 3, 1) := by decide +kernel
theorem d_Mo_segmentNamed_55 : decode c_Mo_segmentNamed 55 = .ok (.iload_n 1, 1) := by decide +kernel
theorem d_Mo_segmentNamed_56 : decode c_Mo_segmentNamed 56 = .ok (.imul, 1) := by decide +kernel
theorem d_Mo_segmentNamed_57 : decode c_Mo_segmentNamed 57 = .ok (.iadd, 1) := by decide +kernel
theorem d_Mo_segmentNamed_58 : decode c_Mo_segmentNamed 58 = .ok (.iload_n 3, 1) := by decide +kernel
theorem d_Mo_segmentNamed_59 : decode c_Mo_segmentNamed 59 = .ok (.iadd, 1) := by decide +kernel
theorem d_Mo_segmentNamed_60 : decode c_Mo_segmentNamed 60 = .ok (.caload, 1) := by decide +kernel
theorem d_Mo_segmentNamed_61 : decode c_Mo_segmentNamed 61 = .ok (.aload_n 0, 1) := by decide +kernel
theorem d_Mo_segmentNamed_62 : decode c_Mo_segmentNamed 62 = .ok (.getfield 7, 3) := by decide +kernel
theorem d_Mo_segmentNamed_65 : decode c_Mo_segmentNamed 65 = .ok (.aload_n 0, 1) := by decide +kernel
theorem d_Mo_segmentNamed_66 : decode c_Mo_segmentNamed 66 = .ok (.getfield 84, 3) := by decide +kernel
theorem d_Mo_segmentNamed_69 : decode c_Mo_segmentNamed 69 = .ok (.iload_n 3, 1) := by decide +kernel
theorem d_Mo_segmentNamed_70 : decode c_Mo_segmentNamed 70 = .ok (.iadd, 1) := by decide +kernel
theorem d_Mo_segmentNamed_71 : decode c_Mo_segmentNamed 71 = .ok (.caload, 1) := by decide +kernel
theorem d_Mo_segmentNamed_72 : decode c_Mo_segmentNamed 72 = .ok (.if_icmp .ne 7, 3) := by decide +kernel
theorem d_Mo_segmentNamed_75 : decode c_Mo_segmentNamed 75 = .ok (.iconst 1, 1) := by decide +kernel
theorem d_Mo_segmentNamed_76 : decode c_Mo_segmentNamed 76 = .ok (.goto 4, 3) := by decide +kernel
theorem d_Mo_segmentNamed_79 : decode c_Mo_segmentNamed 79 = .ok (.iconst 0, 1) := by decide +kernel
theorem d_Mo_segmentNamed_80 : decode c_Mo_segmentNamed 80 = .ok (.istore_n 2, 1) := by decide +kernel
theorem d_Mo_segmentNamed_81 : decode c_Mo_segmentNamed 81 = .ok (.iinc 3 1, 3) := by decide +kernel
theorem d_Mo_segmentNamed_84 : decode c_Mo_segmentNamed 84 = .ok (.goto (-48), 3) := by decide +kernel
theorem d_Mo_segmentNamed_87 : decode c_Mo_segmentNamed 87 = .ok (.iload_n 2, 1) := by decide +kernel
theorem d_Mo_segmentNamed_88 : decode c_Mo_segmentNamed 88 = .ok (.ifCond .eq 5, 3) := by decide +kernel
theorem d_Mo_segmentNamed_91 : decode c_Mo_segmentNamed 91 = .ok (.iload_n 1, 1) := by decide +kernel
theorem d_Mo_segmentNamed_92 : decode c_Mo_segmentNamed 92 = .ok (.ireturn, 1) := by decide +kernel
theorem d_Mo_segmentNamed_93 : decode c_Mo_segmentNamed 93 = .ok (.iinc 1 1, 3) := by decide +kernel
theorem d_Mo_segmentNamed_96 : decode c_Mo_segmentNamed 96 = .ok (.goto (-94), 3) := by decide +kernel
theorem d_Mo_segmentNamed_99 : decode c_Mo_segmentNamed 99 = .ok (.iconst (-1), 1) := by decide +kernel
theorem d_Mo_segmentNamed_100 : decode c_Mo_segmentNamed 100 = .ok (.ireturn, 1) := by decide +kernel
theorem d_Mo_isBase_0 : decode c_Mo_isBase 0 = .ok (.iload_n 0, 1) := by decide +kernel
theorem d_Mo_isBase_1 : decode c_Mo_isBase 1 = .ok (.bipush 65, 2) := by decide +kernel
theorem d_Mo_isBase_3 : decode c_Mo_isBase 3 = .ok (.if_icmp .eq 21, 3) := by decide +kernel
theorem d_Mo_isBase_6 : decode c_Mo_isBase 6 = .ok (.iload_n 0, 1) := by decide +kernel
theorem d_Mo_isBase_7 : decode c_Mo_isBase 7 = .ok (.bipush 67, 2) := by decide +kernel
theorem d_Mo_isBase_9 : decode c_Mo_isBase 9 = .ok (.if_icmp .eq 15, 3) := by decide +kernel
theorem d_Mo_isBase_12 : decode c_Mo_isBase 12 = .ok (.iload_n 0, 1) := by decide +kernel
theorem d_Mo_isBase_13 : decode c_Mo_isBase 13 = .ok (.bipush 71, 2) := by decide +kernel
theorem d_Mo_isBase_15 : decode c_Mo_isBase 15 = .ok (.if_icmp .eq 9, 3) := by decide +kernel
theorem d_Mo_isBase_18 : decode c_Mo_isBase 18 = .ok (.iload_n 0, 1) := by decide +kernel
theorem d_Mo_isBase_19 : decode c_Mo_isBase 19 = .ok (.bipush 84, 2) := by decide +kernel
theorem d_Mo_isBase_21 : decode c_Mo_isBase 21 = .ok (.if_icmp .ne 7, 3) := by decide +kernel
theorem d_Mo_isBase_24 : decode c_Mo_isBase 24 = .ok (.iconst 1, 1) := by decide +kernel
theorem d_Mo_isBase_25 : decode c_Mo_isBase 25 = .ok (.goto 4, 3) := by decide +kernel
theorem d_Mo_isBase_28 : decode c_Mo_isBase 28 = .ok (.iconst 0, 1) := by decide +kernel
theorem d_Mo_isBase_29 : decode c_Mo_isBase 29 = .ok (.ireturn, 1) := by decide +kernel
theorem d_Mo_segmentLine_0 : decode c_Mo_segmentLine 0 = .ok (.bipush 9, 2) := by decide +kernel
theorem d_Mo_segmentLine_2 : decode c_Mo_segmentLine 2 = .ok (.istore_n 1, 1) := by decide +kernel
theorem d_Mo_segmentLine_3 : decode c_Mo_segmentLine 3 = .ok (.aload_n 0, 1) := by decide +kernel
theorem d_Mo_segmentLine_4 : decode c_Mo_segmentLine 4 = .ok (.bipush 83, 2) := by decide +kernel
theorem d_Mo_segmentLine_6 : decode c_Mo_segmentLine 6 = .ok (.invokevirtual 94, 3) := by decide +kernel
theorem d_Mo_segmentLine_9 : decode c_Mo_segmentLine 9 = .ok (.ifCond .eq 36, 3) := by decide +kernel
theorem d_Mo_segmentLine_12 : decode c_Mo_segmentLine 12 = .ok (.aload_n 0, 1) := by decide +kernel
theorem d_Mo_segmentLine_13 : decode c_Mo_segmentLine 13 = .ok (.iload_n 1, 1) := by decide +kernel
theorem d_Mo_segmentLine_14 : decode c_Mo_segmentLine 14 = .ok (.invokevirtual 94, 3) := by decide +kernel
theorem d_Mo_segmentLine_17 : decode c_Mo_segmentLine 17 = .ok (.ifCond .eq 28, 3) := by decide +kernel
theorem d_Mo_segmentLine_20 : decode c_Mo_segmentLine 20 = .ok (.aload_n 0, 1) := by decide +kernel
theorem d_Mo_segmentLine_21 : decode c_Mo_segmentLine 21 = .ok (.invokevirtual 97, 3) := by decide +kernel
theorem d_Mo_segmentLine_24 : decode c_Mo_segmentLine 24 = .ok (.ifCond .eq 21, 3) := by decide +kernel
theorem d_Mo_segmentLine_27 : decode c_Mo_segmentLine 27 = .ok (.aload_n 0, 1) := by decide +kernel
theorem d_Mo_segmentLine_28 : decode c_Mo_segmentLine 28 = .ok (.invokevirtual 101, 3) := by decide +kernel
theorem d_Mo_segmentLine_31 : decode c_Mo_segmentLine 31 = .ok (.ifCond .ge 14, 3) := by decide +kernel
theorem d_Mo_segmentLine_34 : decode c_Mo_segmentLine 34 = .ok (.aload_n 0, 1) := by decide +kernel
theorem d_Mo_segmentLine_35 : decode c_Mo_segmentLine 35 = .ok (.getfield 13, 3) := by decide +kernel
theorem d_Mo_segmentLine_38 : decode c_Mo_segmentLine 38 = .ok (.iconst 1, 1) := by decide +kernel
theorem d_Mo_segmentLine_39 : decode c_Mo_segmentLine 39 = .ok (.iaload, 1) := by decide +kernel
theorem d_Mo_segmentLine_40 : decode c_Mo_segmentLine 40 = .ok (.bipush 8, 2) := by decide +kernel
theorem d_Mo_segmentLine_42 : decode c_Mo_segmentLine 42 = .ok (.if_icmp .ne 5, 3) := by decide +kernel
theorem d_Mo_segmentLine_45 : decode c_Mo_segmentLine 45 = .ok (.iconst 0, 1) := by decide +kernel
theorem d_Mo_segmentLine_46 : decode c_Mo_segmentLine 46 = .ok (.ireturn, 1) := by decide +kernel
theorem d_Mo_segmentLine_47 : decode c_Mo_segmentLine 47 = .ok (.aload_n 0, 1) := by decide +kernel
theorem d_Mo_segmentLine_48 : decode c_Mo_segmentLine 48 = .ok (.getfield 13, 3) := by decide +kernel
theorem d_Mo_segmentLine_51 : decode c_Mo_segmentLine 51 = .ok (.iconst 1, 1) := by decide +kernel
theorem d_Mo_segmentLine_52 : decode c_Mo_segmentLine 52 = .ok (.iaload, 1) := by decide +kernel
theorem d_Mo_segmentLine_53 : decode c_Mo_segmentLine 53 = .ok (.istore_n 2, 1) := by decide +kernel
theorem d_Mo_segmentLine_54 : decode c_Mo_segmentLine 54 = .ok (.iconst 0, 1) := by decide +kernel
theorem d_Mo_segmentLine_55 : decode c_Mo_segmentLine 55 = .ok (.istore_n 3, 1) := by decide +kernel
theorem d_Mo_segmentLine_56 : decode c_Mo_segmentLine 56 = .ok (.iload_n 3, 1) := by decide +kernel
theorem d_Mo_segmentLine_57 : decode c_Mo_segmentLine 57 = .ok (.aload_n 0, 1) := by decide +kernel
theorem d_Mo_segmentLine_58 : decode c_Mo_segmentLine 58 = .ok (.getfield 91, 3) := by decide +kernel
theorem d_Mo_segmentLine_61 : decode c_Mo_segmentLine 61 = .ok (.if_icmp .ge 33, 3) := by decide +kernel
theorem d_Mo_segmentLine_64 : decode c_Mo_segmentLine 64 = .ok (.aload_n 0, 1) := by decide +kernel
theorem d_Mo_segmentLine_65 : decode c_Mo_segmentLine 65 = .ok (.getfield 17, 3) := by decide +kernel
theorem d_Mo_segmentLine_68 : decode c_Mo_segmentLine 68 = .ok (.bipush 24, 2) := by decide +kernel
theorem d_Mo_segmentLine_70 : decode c_Mo_segmentLine 70 = .ok (.iconst 3, 1) := by decide +kernel
theorem d_Mo_segmentLine_71 : decode c_Mo_segmentLine 71 = .ok (.iload_n 2, 1) := by decide +kernel
theorem d_Mo_segmentLine_72 : decode c_Mo_segmentLine 72 = .ok (.imul, 1) := by decide +kernel
theorem d_Mo_segmentLine_73 : decode c_Mo_segmentLine 73 = .ok (.iadd, 1) := by decide +kernel
theorem d_Mo_segmentLine_74 : decode c_Mo_segmentLine 74 = .ok (.iload_n 3, 1) := by decide +kernel
theorem d_Mo_segmentLine_75 : decode c_Mo_segmentLine 75 = .ok (.iadd, 1) := by decide +kernel
theorem d_Mo_segmentLine_76 : decode c_Mo_segmentLine 76 = .ok (.aload_n 0, 1) := by decide +kernel
theorem d_Mo_segmentLine_77 : decode c_Mo_segmentLine 77 = .ok (.getfield 7, 3) := by decide +kernel
theorem d_Mo_segmentLine_80 : decode c_Mo_segmentLine 80 = .ok (.aload_n 0, 1) := by decide +kernel
theorem d_Mo_segmentLine_81 : decode c_Mo_segmentLine 81 = .ok (.getfield 84, 3) := by decide +kernel
theorem d_Mo_segmentLine_84 : decode c_Mo_segmentLine 84 = .ok (.iload_n 3, 1) := by decide +kernel
theorem d_Mo_segmentLine_85 : decode c_Mo_segmentLine 85 = .ok (.iadd, 1) := by decide +kernel
theorem d_Mo_segmentLine_86 : decode c_Mo_segmentLine 86 = .ok (.caload, 1) := by decide +kernel
theorem d_Mo_segmentLine_87 : decode c_Mo_segmentLine 87 = .ok (.castore, 1) := by decide +kernel
theorem d_Mo_segmentLine_88 : decode c_Mo_segmentLine 88 = .ok (.iinc 3 1, 3) := by decide +kernel
theorem d_Mo_segmentLine_91 : decode c_Mo_segmentLine 91 = .ok (.goto (-35), 3) := by decide +kernel
theorem d_Mo_segmentLine_94 : decode c_Mo_segmentLine 94 = .ok (.aload_n 0, 1) := by decide +kernel
theorem d_Mo_segmentLine_95 : decode c_Mo_segmentLine 95 = .ok (.getfield 20, 3) := by decide +kernel
theorem d_Mo_segmentLine_98 : decode c_Mo_segmentLine 98 = .ok (.bipush 8, 2) := by decide +kernel
theorem d_Mo_segmentLine_100 : decode c_Mo_segmentLine 100 = .ok (.iload_n 2, 1) := by decide +kernel
theorem d_Mo_segmentLine_101 : decode c_Mo_segmentLine 101 = .ok (.iadd, 1) := by decide +kernel
theorem d_Mo_segmentLine_102 : decode c_Mo_segmentLine 102 = .ok (.aload_n 0, 1) := by decide +kernel
theorem d_Mo_segmentLine_103 : decode c_Mo_segmentLine 103 = .ok (.getfield 91, 3) := by decide +kernel
theorem d_Mo_segmentLine_106 : decode c_Mo_segmentLine 106 = .ok (.iastore, 1) := by decide +kernel
theorem d_Mo_segmentLine_107 : decode c_Mo_segmentLine 107 = .ok (.aload_n 0, 1) := by decide +kernel
theorem d_Mo_segmentLine_108 : decode c_Mo_segmentLine 108 = .ok (.iload_n 1, 1) := by decide +kernel
theorem d_Mo_segmentLine_109 : decode c_Mo_segmentLine 109 = .ok (.invokevirtual 94, 3) := by decide +kernel
theorem d_Mo_segmentLine_112 : decode c_Mo_segmentLine 112 = .ok (.ifCond .ne 5, 3) := by decide +kernel
theorem d_Mo_segmentLine_115 : decode c_Mo_segmentLine 115 = .ok (.iconst 0, 1) := by decide +kernel
theorem d_Mo_segmentLine_116 : decode c_Mo_segmentLine 116 = .ok (.ireturn, 1) := by decide +kernel
theorem d_Mo_segmentLine_117 : decode c_Mo_segmentLine 117 = .ok (.aload_n 0, 1) := by decide +kernel
theorem d_Mo_segmentLine_118 : decode c_Mo_segmentLine 118 = .ok (.getfield 81, 3) := by decide +kernel
theorem d_Mo_segmentLine_121 : decode c_Mo_segmentLine 121 = .ok (.aload_n 0, 1) := by decide +kernel
theorem d_Mo_segmentLine_122 : decode c_Mo_segmentLine 122 = .ok (.getfield 78, 3) := by decide +kernel
theorem d_Mo_segmentLine_125 : decode c_Mo_segmentLine 125 = .ok (.isub, 1) := by decide +kernel
theorem d_Mo_segmentLine_126 : decode c_Mo_segmentLine 126 = .ok (.istore_n 3, 1) := by decide +kernel
theorem d_Mo_segmentLine_127 : decode c_Mo_segmentLine 127 = .ok (.iload_n 3, 1) := by decide +kernel
theorem d_Mo_segmentLine_128 : decode c_Mo_segmentLine 128 = .ok (.iconst 1, 1) := by decide +kernel
theorem d_Mo_segmentLine_129 : decode c_Mo_segmentLine 129 = .ok (.if_icmp .lt 8, 3) := by decide +kernel
theorem d_Mo_segmentLine_132 : decode c_Mo_segmentLine 132 = .ok (.iload_n 3, 1) := by decide +kernel
theorem d_Mo_segmentLine_133 : decode c_Mo_segmentLine 133 = .ok (.iconst 4, 1) := by decide +kernel
theorem d_Mo_segmentLine_134 : decode c_Mo_segmentLine 134 = .ok (.if_icmp .le 5, 3) := by decide +kernel
theorem d_Mo_segmentLine_137 : decode c_Mo_segmentLine 137 = .ok (.iconst 0, 1) := by decide +kernel
theorem d_Mo_segmentLine_138 : decode c_Mo_segmentLine 138 = .ok (.ireturn, 1) := by decide +kernel
theorem d_Mo_segmentLine_139 : decode c_Mo_segmentLine 139 = .ok (.iconst 0, 1) := by decide +kernel
theorem d_Mo_segmentLine_140 : decode c_Mo_segmentLine 140 = .ok (.istore 4, 2) := by decide +kernel
theorem d_Mo_segmentLine_142 : decode c_Mo_segmentLine 142 = .ok (.iload 4, 2) := by decide +kernel
theorem d_Mo_segmentLine_144 : decode c_Mo_segmentLine 144 = .ok (.iload_n 3, 1) := by decide +kernel
theorem d_Mo_segmentLine_145 : decode c_Mo_segmentLine 145 = .ok (.if_icmp .ge 55, 3) := by decide +kernel
theorem d_Mo_segmentLine_148 : decode c_Mo_segmentLine 148 = .ok (.aload_n 0, 1) := by decide +kernel
theorem d_Mo_segmentLine_149 : decode c_Mo_segmentLine 149 = .ok (.getfield 7, 3) := by decide +kernel
theorem d_Mo_segmentLine_152 : decode c_Mo_segmentLine 152 = .ok (.aload_n 0, 1) := by decide +kernel
theorem d_Mo_segmentLine_153 : decode c_Mo_segmentLine 153 = .ok (.getfield 78, 3) := by decide +kernel
theorem d_Mo_segmentLine_156 : decode c_Mo_segmentLine 156 = .ok (.iload 4, 2) := by decide +kernel
theorem d_Mo_segmentLine_158 : decode c_Mo_segmentLine 158 = .ok (.iadd, 1) := by decide +kernel
theorem d_Mo_segmentLine_159 : decode c_Mo_segmentLine 159 = .ok (.caload, 1) := by decide +kernel
theorem d_Mo_segmentLine_160 : decode c_Mo_segmentLine 160 = .ok (.invokestatic 105, 3) := by decide +kernel
theorem d_Mo_segmentLine_163 : decode c_Mo_segmentLine 163 = .ok (.ifCond .ne 5, 3) := by decide +kernel
theorem d_Mo_segmentLine_166 : decode c_Mo_segmentLine 166 = .ok (.iconst 0, 1) := by decide +kernel
theorem d_Mo_segmentLine_167 : decode c_Mo_segmentLine 167 = .ok (.ireturn, 1) := by decide +kernel
theorem d_Mo_segmentLine_168 : decode c_Mo_segmentLine 168 = .ok (.aload_n 0, 1) := by decide +kernel
theorem d_Mo_segmentLine_169 : decode c_Mo_segmentLine 169 = .ok (.getfield 23, 3) := by decide +kernel
theorem d_Mo_segmentLine_172 : decode c_Mo_segmentLine 172 = .ok (.bipush 32, 2) := by decide +kernel
theorem d_Mo_segmentLine_174 : decode c_Mo_segmentLine 174 = .ok (.iconst 4, 1) := by decide +kernel
theorem d_Mo_segmentLine_175 : decode c_Mo_segmentLine 175 = .ok (.iload_n 2, 1) := by decide +kernel
theorem d_Mo_segmentLine_176 : decode c_Mo_segmentLine 176 = .ok (.imul, 1) := by decide +kernel
theorem d_Mo_segmentLine_177 : decode c_Mo_segmentLine 177 = .ok (.iadd, 1) := by decide +kernel
theorem d_Mo_segmentLine_178 : decode c_Mo_segmentLine 178 = .ok (.iload 4, 2) := by decide +kernel
theorem d_Mo_segmentLine_180 : decode c_Mo_segmentLine 180 = .ok (.iadd, 1) := by decide +kernel
theorem d_Mo_segmentLine_181 : decode c_Mo_segmentLine 181 = .ok (.aload_n 0, 1) := by decide +kernel
theorem d_Mo_segmentLine_182 : decode c_Mo_segmentLine 182 = .ok (.getfield 7, 3) := by decide +kernel
theorem d_Mo_segmentLine_185 : decode c_Mo_segmentLine 185 = .ok (.aload_n 0, 1) := by decide +kernel
theorem d_Mo_segmentLine_186 : decode c_Mo_segmentLine 186 = .ok (.getfield 78, 3) := by decide +kernel
theorem d_Mo_segmentLine_189 : decode c_Mo_segmentLine 189 = .ok (.iload 4, 2) := by decide +kernel
theorem d_Mo_segmentLine_191 : decode c_Mo_segmentLine 191 = .ok (.iadd, 1) := by decide +kernel
theorem d_Mo_segmentLine_192 : decode c_Mo_segmentLine 192 = .ok (.caload, 1) := by decide +kernel
theorem d_Mo_segmentLine_193 : decode c_Mo_segmentLine 193 = .ok (.castore, 1) := by decide +kernel
theorem d_Mo_segmentLine_194 : decode c_Mo_segmentLine 194 = .ok (.iinc 4 1, 3) := by decide +kernel
theorem d_Mo_segmentLine_197 : decode c_Mo_segmentLine 197 = .ok (.goto (-55), 3) := by decide +kernel
theorem d_Mo_segmentLine_200 : decode c_Mo_segmentLine 200 = .ok (.aload_n 0, 1) := by decide +kernel
theorem d_Mo_segmentLine_201 : decode c_Mo_segmentLine 201 = .ok (.getfield 26, 3) := by decide +kernel
theorem d_Mo_segmentLine_204 : decode c_Mo_segmentLine 204 = .ok (.bipush 8, 2) := by decide +kernel
theorem d_Mo_segmentLine_206 : decode c_Mo_segmentLine 206 = .ok (.iload_n 2, 1) := by decide +kernel
theorem d_Mo_segmentLine_207 : decode c_Mo_segmentLine 207 = .ok (.iadd, 1) := by decide +kernel
theorem d_Mo_segmentLine_208 : decode c_Mo_segmentLine 208 = .ok (.iload_n 3, 1) := by decide +kernel
theorem d_Mo_segmentLine_209 : decode c_Mo_segmentLine 209 = .ok (.iastore, 1) := by decide +kernel
theorem d_Mo_segmentLine_210 : decode c_Mo_segmentLine 210 = .ok (.aload_n 0, 1) := by decide +kernel
theorem d_Mo_segmentLine_211 : decode c_Mo_segmentLine 211 = .ok (.getfield 13, 3) := by decide +kernel
theorem d_Mo_segmentLine_214 : decode c_Mo_segmentLine 214 = .ok (.iconst 1, 1) := by decide +kernel
theorem d_Mo_segmentLine_215 : decode c_Mo_segmentLine 215 = .ok (.dup2, 1) := by decide +kernel
theorem d_Mo_segmentLine_216 : decode c_Mo_segmentLine 216 = .ok (.iaload, 1) := by decide +kernel
theorem d_Mo_segmentLine_217 : decode c_Mo_segmentLine 217 = .ok (.iconst 1, 1) := by decide +kernel
theorem d_Mo_segmentLine_218 : decode c_Mo_segmentLine 218 = .ok (.iadd, 1) := by decide +kernel
theorem d_Mo_segmentLine_219 : decode c_Mo_segmentLine 219 = .ok (.iastore, 1) := by decide +kernel
theorem d_Mo_segmentLine_220 : decode c_Mo_segmentLine 220 = .ok (.iconst 1, 1) := by decide +kernel
theorem d_Mo_segmentLine_221 : decode c_Mo_segmentLine 221 = .ok (.ireturn, 1) := by decide +kernel
theorem d_Mo_sign_0 : decode c_Mo_sign 0 = .ok (.aload_n 0, 1) := by decide +kernel
theorem d_Mo_sign_1 : decode c_Mo_sign 1 = .ok (.bipush 43, 2) := by decide +kernel
theorem d_Mo_sign_3 : decode c_Mo_sign 3 = .ok (.invokevirtual 94, 3) := by decide +kernel
theorem d_Mo_sign_6 : decode c_Mo_sign 6 = .ok (.ifCond .eq 7, 3) := by decide +kernel
theorem d_Mo_sign_9 : decode c_Mo_sign 9 = .ok (.iconst 0, 1) := by decide +kernel
theorem d_Mo_sign_10 : decode c_Mo_sign 10 = .ok (.goto 17, 3) := by decide +kernel
theorem d_Mo_sign_13 : decode c_Mo_sign 13 = .ok (.aload_n 0, 1) := by decide +kernel
theorem d_Mo_sign_14 : decode c_Mo_sign 14 = .ok (.bipush 45, 2) := by decide +kernel
theorem d_Mo_sign_16 : decode c_Mo_sign 16 = .ok (.invokevirtual 94, 3) := by decide +kernel
theorem d_Mo_sign_19 : decode c_Mo_sign 19 = .ok (.ifCond .eq 7, 3) := by decide +kernel
theorem d_Mo_sign_22 : decode c_Mo_sign 22 = .ok (.iconst 1, 1) := by decide +kernel
theorem d_Mo_sign_23 : decode c_Mo_sign 23 = .ok (.goto 4, 3) := by decide +kernel
theorem d_Mo_sign_26 : decode c_Mo_sign 26 = .ok (.iconst (-1), 1) := by decide +kernel
theorem d_Mo_sign_27 : decode c_Mo_sign 27 = .ok (.ireturn, 1) := by decide +kernel
theorem d_Mo_namedSide_0 : decode c_Mo_namedSide 0 = .ok (.aload_n 0, 1) := by decide +kernel
theorem d_Mo_namedSide_1 : decode c_Mo_namedSide 1 = .ok (.invokevirtual 97, 3) := by decide +kernel
theorem d_Mo_namedSide_4 : decode c_Mo_namedSide 4 = .ok (.istore_n 2, 1) := by decide +kernel
theorem d_Mo_namedSide_5 : decode c_Mo_namedSide 5 = .ok (.iload_n 2, 1) := by decide +kernel
theorem d_Mo_namedSide_6 : decode c_Mo_namedSide 6 = .ok (.ifCond .eq 10, 3) := by decide +kernel
theorem d_Mo_namedSide_9 : decode c_Mo_namedSide 9 = .ok (.aload_n 0, 1) := by decide +kernel
theorem d_Mo_namedSide_10 : decode c_Mo_namedSide 10 = .ok (.invokevirtual 101, 3) := by decide +kernel
theorem d_Mo_namedSide_13 : decode c_Mo_namedSide 13 = .ok (.goto 4, 3) := by decide +kernel
theorem d_Mo_namedSide_16 : decode c_Mo_namedSide 16 = .ok (.iconst (-1), 1) := by decide +kernel
theorem d_Mo_namedSide_17 : decode c_Mo_namedSide 17 = .ok (.istore_n 3, 1) := by decide +kernel
theorem d_Mo_namedSide_18 : decode c_Mo_namedSide 18 = .ok (.iload_n 1, 1) := by decide +kernel
theorem d_Mo_namedSide_19 : decode c_Mo_namedSide 19 = .ok (.ifCond .eq 12, 3) := by decide +kernel
theorem d_Mo_namedSide_22 : decode c_Mo_namedSide 22 = .ok (.aload_n 0, 1) := by decide +kernel
theorem d_Mo_namedSide_23 : decode c_Mo_namedSide 23 = .ok (.bipush 9, 2) := by decide +kernel
theorem d_Mo_namedSide_25 : decode c_Mo_namedSide 25 = .ok (.invokevirtual 94, 3) := by decide +kernel
theorem d_Mo_namedSide_28 : decode c_Mo_namedSide 28 = .ok (.ifCond .eq 7, 3) := by decide +kernel
theorem d_Mo_namedSide_31 : decode c_Mo_namedSide 31 = .ok (.iconst 1, 1) := by decide +kernel
theorem d_Mo_namedSide_32 : decode c_Mo_namedSide 32 = .ok (.goto 4, 3) := by decide +kernel
theorem d_Mo_namedSide_35 : decode c_Mo_namedSide 35 = .ok (.iconst 0, 1) := by decide +kernel
theorem d_Mo_namedSide_36 : decode c_Mo_namedSide 36 = .ok (.istore 4, 2) := by decide +kernel
theorem d_Mo_namedSide_38 : decode c_Mo_namedSide 38 = .ok (.aload_n 0, 1) := by decide +kernel
theorem d_Mo_namedSide_39 : decode c_Mo_namedSide 39 = .ok (.invokevirtual 108, 3) := by decide +kernel
theorem d_Mo_namedSide_42 : decode c_Mo_namedSide 42 = .ok (.istore 5, 2) := by decide +kernel
theorem d_Mo_namedSide_44 : decode c_Mo_namedSide 44 = .ok (.iload_n 3, 1) := by decide +kernel
theorem d_Mo_namedSide_45 : decode c_Mo_namedSide 45 = .ok (.ifCond .lt 13, 3) := by decide +kernel
theorem d_Mo_namedSide_48 : decode c_Mo_namedSide 48 = .ok (.iload 4, 2) := by decide +kernel
theorem d_Mo_namedSide_50 : decode c_Mo_namedSide 50 = .ok (.ifCond .eq 8, 3) := by decide +kernel
theorem d_Mo_namedSide_53 : decode c_Mo_namedSide 53 = .ok (.iload 5, 2) := by decide +kernel
theorem d_Mo_namedSide_55 : decode c_Mo_namedSide 55 = .ok (.ifCond .ge 7, 3) := by decide +kernel
theorem d_Mo_namedSide_58 : decode c_Mo_namedSide 58 = .ok (.iconst (-1), 1) := by decide +kernel
theorem d_Mo_namedSide_59 : decode c_Mo_namedSide 59 = .ok (.goto 9, 3) := by decide +kernel
theorem d_Mo_namedSide_62 : decode c_Mo_namedSide 62 = .ok (.iconst 2, 1) := by decide +kernel
theorem d_Mo_namedSide_63 : decode c_Mo_namedSide 63 = .ok (.iload_n 3, 1) := by decide +kernel
theorem d_Mo_namedSide_64 : decode c_Mo_namedSide 64 = .ok (.imul, 1) := by decide +kernel
theorem d_Mo_namedSide_65 : decode c_Mo_namedSide 65 = .ok (.iload 5, 2) := by decide +kernel
theorem d_Mo_namedSide_67 : decode c_Mo_namedSide 67 = .ok (.iadd, 1) := by decide +kernel
theorem d_Mo_namedSide_68 : decode c_Mo_namedSide 68 = .ok (.ireturn, 1) := by decide +kernel
theorem d_Mo_linked_0 : decode c_Mo_linked 0 = .ok (.iconst 0, 1) := by decide +kernel
theorem d_Mo_linked_1 : decode c_Mo_linked 1 = .ok (.istore 4, 2) := by decide +kernel
theorem d_Mo_linked_3 : decode c_Mo_linked 3 = .ok (.bipush 12, 2) := by decide +kernel
theorem d_Mo_linked_5 : decode c_Mo_linked 5 = .ok (.iload_n 1, 1) := by decide +kernel
theorem d_Mo_linked_6 : decode c_Mo_linked 6 = .ok (.imul, 1) := by decide +kernel
theorem d_Mo_linked_7 : decode c_Mo_linked 7 = .ok (.istore 5, 2) := by decide +kernel
theorem d_Mo_linked_9 : decode c_Mo_linked 9 = .ok (.iload 5, 2) := by decide +kernel
theorem d_Mo_linked_11 : decode c_Mo_linked 11 = .ok (.bipush 12, 2) := by decide +kernel
theorem d_Mo_linked_13 : decode c_Mo_linked 13 = .ok (.iload_n 1, 1) := by decide +kernel
theorem d_Mo_linked_14 : decode c_Mo_linked 14 = .ok (.imul, 1) := by decide +kernel
theorem d_Mo_linked_15 : decode c_Mo_linked 15 = .ok (.aload_n 0, 1) := by decide +kernel
theorem d_Mo_linked_16 : decode c_Mo_linked 16 = .ok (.getfield 29, 3) := by decide +kernel
theorem d_Mo_linked_19 : decode c_Mo_linked 19 = .ok (.iload_n 1, 1) := by decide +kernel
theorem d_Mo_linked_20 : decode c_Mo_linked 20 = .ok (.iaload, 1) := by decide +kernel
theorem d_Mo_linked_21 : decode c_Mo_linked 21 = .ok (.iadd, 1) := by decide +kernel
theorem d_Mo_linked_22 : decode c_Mo_linked 22 = .ok (.if_icmp .ge 69, 3) := by decide +kernel
theorem d_Mo_linked_25 : decode c_Mo_linked 25 = .ok (.iload 4, 2) := by decide +kernel
