theorem d_X_takeLine_6 : decode c_X_takeLine 6 = .ok (.ifCond .eq 8, 3) := by decide +kernel
theorem d_X_takeLine_9 : decode c_X_takeLine 9 = .ok (.aload_n 0, 1) := by decide +kernel
theorem d_X_takeLine_10 : decode c_X_takeLine 10 = .ok (.invokevirtual 179, 3) := by decide +kernel
theorem d_X_takeLine_13 : decode c_X_takeLine 13 = .ok (.ireturn, 1) := by decide +kernel
theorem d_X_takeLine_14 : decode c_X_takeLine 14 = .ok (.aload_n 0, 1) := by decide +kernel
theorem d_X_takeLine_15 : decode c_X_takeLine 15 = .ok (.bipush 83, 2) := by decide +kernel
theorem d_X_takeLine_17 : decode c_X_takeLine 17 = .ok (.invokevirtual 176, 3) := by decide +kernel
theorem d_X_takeLine_20 : decode c_X_takeLine 20 = .ok (.ifCond .eq 9, 3) := by decide +kernel
theorem d_X_takeLine_23 : decode c_X_takeLine 23 = .ok (.aload_n 0, 1) := by decide +kernel
theorem d_X_takeLine_24 : decode c_X_takeLine 24 = .ok (.aload_n 1, 1) := by decide +kernel
theorem d_X_takeLine_25 : decode c_X_takeLine 25 = .ok (.invokestatic 183, 3) := by decide +kernel
theorem d_X_takeLine_28 : decode c_X_takeLine 28 = .ok (.ireturn, 1) := by decide +kernel
theorem d_X_takeLine_29 : decode c_X_takeLine 29 = .ok (.aload_n 0, 1) := by decide +kernel
theorem d_X_takeLine_30 : decode c_X_takeLine 30 = .ok (.bipush 76, 2) := by decide +kernel
theorem d_X_takeLine_32 : decode c_X_takeLine 32 = .ok (.invokevirtual 176, 3) := by decide +kernel
theorem d_X_takeLine_35 : decode c_X_takeLine 35 = .ok (.ifCond .eq 9, 3) := by decide +kernel
theorem d_X_takeLine_38 : decode c_X_takeLine 38 = .ok (.aload_n 0, 1) := by decide +kernel
theorem d_X_takeLine_39 : decode c_X_takeLine 39 = .ok (.aload_n 1, 1) := by decide +kernel
theorem d_X_takeLine_40 : decode c_X_takeLine 40 = .ok (.invokestatic 186, 3) := by decide +kernel
theorem d_X_takeLine_43 : decode c_X_takeLine 43 = .ok (.ireturn, 1) := by decide +kernel
theorem d_X_takeLine_44 : decode c_X_takeLine 44 = .ok (.aload_n 0, 1) := by decide +kernel
theorem d_X_takeLine_45 : decode c_X_takeLine 45 = .ok (.bipush 80, 2) := by decide +kernel
theorem d_X_takeLine_47 : decode c_X_takeLine 47 = .ok (.invokevirtual 176, 3) := by decide +kernel
theorem d_X_takeLine_50 : decode c_X_takeLine 50 = .ok (.ifCond .eq 15, 3) := by decide +kernel
theorem d_X_takeLine_53 : decode c_X_takeLine 53 = .ok (.aload_n 0, 1) := by decide +kernel
theorem d_X_takeLine_54 : decode c_X_takeLine 54 = .ok (.aload_n 1, 1) := by decide +kernel
theorem d_X_takeLine_55 : decode c_X_takeLine 55 = .ok (.invokestatic 189, 3) := by decide +kernel
theorem d_X_takeLine_58 : decode c_X_takeLine 58 = .ok (.ifCond .eq 7, 3) := by decide +kernel
theorem d_X_takeLine_61 : decode c_X_takeLine 61 = .ok (.iconst 1, 1) := by decide +kernel
theorem d_X_takeLine_62 : decode c_X_takeLine 62 = .ok (.goto 4, 3) := by decide +kernel
theorem d_X_takeLine_65 : decode c_X_takeLine 65 = .ok (.iconst 0, 1) := by decide +kernel
theorem d_X_takeLine_66 : decode c_X_takeLine 66 = .ok (.ireturn, 1) := by decide +kernel
theorem d_X_firstBadLine_0 : decode c_X_firstBadLine 0 = .ok (.aload_n 0, 1) := by decide +kernel
theorem d_X_firstBadLine_1 : decode c_X_firstBadLine 1 = .ok (.iconst 0, 1) := by decide +kernel
theorem d_X_firstBadLine_2 : decode c_X_firstBadLine 2 = .ok (.putfield 170, 3) := by decide +kernel
theorem d_X_firstBadLine_5 : decode c_X_firstBadLine 5 = .ok (.iconst 1, 1) := by decide +kernel
theorem d_X_firstBadLine_6 : decode c_X_firstBadLine 6 = .ok (.istore_n 2, 1) := by decide +kernel
theorem d_X_firstBadLine_7 : decode c_X_firstBadLine 7 = .ok (.iload_n 2, 1) := by decide +kernel
theorem d_X_firstBadLine_8 : decode c_X_firstBadLine 8 = .ok (.aload_n 0, 1) := by decide +kernel
theorem d_X_firstBadLine_9 : decode c_X_firstBadLine 9 = .ok (.getfield 58, 3) := by decide +kernel
theorem d_X_firstBadLine_12 : decode c_X_firstBadLine 12 = .ok (.if_icmp .gt 30, 3) := by decide +kernel
theorem d_X_firstBadLine_15 : decode c_X_firstBadLine 15 = .ok (.aload_n 0, 1) := by decide +kernel
theorem d_X_firstBadLine_16 : decode c_X_firstBadLine 16 = .ok (.getfield 170, 3) := by decide +kernel
theorem d_X_firstBadLine_19 : decode c_X_firstBadLine 19 = .ok (.aload_n 0, 1) := by decide +kernel
theorem d_X_firstBadLine_20 : decode c_X_firstBadLine 20 = .ok (.getfield 58, 3) := by decide +kernel
theorem d_X_firstBadLine_23 : decode c_X_firstBadLine 23 = .ok (.if_icmp .ge 19, 3) := by decide +kernel
theorem d_X_firstBadLine_26 : decode c_X_firstBadLine 26 = .ok (.aload_n 0, 1) := by decide +kernel
theorem d_X_firstBadLine_27 : decode c_X_firstBadLine 27 = .ok (.aload_n 1, 1) := by decide +kernel
theorem d_X_firstBadLine_28 : decode c_X_firstBadLine 28 = .ok (.invokestatic 172, 3) := by decide +kernel
theorem d_X_firstBadLine_31 : decode c_X_firstBadLine 31 = .ok (.ifCond .ne 5, 3) := by decide +kernel
theorem d_X_firstBadLine_34 : decode c_X_firstBadLine 34 = .ok (.iload_n 2, 1) := by decide +kernel
theorem d_X_firstBadLine_35 : decode c_X_firstBadLine 35 = .ok (.ireturn, 1) := by decide +kernel
theorem d_X_firstBadLine_36 : decode c_X_firstBadLine 36 = .ok (.iinc 2 1, 3) := by decide +kernel
theorem d_X_firstBadLine_39 : decode c_X_firstBadLine 39 = .ok (.goto (-32), 3) := by decide +kernel
theorem d_X_firstBadLine_42 : decode c_X_firstBadLine 42 = .ok (.iconst 0, 1) := by decide +kernel
theorem d_X_firstBadLine_43 : decode c_X_firstBadLine 43 = .ok (.ireturn, 1) := by decide +kernel
theorem d_Gr_lastPlace_0 : decode c_Gr_lastPlace 0 = .ok (.iload_n 1, 1) := by decide +kernel
theorem d_Gr_lastPlace_1 : decode c_Gr_lastPlace 1 = .ok (.iconst 1, 1) := by decide +kernel
theorem d_Gr_lastPlace_2 : decode c_Gr_lastPlace 2 = .ok (.iadd, 1) := by decide +kernel
theorem d_Gr_lastPlace_3 : decode c_Gr_lastPlace 3 = .ok (.iconst 2, 1) := by decide +kernel
theorem d_Gr_lastPlace_4 : decode c_Gr_lastPlace 4 = .ok (.aload_n 0, 1) := by decide +kernel
theorem d_Gr_lastPlace_5 : decode c_Gr_lastPlace 5 = .ok (.getfield 43, 3) := by decide +kernel
theorem d_Gr_lastPlace_8 : decode c_Gr_lastPlace 8 = .ok (.imul, 1) := by decide +kernel
theorem d_Gr_lastPlace_9 : decode c_Gr_lastPlace 9 = .ok (.if_icmp .ge 14, 3) := by decide +kernel
theorem d_Gr_lastPlace_12 : decode c_Gr_lastPlace 12 = .ok (.aload_n 0, 1) := by decide +kernel
theorem d_Gr_lastPlace_13 : decode c_Gr_lastPlace 13 = .ok (.getfield 15, 3) := by decide +kernel
theorem d_Gr_lastPlace_16 : decode c_Gr_lastPlace 16 = .ok (.iload_n 1, 1) := by decide +kernel
theorem d_Gr_lastPlace_17 : decode c_Gr_lastPlace 17 = .ok (.iconst 1, 1) := by decide +kernel
theorem d_Gr_lastPlace_18 : decode c_Gr_lastPlace 18 = .ok (.iadd, 1) := by decide +kernel
theorem d_Gr_lastPlace_19 : decode c_Gr_lastPlace 19 = .ok (.iaload, 1) := by decide +kernel
theorem d_Gr_lastPlace_20 : decode c_Gr_lastPlace 20 = .ok (.goto 7, 3) := by decide +kernel
theorem d_Gr_lastPlace_23 : decode c_Gr_lastPlace 23 = .ok (.aload_n 0, 1) := by decide +kernel
theorem d_Gr_lastPlace_24 : decode c_Gr_lastPlace 24 = .ok (.getfield 53, 3) := by decide +kernel
theorem d_Gr_lastPlace_27 : decode c_Gr_lastPlace 27 = .ok (.iconst 1, 1) := by decide +kernel
theorem d_Gr_lastPlace_28 : decode c_Gr_lastPlace 28 = .ok (.isub, 1) := by decide +kernel
theorem d_Gr_lastPlace_29 : decode c_Gr_lastPlace 29 = .ok (.ireturn, 1) := by decide +kernel
theorem d_Gr_join_0 : decode c_Gr_join 0 = .ok (.aload_n 0, 1) := by decide +kernel
theorem d_Gr_join_1 : decode c_Gr_join 1 = .ok (.getfield 56, 3) := by decide +kernel
theorem d_Gr_join_4 : decode c_Gr_join 4 = .ok (.bipush 72, 2) := by decide +kernel
theorem d_Gr_join_6 : decode c_Gr_join 6 = .ok (.if_icmp .ge 33, 3) := by decide +kernel
theorem d_Gr_join_9 : decode c_Gr_join 9 = .ok (.aload_n 0, 1) := by decide +kernel
theorem d_Gr_join_10 : decode c_Gr_join 10 = .ok (.getfield 37, 3) := by decide +kernel
theorem d_Gr_join_13 : decode c_Gr_join 13 = .ok (.aload_n 0, 1) := by decide +kernel
theorem d_Gr_join_14 : decode c_Gr_join 14 = .ok (.getfield 56, 3) := by decide +kernel
theorem d_Gr_join_17 : decode c_Gr_join 17 = .ok (.iload_n 1, 1) := by decide +kernel
theorem d_Gr_join_18 : decode c_Gr_join 18 = .ok (.iastore, 1) := by decide +kernel
theorem d_Gr_join_19 : decode c_Gr_join 19 = .ok (.aload_n 0, 1) := by decide +kernel
theorem d_Gr_join_20 : decode c_Gr_join 20 = .ok (.getfield 40, 3) := by decide +kernel
theorem d_Gr_join_23 : decode c_Gr_join 23 = .ok (.aload_n 0, 1) := by decide +kernel
theorem d_Gr_join_24 : decode c_Gr_join 24 = .ok (.getfield 56, 3) := by decide +kernel
theorem d_Gr_join_27 : decode c_Gr_join 27 = .ok (.iload_n 2, 1) := by decide +kernel
theorem d_Gr_join_28 : decode c_Gr_join 28 = .ok (.iastore, 1) := by decide +kernel
theorem d_Gr_join_29 : decode c_Gr_join 29 = .ok (.aload_n 0, 1) := by decide +kernel
theorem d_Gr_join_30 : decode c_Gr_join 30 = .ok (.dup, 1) := by decide +kernel
theorem d_Gr_join_31 : decode c_Gr_join 31 = .ok (.getfield 56, 3) := by decide +kernel
theorem d_Gr_join_34 : decode c_Gr_join 34 = .ok (.iconst 1, 1) := by decide +kernel
theorem d_Gr_join_35 : decode c_Gr_join 35 = .ok (.iadd, 1) := by decide +kernel
theorem d_Gr_join_36 : decode c_Gr_join 36 = .ok (.putfield 56, 3) := by decide +kernel
theorem d_Gr_join_39 : decode c_Gr_join 39 = .ok (.return_, 1) := by decide +kernel
theorem d_Gr_firstPlace_0 : decode c_Gr_firstPlace 0 = .ok (.aload_n 0, 1) := by decide +kernel
theorem d_Gr_firstPlace_1 : decode c_Gr_firstPlace 1 = .ok (.getfield 15, 3) := by decide +kernel
theorem d_Gr_firstPlace_4 : decode c_Gr_firstPlace 4 = .ok (.iload_n 1, 1) := by decide +kernel
theorem d_Gr_firstPlace_5 : decode c_Gr_firstPlace 5 = .ok (.iaload, 1) := by decide +kernel
theorem d_Gr_firstPlace_6 : decode c_Gr_firstPlace 6 = .ok (.ireturn, 1) := by decide +kernel
theorem d_Gr_joinToFollowers_0 : decode c_Gr_joinToFollowers 0 = .ok (.iconst 0, 1) := by decide +kernel
theorem d_Gr_joinToFollowers_1 : decode c_Gr_joinToFollowers 1 = .ok (.istore_n 3, 1) := by decide +kernel
theorem d_Gr_joinToFollowers_2 : decode c_Gr_joinToFollowers 2 = .ok (.iload_n 3, 1) := by decide +kernel
theorem d_Gr_joinToFollowers_3 : decode c_Gr_joinToFollowers 3 = .ok (.iconst 2, 1) := by decide +kernel
theorem d_Gr_joinToFollowers_4 : decode c_Gr_joinToFollowers 4 = .ok (.aload_n 0, 1) := by decide +kernel
theorem d_Gr_joinToFollowers_5 : decode c_Gr_joinToFollowers 5 = .ok (.getfield 43, 3) := by decide +kernel
theorem d_Gr_joinToFollowers_8 : decode c_Gr_joinToFollowers 8 = .ok (.imul, 1) := by decide +kernel
theorem d_Gr_joinToFollowers_9 : decode c_Gr_joinToFollowers 9 = .ok (.if_icmp .ge 28, 3) := by decide +kernel
theorem d_Gr_joinToFollowers_12 : decode c_Gr_joinToFollowers 12 = .ok (.aload_n 0, 1) := by decide +kernel
theorem d_Gr_joinToFollowers_13 : decode c_Gr_joinToFollowers 13 = .ok (.iload_n 2, 1) := by decide +kernel
theorem d_Gr_joinToFollowers_14 : decode c_Gr_joinToFollowers 14 = .ok (.iload_n 3, 1) := by decide +kernel
theorem d_Gr_joinToFollowers_15 : decode c_Gr_joinToFollowers 15 = .ok (.invokevirtual 84, 3) := by decide +kernel
theorem d_Gr_joinToFollowers_18 : decode c_Gr_joinToFollowers 18 = .ok (.ifCond .eq 13, 3) := by decide +kernel
theorem d_Gr_joinToFollowers_21 : decode c_Gr_joinToFollowers 21 = .ok (.aload_n 0, 1) := by decide +kernel
theorem d_Gr_joinToFollowers_22 : decode c_Gr_joinToFollowers 22 = .ok (.iload_n 1, 1) := by decide +kernel
theorem d_Gr_joinToFollowers_23 : decode c_Gr_joinToFollowers 23 = .ok (.aload_n 0, 1) := by decide +kernel
theorem d_Gr_joinToFollowers_24 : decode c_Gr_joinToFollowers 24 = .ok (.iload_n 3, 1) := by decide +kernel
theorem d_Gr_joinToFollowers_25 : decode c_Gr_joinToFollowers 25 = .ok (.invokevirtual 88, 3) := by decide +kernel
theorem d_Gr_joinToFollowers_28 : decode c_Gr_joinToFollowers 28 = .ok (.invokevirtual 94, 3) := by decide +kernel
theorem d_Gr_joinToFollowers_31 : decode c_Gr_joinToFollowers 31 = .ok (.iinc 3 1, 3) := by decide +kernel
theorem d_Gr_joinToFollowers_34 : decode c_Gr_joinToFollowers 34 = .ok (.goto (-32), 3) := by decide +kernel
theorem d_Gr_joinToFollowers_37 : decode c_Gr_joinToFollowers 37 = .ok (.return_, 1) := by decide +kernel
theorem d_Gr_joinPlaces_0 : decode c_Gr_joinPlaces 0 = .ok (.iconst 0, 1) := by decide +kernel
theorem d_Gr_joinPlaces_1 : decode c_Gr_joinPlaces 1 = .ok (.istore_n 1, 1) := by decide +kernel
theorem d_Gr_joinPlaces_2 : decode c_Gr_joinPlaces 2 = .ok (.iload_n 1, 1) := by decide +kernel
theorem d_Gr_joinPlaces_3 : decode c_Gr_joinPlaces 3 = .ok (.aload_n 0, 1) := by decide +kernel
theorem d_Gr_joinPlaces_4 : decode c_Gr_joinPlaces 4 = .ok (.getfield 53, 3) := by decide +kernel
theorem d_Gr_joinPlaces_7 : decode c_Gr_joinPlaces 7 = .ok (.if_icmp .ge 42, 3) := by decide +kernel
theorem d_Gr_joinPlaces_10 : decode c_Gr_joinPlaces 10 = .ok (.aload_n 0, 1) := by decide +kernel
theorem d_Gr_joinPlaces_11 : decode c_Gr_joinPlaces 11 = .ok (.getfield 22, 3) := by decide +kernel
theorem d_Gr_joinPlaces_14 : decode c_Gr_joinPlaces 14 = .ok (.iload_n 1, 1) := by decide +kernel
theorem d_Gr_joinPlaces_15 : decode c_Gr_joinPlaces 15 = .ok (.iaload, 1) := by decide +kernel
theorem d_Gr_joinPlaces_16 : decode c_Gr_joinPlaces 16 = .ok (.istore_n 2, 1) := by decide +kernel
theorem d_Gr_joinPlaces_17 : decode c_Gr_joinPlaces 17 = .ok (.iload_n 1, 1) := by decide +kernel
theorem d_Gr_joinPlaces_18 : decode c_Gr_joinPlaces 18 = .ok (.aload_n 0, 1) := by decide +kernel
theorem d_Gr_joinPlaces_19 : decode c_Gr_joinPlaces 19 = .ok (.iload_n 2, 1) := by decide +kernel
theorem d_Gr_joinPlaces_20 : decode c_Gr_joinPlaces 20 = .ok (.invokevirtual 91, 3) := by decide +kernel
theorem d_Gr_joinPlaces_23 : decode c_Gr_joinPlaces 23 = .ok (.if_icmp .ge 14, 3) := by decide +kernel
theorem d_Gr_joinPlaces_26 : decode c_Gr_joinPlaces 26 = .ok (.aload_n 0, 1) := by decide +kernel
theorem d_Gr_joinPlaces_27 : decode c_Gr_joinPlaces 27 = .ok (.iload_n 1, 1) := by decide +kernel
theorem d_Gr_joinPlaces_28 : decode c_Gr_joinPlaces 28 = .ok (.iload_n 1, 1) := by decide +kernel
theorem d_Gr_joinPlaces_29 : decode c_Gr_joinPlaces 29 = .ok (.iconst 1, 1) := by decide +kernel
theorem d_Gr_joinPlaces_30 : decode c_Gr_joinPlaces 30 = .ok (.iadd, 1) := by decide +kernel
theorem d_Gr_joinPlaces_31 : decode c_Gr_joinPlaces 31 = .ok (.invokevirtual 94, 3) := by decide +kernel
theorem d_Gr_joinPlaces_34 : decode c_Gr_joinPlaces 34 = .ok (.goto 9, 3) := by decide +kernel
theorem d_Gr_joinPlaces_37 : decode c_Gr_joinPlaces 37 = .ok (.aload_n 0, 1) := by decide +kernel
theorem d_Gr_joinPlaces_38 : decode c_Gr_joinPlaces 38 = .ok (.iload_n 1, 1) := by decide +kernel
theorem d_Gr_joinPlaces_39 : decode c_Gr_joinPlaces 39 = .ok (.iload_n 2, 1) := by decide +kernel
theorem d_Gr_joinPlaces_40 : decode c_Gr_joinPlaces 40 = .ok (.invokevirtual 98, 3) := by decide +kernel
theorem d_Gr_joinPlaces_43 : decode c_Gr_joinPlaces 43 = .ok (.iinc 1 1, 3) := by decide +kernel
theorem d_Gr_joinPlaces_46 : decode c_Gr_joinPlaces 46 = .ok (.goto (-44), 3) := by decide +kernel
theorem d_Gr_joinPlaces_49 : decode c_Gr_joinPlaces 49 = .ok (.return_, 1) := by decide +kernel
theorem d_X_load_0 : decode c_X_load 0 = .ok (.aload_n 0, 1) := by decide +kernel
theorem d_X_load_1 : decode c_X_load 1 = .ok (.getfield 51, 3) := by decide +kernel
theorem d_X_load_4 : decode c_X_load 4 = .ok (.invokevirtual 62, 3) := by decide +kernel
theorem d_X_load_7 : decode c_X_load 7 = .ok (.aload_n 0, 1) := by decide +kernel
theorem d_X_load_8 : decode c_X_load 8 = .ok (.getfield 12, 3) := by decide +kernel
theorem d_X_load_11 : decode c_X_load 11 = .ok (.aload_n 0, 1) := by decide +kernel
theorem d_X_load_12 : decode c_X_load 12 = .ok (.getfield 51, 3) := by decide +kernel
theorem d_X_load_15 : decode c_X_load 15 = .ok (.invokestatic 65, 3) := by decide +kernel
theorem d_X_load_18 : decode c_X_load 18 = .ok (.istore_n 1, 1) := by decide +kernel
theorem d_X_load_19 : decode c_X_load 19 = .ok (.iload_n 1, 1) := by decide +kernel
theorem d_X_load_20 : decode c_X_load 20 = .ok (.ifCond .le 6, 3) := by decide +kernel
theorem d_X_load_23 : decode c_X_load 23 = .ok (.iload_n 1, 1) := by decide +kernel
theorem d_X_load_24 : decode c_X_load 24 = .ok (.ineg, 1) := by decide +kernel
theorem d_X_load_25 : decode c_X_load 25 = .ok (.ireturn, 1) := by decide +kernel
theorem d_X_load_26 : decode c_X_load 26 = .ok (.aload_n 0, 1) := by decide +kernel
theorem d_X_load_27 : decode c_X_load 27 = .ok (.getfield 51, 3) := by decide +kernel
theorem d_X_load_30 : decode c_X_load 30 = .ok (.invokevirtual 69, 3) := by decide +kernel
theorem d_X_load_33 : decode c_X_load 33 = .ok (.aload_n 0, 1) := by decide +kernel
theorem d_X_load_34 : decode c_X_load 34 = .ok (.getfield 47, 3) := by decide +kernel
theorem d_X_load_37 : decode c_X_load 37 = .ok (.astore_n 2, 1) := by decide +kernel
theorem d_X_load_38 : decode c_X_load 38 = .ok (.aload_n 0, 1) := by decide +kernel
theorem d_X_load_39 : decode c_X_load 39 = .ok (.aload_n 0, 1) := by decide +kernel
theorem d_X_load_40 : decode c_X_load 40 = .ok (.getfield 51, 3) := by decide +kernel
theorem d_X_load_43 : decode c_X_load 43 = .ok (.putfield 47, 3) := by decide +kernel
theorem d_X_load_46 : decode c_X_load 46 = .ok (.aload_n 0, 1) := by decide +kernel
theorem d_X_load_47 : decode c_X_load 47 = .ok (.aload_n 2, 1) := by decide +kernel
theorem d_X_load_48 : decode c_X_load 48 = .ok (.putfield 51, 3) := by decide +kernel
theorem d_X_load_51 : decode c_X_load 51 = .ok (.aload_n 0, 1) := by decide +kernel
theorem d_X_load_52 : decode c_X_load 52 = .ok (.getfield 33, 3) := by decide +kernel
theorem d_X_load_55 : decode c_X_load 55 = .ok (.iconst 0, 1) := by decide +kernel
theorem d_X_load_56 : decode c_X_load 56 = .ok (.putfield 72, 3) := by decide +kernel
theorem d_X_load_59 : decode c_X_load 59 = .ok (.iconst 0, 1) := by decide +kernel
theorem d_X_load_60 : decode c_X_load 60 = .ok (.ireturn, 1) := by decide +kernel
theorem d_X_size_0 : decode c_X_size 0 = .ok (.iload_n 1, 1) := by decide +kernel
theorem d_X_size_1 : decode c_X_size 1 = .ok (.tableswitch 63 0 3 #[31, 39, 47, 55], 31) := by decide +kernel
theorem d_X_size_32 : decode c_X_size 32 = .ok (.aload_n 0, 1) := by decide +kernel
theorem d_X_size_33 : decode c_X_size 33 = .ok (.getfield 47, 3) := by decide +kernel
theorem d_X_size_36 : decode c_X_size 36 = .ok (.getfield 76, 3) := by decide +kernel
theorem d_X_size_39 : decode c_X_size 39 = .ok (.ireturn, 1) := by decide +kernel
theorem d_X_size_40 : decode c_X_size 40 = .ok (.aload_n 0, 1) := by decide +kernel
theorem d_X_size_41 : decode c_X_size 41 = .ok (.getfield 47, 3) := by decide +kernel
theorem d_X_size_44 : decode c_X_size 44 = .ok (.getfield 79, 3) := by decide +kernel
theorem d_X_size_47 : decode c_X_size 47 = .ok (.ireturn, 1) := by decide +kernel
theorem d_X_size_48 : decode c_X_size 48 = .ok (.aload_n 0, 1) := by decide +kernel
theorem d_X_size_49 : decode c_X_size 49 = .ok (.getfield 47, 3) := by decide +kernel
theorem d_X_size_52 : decode c_X_size 52 = .ok (.getfield 82, 3) := by decide +kernel
theorem d_X_size_55 : decode c_X_size 55 = .ok (.ireturn, 1) := by decide +kernel
theorem d_X_size_56 : decode c_X_size 56 = .ok (.aload_n 0, 1) := by decide +kernel
theorem d_X_size_57 : decode c_X_size 57 = .ok (.getfield 47, 3) := by decide +kernel
theorem d_X_size_60 : decode c_X_size 60 = .ok (.getfield 85, 3) := by decide +kernel
theorem d_X_size_63 : decode c_X_size 63 = .ok (.ireturn, 1) := by decide +kernel
theorem d_X_size_64 : decode c_X_size 64 = .ok (.iconst (-1), 1) := by decide +kernel
theorem d_X_size_65 : decode c_X_size 65 = .ok (.ireturn, 1) := by decide +kernel
theorem d_Gr_hasPlace_0 : decode c_Gr_hasPlace 0 = .ok (.iload_n 1, 1) := by decide +kernel
theorem d_Gr_hasPlace_1 : decode c_Gr_hasPlace 1 = .ok (.ifCond .lt 15, 3) := by decide +kernel
theorem d_Gr_hasPlace_4 : decode c_Gr_hasPlace 4 = .ok (.iload_n 1, 1) := by decide +kernel
theorem d_Gr_hasPlace_5 : decode c_Gr_hasPlace 5 = .ok (.aload_n 0, 1) := by decide +kernel
theorem d_Gr_hasPlace_6 : decode c_Gr_hasPlace 6 = .ok (.getfield 53, 3) := by decide +kernel
theorem d_Gr_hasPlace_9 : decode c_Gr_hasPlace 9 = .ok (.if_icmp .ge 7, 3) := by decide +kernel
theorem d_Gr_hasPlace_12 : decode c_Gr_hasPlace 12 = .ok (.iconst 1, 1) := by decide +kernel
theorem d_Gr_hasPlace_13 : decode c_Gr_hasPlace 13 = .ok (.goto 4, 3) := by decide +kernel
theorem d_Gr_hasPlace_16 : decode c_Gr_hasPlace 16 = .ok (.iconst 0, 1) := by decide +kernel
theorem d_Gr_hasPlace_17 : decode c_Gr_hasPlace 17 = .ok (.ireturn, 1) := by decide +kernel
theorem d_X_base_0 : decode c_X_base 0 = .ok (.aload_n 0, 1) := by decide +kernel
theorem d_X_base_1 : decode c_X_base 1 = .ok (.getfield 47, 3) := by decide +kernel
theorem d_X_base_4 : decode c_X_base 4 = .ok (.iload_n 1, 1) := by decide +kernel
theorem d_X_base_5 : decode c_X_base 5 = .ok (.invokevirtual 88, 3) := by decide +kernel
theorem d_X_base_8 : decode c_X_base 8 = .ok (.ifCond .eq 15, 3) := by decide +kernel
theorem d_X_base_11 : decode c_X_base 11 = .ok (.aload_n 0, 1) := by decide +kernel
theorem d_X_base_12 : decode c_X_base 12 = .ok (.getfield 47, 3) := by decide +kernel
theorem d_X_base_15 : decode c_X_base 15 = .ok (.getfield 92, 3) := by decide +kernel
theorem d_X_base_18 : decode c_X_base 18 = .ok (.iload_n 1, 1) := by decide +kernel
theorem d_X_base_19 : decode c_X_base 19 = .ok (.caload, 1) := by decide +kernel
theorem d_X_base_20 : decode c_X_base 20 = .ok (.goto 4, 3) := by decide +kernel
theorem d_X_base_23 : decode c_X_base 23 = .ok (.iconst (-1), 1) := by decide +kernel
theorem d_X_base_24 : decode c_X_base 24 = .ok (.ireturn, 1) := by decide +kernel
theorem d_Gr_areJoined_0 : decode c_Gr_areJoined 0 = .ok (.iconst 0, 1) := by decide +kernel
theorem d_Gr_areJoined_1 : decode c_Gr_areJoined 1 = .ok (.istore_n 3, 1) := by decide +kernel
theorem d_Gr_areJoined_2 : decode c_Gr_areJoined 2 = .ok (.iload_n 3, 1) := by decide +kernel
theorem d_Gr_areJoined_3 : decode c_Gr_areJoined 3 = .ok (.aload_n 0, 1) := by decide +kernel
theorem d_Gr_areJoined_4 : decode c_Gr_areJoined 4 = .ok (.getfield 56, 3) := by decide +kernel
theorem d_Gr_areJoined_7 : decode c_Gr_areJoined 7 = .ok (.if_icmp .ge 31, 3) := by decide +kernel
theorem d_Gr_areJoined_10 : decode c_Gr_areJoined 10 = .ok (.aload_n 0, 1) := by decide +kernel
theorem d_Gr_areJoined_11 : decode c_Gr_areJoined 11 = .ok (.getfield 37, 3) := by decide +kernel
theorem d_Gr_areJoined_14 : decode c_Gr_areJoined 14 = .ok (.iload_n 3, 1) := by decide +kernel
theorem d_Gr_areJoined_15 : decode c_Gr_areJoined 15 = .ok (.iaload, 1) := by decide +kernel
theorem d_Gr_areJoined_16 : decode c_Gr_areJoined 16 = .ok (.iload_n 1, 1) := by decide +kernel
theorem d_Gr_areJoined_17 : decode c_Gr_areJoined 17 = .ok (.if_icmp .ne 15, 3) := by decide +kernel
theorem d_Gr_areJoined_20 : decode c_Gr_areJoined 20 = .ok (.aload_n 0, 1) := by decide +kernel
theorem d_Gr_areJoined_21 : decode c_Gr_areJoined 21 = .ok (.getfield 40, 3) := by decide +kernel
theorem d_Gr_areJoined_24 : decode c_Gr_areJoined 24 = .ok (.iload_n 3, 1) := by decide +kernel
theorem d_Gr_areJoined_25 : decode c_Gr_areJoined 25 = .ok (.iaload, 1) := by decide +kernel
theorem d_Gr_areJoined_26 : decode c_Gr_areJoined 26 = .ok (.iload_n 2, 1) := by decide +kernel
theorem d_Gr_areJoined_27 : decode c_Gr_areJoined 27 = .ok (.if_icmp .ne 5, 3) := by decide +kernel
theorem d_Gr_areJoined_30 : decode c_Gr_areJoined 30 = .ok (.iconst 1, 1) := by decide +kernel
theorem d_Gr_areJoined_31 : decode c_Gr_areJoined 31 = .ok (.ireturn, 1) := by decide +kernel
theorem d_Gr_areJoined_32 : decode c_Gr_areJoined 32 = .ok (.iinc 3 1, 3) := by decide +kernel
theorem d_Gr_areJoined_35 : decode c_Gr_areJoined 35 = .ok (.goto (-33), 3) := by decide +kernel
theorem d_Gr_areJoined_38 : decode c_Gr_areJoined 38 = .ok (.iconst 0, 1) := by decide +kernel
theorem d_Gr_areJoined_39 : decode c_Gr_areJoined 39 = .ok (.ireturn, 1) := by decide +kernel
theorem d_X_follows_0 : decode c_X_follows 0 = .ok (.aload_n 0, 1) := by decide +kernel
theorem d_X_follows_1 : decode c_X_follows 1 = .ok (.getfield 47, 3) := by decide +kernel
theorem d_X_follows_4 : decode c_X_follows 4 = .ok (.iload_n 1, 1) := by decide +kernel
theorem d_X_follows_5 : decode c_X_follows 5 = .ok (.iload_n 2, 1) := by decide +kernel
theorem d_X_follows_6 : decode c_X_follows 6 = .ok (.invokevirtual 96, 3) := by decide +kernel
theorem d_X_follows_9 : decode c_X_follows 9 = .ok (.ireturn, 1) := by decide +kernel
theorem d_Re_put_0 : decode c_Re_put 0 = .ok (.iload_n 1, 1) := by decide +kernel
theorem d_Re_put_1 : decode c_Re_put 1 = .ok (.invokestatic 15, 3) := by decide +kernel
theorem d_Re_put_4 : decode c_Re_put 4 = .ok (.ifCond .eq 12, 3) := by decide +kernel
theorem d_Re_put_7 : decode c_Re_put 7 = .ok (.aload_n 0, 1) := by decide +kernel
theorem d_Re_put_8 : decode c_Re_put 8 = .ok (.getfield 19, 3) := by decide +kernel
theorem d_Re_put_11 : decode c_Re_put 11 = .ok (.bipush 12, 2) := by decide +kernel
theorem d_Re_put_13 : decode c_Re_put 13 = .ok (.if_icmp .lt 5, 3) := by decide +kernel
theorem d_Re_put_16 : decode c_Re_put 16 = .ok (.iconst 0, 1) := by decide +kernel
theorem d_Re_put_17 : decode c_Re_put 17 = .ok (.ireturn, 1) := by decide +kernel
theorem d_Re_put_18 : decode c_Re_put 18 = .ok (.aload_n 0, 1) := by decide +kernel
theorem d_Re_put_19 : decode c_Re_put 19 = .ok (.getfield 9, 3) := by decide +kernel
theorem d_Re_put_22 : decode c_Re_put 22 = .ok (.aload_n 0, 1) := by decide +kernel
theorem d_Re_put_23 : decode c_Re_put 23 = .ok (.getfield 19, 3) := by decide +kernel
theorem d_Re_put_26 : decode c_Re_put 26 = .ok (.iload_n 1, 1) := by decide +kernel
theorem d_Re_put_27 : decode c_Re_put 27 = .ok (.castore, 1) := by decide +kernel
theorem d_Re_put_28 : decode c_Re_put 28 = .ok (.aload_n 0, 1) := by decide +kernel
theorem d_Re_put_29 : decode c_Re_put 29 = .ok (.dup, 1) := by decide +kernel
theorem d_Re_put_30 : decode c_Re_put 30 = .ok (.getfield 19, 3) := by decide +kernel
theorem d_Re_put_33 : decode c_Re_put 33 = .ok (.iconst 1, 1) := by decide +kernel
theorem d_Re_put_34 : decode c_Re_put 34 = .ok (.iadd, 1) := by decide +kernel
theorem d_Re_put_35 : decode c_Re_put 35 = .ok (.putfield 19, 3) := by decide +kernel
theorem d_Re_put_38 : decode c_Re_put 38 = .ok (.iconst 1, 1) := by decide +kernel
theorem d_Re_put_39 : decode c_Re_put 39 = .ok (.ireturn, 1) := by decide +kernel
theorem d_X_read_0 : decode c_X_read 0 = .ok (.aload_n 0, 1) := by decide +kernel
theorem d_X_read_1 : decode c_X_read 1 = .ok (.getfield 19, 3) := by decide +kernel
theorem d_X_read_4 : decode c_X_read 4 = .ok (.iload_n 1, 1) := by decide +kernel
theorem d_X_read_5 : decode c_X_read 5 = .ok (.invokevirtual 100, 3) := by decide +kernel
theorem d_X_read_8 : decode c_X_read 8 = .ok (.ireturn, 1) := by decide +kernel
theorem d_X_drop_0 : decode c_X_drop 0 = .ok (.aload_n 0, 1) := by decide +kernel
theorem d_X_drop_1 : decode c_X_drop 1 = .ok (.getfield 19, 3) := by decide +kernel
theorem d_X_drop_4 : decode c_X_drop 4 = .ok (.iconst 0, 1) := by decide +kernel
theorem d_X_drop_5 : decode c_X_drop 5 = .ok (.putfield 101, 3) := by decide +kernel
theorem d_X_drop_8 : decode c_X_drop 8 = .ok (.return_, 1) := by decide +kernel
theorem d_Re_costOn_0 : decode c_Re_costOn 0 = .ok (.aload_n 0, 1) := by decide +kernel
theorem d_Re_costOn_1 : decode c_Re_costOn 1 = .ok (.getfield 9, 3) := by decide +kernel
theorem d_Re_costOn_4 : decode c_Re_costOn 4 = .ok (.iload_n 1, 1) := by decide +kernel
theorem d_Re_costOn_5 : decode c_Re_costOn 5 = .ok (.iconst 1, 1) := by decide +kernel
theorem d_Re_costOn_6 : decode c_Re_costOn 6 = .ok (.isub, 1) := by decide +kernel
theorem d_Re_costOn_7 : decode c_Re_costOn 7 = .ok (.caload, 1) := by decide +kernel
theorem d_Re_costOn_8 : decode c_Re_costOn 8 = .ok (.iload_n 2, 1) := by decide +kernel
theorem d_Re_costOn_9 : decode c_Re_costOn 9 = .ok (.if_icmp .ne 7, 3) := by decide +kernel
theorem d_Re_costOn_12 : decode c_Re_costOn 12 = .ok (.iconst 0, 1) := by decide +kernel
theorem d_Re_costOn_13 : decode c_Re_costOn 13 = .ok (.goto 4, 3) := by decide +kernel
theorem d_Re_costOn_16 : decode c_Re_costOn 16 = .ok (.iconst 1, 1) := by decide +kernel
theorem d_Re_costOn_17 : decode c_Re_costOn 17 = .ok (.ireturn, 1) := by decide +kernel
theorem d_Co_at_0 : decode c_Co_at 0 = .ok (.aload_n 0, 1) := by decide +kernel
theorem d_Co_at_1 : decode c_Co_at 1 = .ok (.getfield 9, 3) := by decide +kernel
theorem d_Co_at_4 : decode c_Co_at 4 = .ok (.iload_n 1, 1) := by decide +kernel
theorem d_Co_at_5 : decode c_Co_at 5 = .ok (.bipush 64, 2) := by decide +kernel
theorem d_Co_at_7 : decode c_Co_at 7 = .ok (.imul, 1) := by decide +kernel
theorem d_Co_at_8 : decode c_Co_at 8 = .ok (.iload_n 2, 1) := by decide +kernel
theorem d_Co_at_9 : decode c_Co_at 9 = .ok (.iadd, 1) := by decide +kernel
theorem d_Co_at_10 : decode c_Co_at 10 = .ok (.iaload, 1) := by decide +kernel
theorem d_Co_at_11 : decode c_Co_at 11 = .ok (.ireturn, 1) := by decide +kernel
theorem d_Co_beginRow_0 : decode c_Co_beginRow 0 = .ok (.iconst 0, 1) := by decide +kernel
theorem d_Co_beginRow_1 : decode c_Co_beginRow 1 = .ok (.istore 4, 2) := by decide +kernel
theorem d_Co_beginRow_3 : decode c_Co_beginRow 3 = .ok (.iload 4, 2) := by decide +kernel
theorem d_Co_beginRow_5 : decode c_Co_beginRow 5 = .ok (.aload_n 1, 1) := by decide +kernel
theorem d_Co_beginRow_6 : decode c_Co_beginRow 6 = .ok (.getfield 26, 3) := by decide +kernel
theorem d_Co_beginRow_9 : decode c_Co_beginRow 9 = .ok (.if_icmp .ge 68, 3) := by decide +kernel
theorem d_Co_beginRow_12 : decode c_Co_beginRow 12 = .ok (.iload_n 3, 1) := by decide +kernel
theorem d_Co_beginRow_13 : decode c_Co_beginRow 13 = .ok (.iconst 1, 1) := by decide +kernel
theorem d_Co_beginRow_14 : decode c_Co_beginRow 14 = .ok (.iadd, 1) := by decide +kernel
theorem d_Co_beginRow_15 : decode c_Co_beginRow 15 = .ok (.istore 5, 2) := by decide +kernel
theorem d_Co_beginRow_17 : decode c_Co_beginRow 17 = .ok (.iload_n 3, 1) := by decide +kernel
theorem d_Co_beginRow_18 : decode c_Co_beginRow 18 = .ok (.ifCond .le 39, 3) := by decide +kernel
theorem d_Co_beginRow_21 : decode c_Co_beginRow 21 = .ok (.iload_n 3, 1) := by decide +kernel
theorem d_Co_beginRow_22 : decode c_Co_beginRow 22 = .ok (.iconst 1, 1) := by decide +kernel
theorem d_Co_beginRow_23 : decode c_Co_beginRow 23 = .ok (.isub, 1) := by decide +kernel
theorem d_Co_beginRow_24 : decode c_Co_beginRow 24 = .ok (.aload_n 2, 1) := by decide +kernel
theorem d_Co_beginRow_25 : decode c_Co_beginRow 25 = .ok (.iload_n 3, 1) := by decide +kernel
theorem d_Co_beginRow_26 : decode c_Co_beginRow 26 = .ok (.aload_n 1, 1) := by decide +kernel
theorem d_Co_beginRow_27 : decode c_Co_beginRow 27 = .ok (.getfield 32, 3) := by decide +kernel
theorem d_Co_beginRow_30 : decode c_Co_beginRow 30 = .ok (.iload 4, 2) := by decide +kernel
theorem d_Co_beginRow_32 : decode c_Co_beginRow 32 = .ok (.caload, 1) := by decide +kernel
theorem d_Co_beginRow_33 : decode c_Co_beginRow 33 = .ok (.invokevirtual 36, 3) := by decide +kernel
theorem d_Co_beginRow_36 : decode c_Co_beginRow 36 = .ok (.iadd, 1) := by decide +kernel
theorem d_Co_beginRow_37 : decode c_Co_beginRow 37 = .ok (.istore 6, 2) := by decide +kernel
theorem d_Co_beginRow_39 : decode c_Co_beginRow 39 = .ok (.iload 6, 2) := by decide +kernel
theorem d_Co_beginRow_41 : decode c_Co_beginRow 41 = .ok (.aload_n 0, 1) := by decide +kernel
theorem d_Co_beginRow_42 : decode c_Co_beginRow 42 = .ok (.iload_n 3, 1) := by decide +kernel
theorem d_Co_beginRow_43 : decode c_Co_beginRow 43 = .ok (.iconst 1, 1) := by decide +kernel
theorem d_Co_beginRow_44 : decode c_Co_beginRow 44 = .ok (.isub, 1) := by decide +kernel
theorem d_Co_beginRow_45 : decode c_Co_beginRow 45 = .ok (.iload 4, 2) := by decide +kernel
theorem d_Co_beginRow_47 : decode c_Co_beginRow 47 = .ok (.invokevirtual 42, 3) := by decide +kernel
theorem d_Co_beginRow_50 : decode c_Co_beginRow 50 = .ok (.iconst 1, 1) := by decide +kernel
theorem d_Co_beginRow_51 : decode c_Co_beginRow 51 = .ok (.iadd, 1) := by decide +kernel
theorem d_Co_beginRow_52 : decode c_Co_beginRow 52 = .ok (.invokestatic 46, 3) := by decide +kernel
theorem d_Co_beginRow_55 : decode c_Co_beginRow 55 = .ok (.istore 5, 2) := by decide +kernel
theorem d_Co_beginRow_57 : decode c_Co_beginRow 57 = .ok (.aload_n 0, 1) := by decide +kernel
theorem d_Co_beginRow_58 : decode c_Co_beginRow 58 = .ok (.getfield 9, 3) := by decide +kernel
theorem d_Co_beginRow_61 : decode c_Co_beginRow 61 = .ok (.iload_n 3, 1) := by decide +kernel
theorem d_Co_beginRow_62 : decode c_Co_beginRow 62 = .ok (.bipush 64, 2) := by decide +kernel
theorem d_Co_beginRow_64 : decode c_Co_beginRow 64 = .ok (.imul, 1) := by decide +kernel
theorem d_Co_beginRow_65 : decode c_Co_beginRow 65 = .ok (.iload 4, 2) := by decide +kernel
theorem d_Co_beginRow_67 : decode c_Co_beginRow 67 = .ok (.iadd, 1) := by decide +kernel
theorem d_Co_beginRow_68 : decode c_Co_beginRow 68 = .ok (.iload 5, 2) := by decide +kernel
theorem d_Co_beginRow_70 : decode c_Co_beginRow 70 = .ok (.iastore, 1) := by decide +kernel
theorem d_Co_beginRow_71 : decode c_Co_beginRow 71 = .ok (.iinc 4 1, 3) := by decide +kernel
theorem d_Co_beginRow_74 : decode c_Co_beginRow 74 = .ok (.goto (-71), 3) := by decide +kernel
theorem d_Co_beginRow_77 : decode c_Co_beginRow 77 = .ok (.return_, 1) := by decide +kernel
theorem d_Co_lower_0 : decode c_Co_lower 0 = .ok (.iload_n 3, 1) := by decide +kernel
theorem d_Co_lower_1 : decode c_Co_lower 1 = .ok (.aload_n 0, 1) := by decide +kernel
theorem d_Co_lower_2 : decode c_Co_lower 2 = .ok (.iload_n 1, 1) := by decide +kernel
theorem d_Co_lower_3 : decode c_Co_lower 3 = .ok (.iload_n 2, 1) := by decide +kernel
theorem d_Co_lower_4 : decode c_Co_lower 4 = .ok (.invokevirtual 42, 3) := by decide +kernel
theorem d_Co_lower_7 : decode c_Co_lower 7 = .ok (.if_icmp .lt 5, 3) := by decide +kernel
theorem d_Co_lower_10 : decode c_Co_lower 10 = .ok (.iconst 0, 1) := by decide +kernel
theorem d_Co_lower_11 : decode c_Co_lower 11 = .ok (.ireturn, 1) := by decide +kernel
theorem d_Co_lower_12 : decode c_Co_lower 12 = .ok (.aload_n 0, 1) := by decide +kernel
theorem d_Co_lower_13 : decode c_Co_lower 13 = .ok (.getfield 9, 3) := by decide +kernel
theorem d_Co_lower_16 : decode c_Co_lower 16 = .ok (.iload_n 1, 1) := by decide +kernel
theorem d_Co_lower_17 : decode c_Co_lower 17 = .ok (.bipush 64, 2) := by decide +kernel
theorem d_Co_lower_19 : decode c_Co_lower 19 = .ok (.imul, 1) := by decide +kernel
theorem d_Co_lower_20 : decode c_Co_lower 20 = .ok (.iload_n 2, 1) := by decide +kernel
theorem d_Co_lower_21 : decode c_Co_lower 21 = .ok (.iadd, 1) := by decide +kernel
theorem d_Co_lower_22 : decode c_Co_lower 22 = .ok (.iload_n 3, 1) := by decide +kernel
theorem d_Co_lower_23 : decode c_Co_lower 23 = .ok (.iastore, 1) := by decide +kernel
theorem d_Co_lower_24 : decode c_Co_lower 24 = .ok (.iconst 1, 1) := by decide +kernel
theorem d_Co_lower_25 : decode c_Co_lower 25 = .ok (.ireturn, 1) := by decide +kernel
theorem d_Co_comeFromRowBefore_0 : decode c_Co_comeFromRowBefore 0 = .ok (.iconst 0, 1) := by decide +kernel
theorem d_Co_comeFromRowBefore_1 : decode c_Co_comeFromRowBefore 1 = .ok (.istore 4, 2) := by decide +kernel
theorem d_Co_comeFromRowBefore_3 : decode c_Co_comeFromRowBefore 3 = .ok (.iload 4, 2) := by decide +kernel
theorem d_Co_comeFromRowBefore_5 : decode c_Co_comeFromRowBefore 5 = .ok (.aload_n 1, 1) := by decide +kernel
theorem d_Co_comeFromRowBefore_6 : decode c_Co_comeFromRowBefore 6 = .ok (.getfield 51, 3) := by decide +kernel
theorem d_Co_comeFromRowBefore_9 : decode c_Co_comeFromRowBefore 9 = .ok (.if_icmp .ge 57, 3) := by decide +kernel
theorem d_Co_comeFromRowBefore_12 : decode c_Co_comeFromRowBefore 12 = .ok (.aload_n 1, 1) := by decide +kernel
theorem d_Co_comeFromRowBefore_13 : decode c_Co_comeFromRowBefore 13 = .ok (.getfield 54, 3) := by decide +kernel
theorem d_Co_comeFromRowBefore_16 : decode c_Co_comeFromRowBefore 16 = .ok (.iload 4, 2) := by decide +kernel
theorem d_Co_comeFromRowBefore_18 : decode c_Co_comeFromRowBefore 18 = .ok (.iaload, 1) := by decide +kernel
theorem d_Co_comeFromRowBefore_19 : decode c_Co_comeFromRowBefore 19 = .ok (.istore 5, 2) := by decide +kernel
theorem d_Co_comeFromRowBefore_21 : decode c_Co_comeFromRowBefore 21 = .ok (.aload_n 0, 1) := by decide +kernel
theorem d_Co_comeFromRowBefore_22 : decode c_Co_comeFromRowBefore 22 = .ok (.iload_n 3, 1) := by decide +kernel
theorem d_Co_comeFromRowBefore_23 : decode c_Co_comeFromRowBefore 23 = .ok (.iconst 1, 1) := by decide +kernel
theorem d_Co_comeFromRowBefore_24 : decode c_Co_comeFromRowBefore 24 = .ok (.isub, 1) := by decide +kernel
theorem d_Co_comeFromRowBefore_25 : decode c_Co_comeFromRowBefore 25 = .ok (.aload_n 1, 1) := by decide +kernel
theorem d_Co_comeFromRowBefore_26 : decode c_Co_comeFromRowBefore 26 = .ok (.getfield 57, 3) := by decide +kernel
theorem d_Co_comeFromRowBefore_29 : decode c_Co_comeFromRowBefore 29 = .ok (.iload 4, 2) := by decide +kernel
theorem d_Co_comeFromRowBefore_31 : decode c_Co_comeFromRowBefore 31 = .ok (.iaload, 1) := by decide +kernel
theorem d_Co_comeFromRowBefore_32 : decode c_Co_comeFromRowBefore 32 = .ok (.invokevirtual 42, 3) := by decide +kernel
theorem d_Co_comeFromRowBefore_35 : decode c_Co_comeFromRowBefore 35 = .ok (.aload_n 2, 1) := by decide +kernel
theorem d_Co_comeFromRowBefore_36 : decode c_Co_comeFromRowBefore 36 = .ok (.iload_n 3, 1) := by decide +kernel
theorem d_Co_comeFromRowBefore_37 : decode c_Co_comeFromRowBefore 37 = .ok (.aload_n 1, 1) := by decide +kernel
theorem d_Co_comeFromRowBefore_38 : decode c_Co_comeFromRowBefore 38 = .ok (.getfield 32, 3) := by decide +kernel
theorem d_Co_comeFromRowBefore_41 : decode c_Co_comeFromRowBefore 41 = .ok (.iload 5, 2) := by decide +kernel
theorem d_Co_comeFromRowBefore_43 : decode c_Co_comeFromRowBefore 43 = .ok (.caload, 1) := by decide +kernel
theorem d_Co_comeFromRowBefore_44 : decode c_Co_comeFromRowBefore 44 = .ok (.invokevirtual 36, 3) := by decide +kernel
theorem d_Co_comeFromRowBefore_47 : decode c_Co_comeFromRowBefore 47 = .ok (.iadd, 1) := by decide +kernel
theorem d_Co_comeFromRowBefore_48 : decode c_Co_comeFromRowBefore 48 = .ok (.istore 6, 2) := by decide +kernel
theorem d_Co_comeFromRowBefore_50 : decode c_Co_comeFromRowBefore 50 = .ok (.aload_n 0, 1) := by decide +kernel
theorem d_Co_comeFromRowBefore_51 : decode c_Co_comeFromRowBefore 51 = .ok (.iload_n 3, 1) := by decide +kernel
theorem d_Co_comeFromRowBefore_52 : decode c_Co_comeFromRowBefore 52 = .ok (.iload 5, 2) := by decide +kernel
theorem d_Co_comeFromRowBefore_54 : decode c_Co_comeFromRowBefore 54 = .ok (.iload 6, 2) := by decide +kernel
theorem d_Co_comeFromRowBefore_56 : decode c_Co_comeFromRowBefore 56 = .ok (.invokevirtual 60, 3) := by decide +kernel
theorem d_Co_comeFromRowBefore_59 : decode c_Co_comeFromRowBefore 59 = .ok (.pop, 1) := by decide +kernel
theorem d_Co_comeFromRowBefore_60 : decode c_Co_comeFromRowBefore 60 = .ok (.iinc 4 1, 3) := by decide +kernel
theorem d_Co_comeFromRowBefore_63 : decode c_Co_comeFromRowBefore 63 = .ok (.goto (-60), 3) := by decide +kernel
theorem d_Co_comeFromRowBefore_66 : decode c_Co_comeFromRowBefore 66 = .ok (.return_, 1) := by decide +kernel
theorem d_Co_deletePlaces_0 : decode c_Co_deletePlaces 0 = .ok (.iconst 1, 1) := by decide +kernel
theorem d_Co_deletePlaces_1 : decode c_Co_deletePlaces 1 = .ok (.istore_n 3, 1) := by decide +kernel
theorem d_Co_deletePlaces_2 : decode c_Co_deletePlaces 2 = .ok (.iconst 0, 1) := by decide +kernel
theorem d_Co_deletePlaces_3 : decode c_Co_deletePlaces 3 = .ok (.istore 4, 2) := by decide +kernel
theorem d_Co_deletePlaces_5 : decode c_Co_deletePlaces 5 = .ok (.iload_n 3, 1) := by decide +kernel
theorem d_Co_deletePlaces_6 : decode c_Co_deletePlaces 6 = .ok (.ifCond .eq 67, 3) := by decide +kernel
theorem d_Co_deletePlaces_9 : decode c_Co_deletePlaces 9 = .ok (.iload 4, 2) := by decide +kernel
theorem d_Co_deletePlaces_11 : decode c_Co_deletePlaces 11 = .ok (.bipush 64, 2) := by decide +kernel
theorem d_Co_deletePlaces_13 : decode c_Co_deletePlaces 13 = .ok (.if_icmp .ge 60, 3) := by decide +kernel
theorem d_Co_deletePlaces_16 : decode c_Co_deletePlaces 16 = .ok (.iconst 0, 1) := by decide +kernel
theorem d_Co_deletePlaces_17 : decode c_Co_deletePlaces 17 = .ok (.istore_n 3, 1) := by decide +kernel
theorem d_Co_deletePlaces_18 : decode c_Co_deletePlaces 18 = .ok (.iconst 0, 1) := by decide +kernel
theorem d_Co_deletePlaces_19 : decode c_Co_deletePlaces 19 = .ok (.istore 5, 2) := by decide +kernel
theorem d_Co_deletePlaces_21 : decode c_Co_deletePlaces 21 = .ok (.iload 5, 2) := by decide +kernel
theorem d_Co_deletePlaces_23 : decode c_Co_deletePlaces 23 = .ok (.aload_n 1, 1) := by decide +kernel
theorem d_Co_deletePlaces_24 : decode c_Co_deletePlaces 24 = .ok (.getfield 51, 3) := by decide +kernel
theorem d_Co_deletePlaces_27 : decode c_Co_deletePlaces 27 = .ok (.if_icmp .ge 40, 3) := by decide +kernel
theorem d_Co_deletePlaces_30 : decode c_Co_deletePlaces 30 = .ok (.aload_n 0, 1) := by decide +kernel
theorem d_Co_deletePlaces_31 : decode c_Co_deletePlaces 31 = .ok (.iload_n 2, 1) := by decide +kernel
theorem d_Co_deletePlaces_32 : decode c_Co_deletePlaces 32 = .ok (.aload_n 1, 1) := by decide +kernel
theorem d_Co_deletePlaces_33 : decode c_Co_deletePlaces 33 = .ok (.getfield 54, 3) := by decide +kernel
theorem d_Co_deletePlaces_36 : decode c_Co_deletePlaces 36 = .ok (.iload 5, 2) := by decide +kernel
theorem d_Co_deletePlaces_38 : decode c_Co_deletePlaces 38 = .ok (.iaload, 1) := by decide +kernel
theorem d_Co_deletePlaces_39 : decode c_Co_deletePlaces 39 = .ok (.aload_n 0, 1) := by decide +kernel
theorem d_Co_deletePlaces_40 : decode c_Co_deletePlaces 40 = .ok (.iload_n 2, 1) := by decide +kernel
theorem d_Co_deletePlaces_41 : decode c_Co_deletePlaces 41 = .ok (.aload_n 1, 1) := by decide +kernel
theorem d_Co_deletePlaces_42 : decode c_Co_deletePlaces 42 = .ok (.getfield 57, 3) := by decide +kernel
theorem d_Co_deletePlaces_45 : decode c_Co_deletePlaces 45 = .ok (.iload 5, 2) := by decide +kernel
theorem d_Co_deletePlaces_47 : decode c_Co_deletePlaces 47 = .ok (.iaload, 1) := by decide +kernel
theorem d_Co_deletePlaces_48 : decode c_Co_deletePlaces 48 = .ok (.invokevirtual 42, 3) := by decide +kernel
theorem d_Co_deletePlaces_51 : decode c_Co_deletePlaces 51 = .ok (.iconst 1, 1) := by decide +kernel
theorem d_Co_deletePlaces_52 : decode c_Co_deletePlaces 52 = .ok (.iadd, 1) := by decide +kernel
theorem d_Co_deletePlaces_53 : decode c_Co_deletePlaces 53 = .ok (.invokevirtual 60, 3) := by decide +kernel
theorem d_Co_deletePlaces_56 : decode c_Co_deletePlaces 56 = .ok (.ifCond .eq 5, 3) := by decide +kernel
theorem d_Co_deletePlaces_59 : decode c_Co_deletePlaces 59 = .ok (.iconst 1, 1) := by decide +kernel
theorem d_Co_deletePlaces_60 : decode c_Co_deletePlaces 60 = .ok (.istore_n 3, 1) := by decide +kernel
theorem d_Co_deletePlaces_61 : decode c_Co_deletePlaces 61 = .ok (.iinc 5 1, 3) := by decide +kernel
theorem d_Co_deletePlaces_64 : decode c_Co_deletePlaces 64 = .ok (.goto (-43), 3) := by decide +kernel
theorem d_Co_deletePlaces_67 : decode c_Co_deletePlaces 67 = .ok (.iinc 4 1, 3) := by decide +kernel
theorem d_Co_deletePlaces_70 : decode c_Co_deletePlaces 70 = .ok (.goto (-65), 3) := by decide +kernel
theorem d_Co_deletePlaces_73 : decode c_Co_deletePlaces 73 = .ok (.return_, 1) := by decide +kernel
theorem d_Co_fill_0 : decode c_Co_fill 0 = .ok (.iconst 0, 1) := by decide +kernel
theorem d_Co_fill_1 : decode c_Co_fill 1 = .ok (.istore 4, 2) := by decide +kernel
theorem d_Co_fill_3 : decode c_Co_fill 3 = .ok (.iload 4, 2) := by decide +kernel
theorem d_Co_fill_5 : decode c_Co_fill 5 = .ok (.iload_n 3, 1) := by decide +kernel
theorem d_Co_fill_6 : decode c_Co_fill 6 = .ok (.if_icmp .gt 37, 3) := by decide +kernel
theorem d_Co_fill_9 : decode c_Co_fill 9 = .ok (.aload_n 0, 1) := by decide +kernel
theorem d_Co_fill_10 : decode c_Co_fill 10 = .ok (.aload_n 1, 1) := by decide +kernel
theorem d_Co_fill_11 : decode c_Co_fill 11 = .ok (.aload_n 2, 1) := by decide +kernel
theorem d_Co_fill_12 : decode c_Co_fill 12 = .ok (.iload 4, 2) := by decide +kernel
theorem d_Co_fill_14 : decode c_Co_fill 14 = .ok (.invokevirtual 15, 3) := by decide +kernel
theorem d_Co_fill_17 : decode c_Co_fill 17 = .ok (.iload 4, 2) := by decide +kernel
theorem d_Co_fill_19 : decode c_Co_fill 19 = .ok (.ifCond .le 11, 3) := by decide +kernel
theorem d_Co_fill_22 : decode c_Co_fill 22 = .ok (.aload_n 0, 1) := by decide +kernel
theorem d_Co_fill_23 : decode c_Co_fill 23 = .ok (.aload_n 1, 1) := by decide +kernel
theorem d_Co_fill_24 : decode c_Co_fill 24 = .ok (.aload_n 2, 1) := by decide +kernel
theorem d_Co_fill_25 : decode c_Co_fill 25 = .ok (.iload 4, 2) := by decide +kernel
theorem d_Co_fill_27 : decode c_Co_fill 27 = .ok (.invokevirtual 19, 3) := by decide +kernel
theorem d_Co_fill_30 : decode c_Co_fill 30 = .ok (.aload_n 0, 1) := by decide +kernel
theorem d_Co_fill_31 : decode c_Co_fill 31 = .ok (.aload_n 1, 1) := by decide +kernel
theorem d_Co_fill_32 : decode c_Co_fill 32 = .ok (.iload 4, 2) := by decide +kernel
theorem d_Co_fill_34 : decode c_Co_fill 34 = .ok (.invokevirtual 22, 3) := by decide +kernel
theorem d_Co_fill_37 : decode c_Co_fill 37 = .ok (.iinc 4 1, 3) := by decide +kernel
theorem d_Co_fill_40 : decode c_Co_fill 40 = .ok (.goto (-37), 3) := by decide +kernel
theorem d_Co_fill_43 : decode c_Co_fill 43 = .ok (.return_, 1) := by decide +kernel
theorem d_Co_bestPlace_0 : decode c_Co_bestPlace 0 = .ok (.iconst 0, 1) := by decide +kernel
theorem d_Co_bestPlace_1 : decode c_Co_bestPlace 1 = .ok (.istore_n 3, 1) := by decide +kernel
theorem d_Co_bestPlace_2 : decode c_Co_bestPlace 2 = .ok (.iconst 1, 1) := by decide +kernel
theorem d_Co_bestPlace_3 : decode c_Co_bestPlace 3 = .ok (.istore 4, 2) := by decide +kernel
theorem d_Co_bestPlace_5 : decode c_Co_bestPlace 5 = .ok (.iload 4, 2) := by decide +kernel
theorem d_Co_bestPlace_7 : decode c_Co_bestPlace 7 = .ok (.aload_n 1, 1) := by decide +kernel
theorem d_Co_bestPlace_8 : decode c_Co_bestPlace 8 = .ok (.getfield 26, 3) := by decide +kernel
theorem d_Co_bestPlace_11 : decode c_Co_bestPlace 11 = .ok (.if_icmp .ge 28, 3) := by decide +kernel
theorem d_Co_bestPlace_14 : decode c_Co_bestPlace 14 = .ok (.aload_n 0, 1) := by decide +kernel
theorem d_Co_bestPlace_15 : decode c_Co_bestPlace 15 = .ok (.iload_n 2, 1) := by decide +kernel
theorem d_Co_bestPlace_16 : decode c_Co_bestPlace 16 = .ok (.iload 4, 2) := by decide +kernel
theorem d_Co_bestPlace_18 : decode c_Co_bestPlace 18 = .ok (.invokevirtual 42, 3) := by decide +kernel
theorem d_Co_bestPlace_21 : decode c_Co_bestPlace 21 = .ok (.aload_n 0, 1) := by decide +kernel
theorem d_Co_bestPlace_22 : decode c_Co_bestPlace 22 = .ok (.iload_n 2, 1) := by decide +kernel
theorem d_Co_bestPlace_23 : decode c_Co_bestPlace 23 = .ok (.iload_n 3, 1) := by decide +kernel
theorem d_Co_bestPlace_24 : decode c_Co_bestPlace 24 = .ok (.invokevirtual 42, 3) := by decide +kernel
theorem d_Co_bestPlace_27 : decode c_Co_bestPlace 27 = .ok (.if_icmp .ge 6, 3) := by decide +kernel
theorem d_Co_bestPlace_30 : decode c_Co_bestPlace 30 = .ok (.iload 4, 2) := by decide +kernel
theorem d_Co_bestPlace_32 : decode c_Co_bestPlace 32 = .ok (.istore_n 3, 1) := by decide +kernel
theorem d_Co_bestPlace_33 : decode c_Co_bestPlace 33 = .ok (.iinc 4 1, 3) := by decide +kernel
theorem d_Co_bestPlace_36 : decode c_Co_bestPlace 36 = .ok (.goto (-31), 3) := by decide +kernel
theorem d_Co_bestPlace_39 : decode c_Co_bestPlace 39 = .ok (.iload_n 3, 1) := by decide +kernel
theorem d_Co_bestPlace_40 : decode c_Co_bestPlace 40 = .ok (.ireturn, 1) := by decide +kernel
theorem d_Rs_addEdit_0 : decode c_Rs_addEdit 0 = .ok (.aload_n 0, 1) := by decide +kernel
theorem d_Rs_addEdit_1 : decode c_Rs_addEdit 1 = .ok (.getfield 26, 3) := by decide +kernel
theorem d_Rs_addEdit_4 : decode c_Rs_addEdit 4 = .ok (.bipush 25, 2) := by decide +kernel
theorem d_Rs_addEdit_6 : decode c_Rs_addEdit 6 = .ok (.if_icmp .ge 23, 3) := by decide +kernel
theorem d_Rs_addEdit_9 : decode c_Rs_addEdit 9 = .ok (.aload_n 0, 1) := by decide +kernel
theorem d_Rs_addEdit_10 : decode c_Rs_addEdit 10 = .ok (.getfield 18, 3) := by decide +kernel
theorem d_Rs_addEdit_13 : decode c_Rs_addEdit 13 = .ok (.aload_n 0, 1) := by decide +kernel
theorem d_Rs_addEdit_14 : decode c_Rs_addEdit 14 = .ok (.getfield 26, 3) := by decide +kernel
theorem d_Rs_addEdit_17 : decode c_Rs_addEdit 17 = .ok (.iload_n 1, 1) := by decide +kernel
theorem d_Rs_addEdit_18 : decode c_Rs_addEdit 18 = .ok (.castore, 1) := by decide +kernel
theorem d_Rs_addEdit_19 : decode c_Rs_addEdit 19 = .ok (.aload_n 0, 1) := by decide +kernel
theorem d_Rs_addEdit_20 : decode c_Rs_addEdit 20 = .ok (.dup, 1) := by decide +kernel
theorem d_Rs_addEdit_21 : decode c_Rs_addEdit 21 = .ok (.getfield 26, 3) := by decide +kernel
theorem d_Rs_addEdit_24 : decode c_Rs_addEdit 24 = .ok (.iconst 1, 1) := by decide +kernel
theorem d_Rs_addEdit_25 : decode c_Rs_addEdit 25 = .ok (.iadd, 1) := by decide +kernel
theorem d_Rs_addEdit_26 : decode c_Rs_addEdit 26 = .ok (.putfield 26, 3) := by decide +kernel
theorem d_Rs_addEdit_29 : decode c_Rs_addEdit 29 = .ok (.return_, 1) := by decide +kernel
theorem d_Rs_usePlace_0 : decode c_Rs_usePlace 0 = .ok (.aload_n 0, 1) := by decide +kernel
theorem d_Rs_usePlace_1 : decode c_Rs_usePlace 1 = .ok (.iload_n 1, 1) := by decide +kernel
theorem d_Rs_usePlace_2 : decode c_Rs_usePlace 2 = .ok (.invokevirtual 86, 3) := by decide +kernel
theorem d_Rs_usePlace_5 : decode c_Rs_usePlace 5 = .ok (.aload_n 0, 1) := by decide +kernel
theorem d_Rs_usePlace_6 : decode c_Rs_usePlace 6 = .ok (.getfield 22, 3) := by decide +kernel
theorem d_Rs_usePlace_9 : decode c_Rs_usePlace 9 = .ok (.bipush 25, 2) := by decide +kernel
theorem d_Rs_usePlace_11 : decode c_Rs_usePlace 11 = .ok (.if_icmp .ge 26, 3) := by decide +kernel
theorem d_Rs_usePlace_14 : decode c_Rs_usePlace 14 = .ok (.aload_n 0, 1) := by decide +kernel
theorem d_Rs_usePlace_15 : decode c_Rs_usePlace 15 = .ok (.getfield 15, 3) := by decide +kernel
theorem d_Rs_usePlace_18 : decode c_Rs_usePlace 18 = .ok (.aload_n 0, 1) := by decide +kernel
theorem d_Rs_usePlace_19 : decode c_Rs_usePlace 19 = .ok (.getfield 22, 3) := by decide +kernel
theorem d_Rs_usePlace_22 : decode c_Rs_usePlace 22 = .ok (.aload_n 0, 1) := by decide +kernel
theorem d_Rs_usePlace_23 : decode c_Rs_usePlace 23 = .ok (.getfield 43, 3) := by decide +kernel
theorem d_Rs_usePlace_26 : decode c_Rs_usePlace 26 = .ok (.iastore, 1) := by decide +kernel
theorem d_Rs_usePlace_27 : decode c_Rs_usePlace 27 = .ok (.aload_n 0, 1) := by decide +kernel
theorem d_Rs_usePlace_28 : decode c_Rs_usePlace 28 = .ok (.dup, 1) := by decide +kernel
theorem d_Rs_usePlace_29 : decode c_Rs_usePlace 29 = .ok (.getfield 22, 3) := by decide +kernel
theorem d_Rs_usePlace_32 : decode c_Rs_usePlace 32 = .ok (.iconst 1, 1) := by decide +kernel
theorem d_Rs_usePlace_33 : decode c_Rs_usePlace 33 = .ok (.iadd, 1) := by decide +kernel
theorem d_Rs_usePlace_34 : decode c_Rs_usePlace 34 = .ok (.putfield 22, 3) := by decide +kernel
theorem d_Rs_usePlace_37 : decode c_Rs_usePlace 37 = .ok (.return_, 1) := by decide +kernel
theorem d_Rs_insertFirst_0 : decode c_Rs_insertFirst 0 = .ok (.iconst 0, 1) := by decide +kernel
theorem d_Rs_insertFirst_1 : decode c_Rs_insertFirst 1 = .ok (.istore_n 2, 1) := by decide +kernel
theorem d_Rs_insertFirst_2 : decode c_Rs_insertFirst 2 = .ok (.iload_n 2, 1) := by decide +kernel
theorem d_Rs_insertFirst_3 : decode c_Rs_insertFirst 3 = .ok (.iload_n 1, 1) := by decide +kernel
theorem d_Rs_insertFirst_4 : decode c_Rs_insertFirst 4 = .ok (.if_icmp .ge 15, 3) := by decide +kernel
theorem d_Rs_insertFirst_7 : decode c_Rs_insertFirst 7 = .ok (.aload_n 0, 1) := by decide +kernel
theorem d_Rs_insertFirst_8 : decode c_Rs_insertFirst 8 = .ok (.bipush 73, 2) := by decide +kernel
theorem d_Rs_insertFirst_10 : decode c_Rs_insertFirst 10 = .ok (.invokevirtual 86, 3) := by decide +kernel
theorem d_Rs_insertFirst_13 : decode c_Rs_insertFirst 13 = .ok (.iinc 2 1, 3) := by decide +kernel
theorem d_Rs_insertFirst_16 : decode c_Rs_insertFirst 16 = .ok (.goto (-14), 3) := by decide +kernel
theorem d_Rs_insertFirst_19 : decode c_Rs_insertFirst 19 = .ok (.return_, 1) := by decide +kernel
theorem d_Co_placeBefore_0 : decode c_Co_placeBefore 0 = .ok (.iconst 0, 1) := by decide +kernel
theorem d_Co_placeBefore_1 : decode c_Co_placeBefore 1 = .ok (.istore 5, 2) := by decide +kernel
theorem d_Co_placeBefore_3 : decode c_Co_placeBefore 3 = .ok (.iload 5, 2) := by decide +kernel
theorem d_Co_placeBefore_5 : decode c_Co_placeBefore 5 = .ok (.aload_n 1, 1) := by decide +kernel
theorem d_Co_placeBefore_6 : decode c_Co_placeBefore 6 = .ok (.getfield 51, 3) := by decide +kernel
theorem d_Co_placeBefore_9 : decode c_Co_placeBefore 9 = .ok (.if_icmp .ge 45, 3) := by decide +kernel
theorem d_Co_placeBefore_12 : decode c_Co_placeBefore 12 = .ok (.aload_n 1, 1) := by decide +kernel
theorem d_Co_placeBefore_13 : decode c_Co_placeBefore 13 = .ok (.getfield 54, 3) := by decide +kernel
theorem d_Co_placeBefore_16 : decode c_Co_placeBefore 16 = .ok (.iload 5, 2) := by decide +kernel
theorem d_Co_placeBefore_18 : decode c_Co_placeBefore 18 = .ok (.iaload, 1) := by decide +kernel
theorem d_Co_placeBefore_19 : decode c_Co_placeBefore 19 = .ok (.iload_n 2, 1) := by decide +kernel
theorem d_Co_placeBefore_20 : decode c_Co_placeBefore 20 = .ok (.if_icmp .ne 28, 3) := by decide +kernel
theorem d_Co_placeBefore_23 : decode c_Co_placeBefore 23 = .ok (.aload_n 0, 1) := by decide +kernel
theorem d_Co_placeBefore_24 : decode c_Co_placeBefore 24 = .ok (.iload_n 3, 1) := by decide +kernel
theorem d_Co_placeBefore_25 : decode c_Co_placeBefore 25 = .ok (.aload_n 1, 1) := by decide +kernel
theorem d_Co_placeBefore_26 : decode c_Co_placeBefore 26 = .ok (.getfield 57, 3) := by decide +kernel
theorem d_Co_placeBefore_29 : decode c_Co_placeBefore 29 = .ok (.iload 5, 2) := by decide +kernel
theorem d_Co_placeBefore_31 : decode c_Co_placeBefore 31 = .ok (.iaload, 1) := by decide +kernel
theorem d_Co_placeBefore_32 : decode c_Co_placeBefore 32 = .ok (.invokevirtual 42, 3) := by decide +kernel
theorem d_Co_placeBefore_35 : decode c_Co_placeBefore 35 = .ok (.iload 4, 2) := by decide +kernel
theorem d_Co_placeBefore_37 : decode c_Co_placeBefore 37 = .ok (.if_icmp .ne 11, 3) := by decide +kernel
theorem d_Co_placeBefore_40 : decode c_Co_placeBefore 40 = .ok (.aload_n 1, 1) := by decide +kernel
theorem d_Co_placeBefore_41 : decode c_Co_placeBefore 41 = .ok (.getfield 57, 3) := by decide +kernel
theorem d_Co_placeBefore_44 : decode c_Co_placeBefore 44 = .ok (.iload 5, 2) := by decide +kernel
theorem d_Co_placeBefore_46 : decode c_Co_placeBefore 46 = .ok (.iaload, 1) := by decide +kernel
theorem d_Co_placeBefore_47 : decode c_Co_placeBefore 47 = .ok (.ireturn, 1) := by decide +kernel
theorem d_Co_placeBefore_48 : decode c_Co_placeBefore 48 = .ok (.iinc 5 1, 3) := by decide +kernel
theorem d_Co_placeBefore_51 : decode c_Co_placeBefore 51 = .ok (.goto (-48), 3) := by decide +kernel
theorem d_Co_placeBefore_54 : decode c_Co_placeBefore 54 = .ok (.iconst (-1), 1) := by decide +kernel
theorem d_Co_placeBefore_55 : decode c_Co_placeBefore 55 = .ok (.ireturn, 1) := by decide +kernel
theorem d_Rs_stepBackByDelete_0 : decode c_Rs_stepBackByDelete 0 = .ok (.aload_n 0, 1) := by decide +kernel
theorem d_Rs_stepBackByDelete_1 : decode c_Rs_stepBackByDelete 1 = .ok (.bipush 68, 2) := by decide +kernel
theorem d_Rs_stepBackByDelete_3 : decode c_Rs_stepBackByDelete 3 = .ok (.invokevirtual 74, 3) := by decide +kernel
theorem d_Rs_stepBackByDelete_6 : decode c_Rs_stepBackByDelete 6 = .ok (.aload_n 2, 1) := by decide +kernel
theorem d_Rs_stepBackByDelete_7 : decode c_Rs_stepBackByDelete 7 = .ok (.aload_n 1, 1) := by decide +kernel
theorem d_Rs_stepBackByDelete_8 : decode c_Rs_stepBackByDelete 8 = .ok (.aload_n 0, 1) := by decide +kernel
theorem d_Rs_stepBackByDelete_9 : decode c_Rs_stepBackByDelete 9 = .ok (.getfield 43, 3) := by decide +kernel
theorem d_Rs_stepBackByDelete_12 : decode c_Rs_stepBackByDelete 12 = .ok (.aload_n 0, 1) := by decide +kernel
theorem d_Rs_stepBackByDelete_13 : decode c_Rs_stepBackByDelete 13 = .ok (.getfield 34, 3) := by decide +kernel
theorem d_Rs_stepBackByDelete_16 : decode c_Rs_stepBackByDelete 16 = .ok (.iload_n 3, 1) := by decide +kernel
theorem d_Rs_stepBackByDelete_17 : decode c_Rs_stepBackByDelete 17 = .ok (.iconst 1, 1) := by decide +kernel
theorem d_Rs_stepBackByDelete_18 : decode c_Rs_stepBackByDelete 18 = .ok (.isub, 1) := by decide +kernel
theorem d_Rs_stepBackByDelete_19 : decode c_Rs_stepBackByDelete 19 = .ok (.invokevirtual 82, 3) := by decide +kernel
theorem d_Rs_stepBackByDelete_22 : decode c_Rs_stepBackByDelete 22 = .ok (.istore 4, 2) := by decide +kernel
theorem d_Rs_stepBackByDelete_24 : decode c_Rs_stepBackByDelete 24 = .ok (.iload 4, 2) := by decide +kernel
theorem d_Rs_stepBackByDelete_26 : decode c_Rs_stepBackByDelete 26 = .ok (.ifCond .ge 13, 3) := by decide +kernel
theorem d_Rs_stepBackByDelete_29 : decode c_Rs_stepBackByDelete 29 = .ok (.aload_n 0, 1) := by decide +kernel
theorem d_Rs_stepBackByDelete_30 : decode c_Rs_stepBackByDelete 30 = .ok (.aload_n 0, 1) := by decide +kernel
theorem d_Rs_stepBackByDelete_31 : decode c_Rs_stepBackByDelete 31 = .ok (.getfield 34, 3) := by decide +kernel
theorem d_Rs_stepBackByDelete_34 : decode c_Rs_stepBackByDelete 34 = .ok (.invokevirtual 78, 3) := by decide +kernel
theorem d_Rs_stepBackByDelete_37 : decode c_Rs_stepBackByDelete 37 = .ok (.iconst 0, 1) := by decide +kernel
theorem d_Rs_stepBackByDelete_38 : decode c_Rs_stepBackByDelete 38 = .ok (.ireturn, 1) := by decide +kernel
theorem d_Rs_stepBackByDelete_39 : decode c_Rs_stepBackByDelete 39 = .ok (.aload_n 0, 1) := by decide +kernel
theorem d_Rs_stepBackByDelete_40 : decode c_Rs_stepBackByDelete 40 = .ok (.iload 4, 2) := by decide +kernel
theorem d_Rs_stepBackByDelete_42 : decode c_Rs_stepBackByDelete 42 = .ok (.putfield 43, 3) := by decide +kernel
theorem d_Rs_stepBackByDelete_45 : decode c_Rs_stepBackByDelete 45 = .ok (.iconst 1, 1) := by decide +kernel
theorem d_Rs_stepBackByDelete_46 : decode c_Rs_stepBackByDelete 46 = .ok (.ireturn, 1) := by decide +kernel
theorem d_Rs_stepBack_0 : decode c_Rs_stepBack 0 = .ok (.aload_n 3, 1) := by decide +kernel
theorem d_Rs_stepBack_1 : decode c_Rs_stepBack 1 = .ok (.aload_n 0, 1) := by decide +kernel
theorem d_Rs_stepBack_2 : decode c_Rs_stepBack 2 = .ok (.getfield 34, 3) := by decide +kernel
theorem d_Rs_stepBack_5 : decode c_Rs_stepBack 5 = .ok (.aload_n 0, 1) := by decide +kernel
theorem d_Rs_stepBack_6 : decode c_Rs_stepBack 6 = .ok (.getfield 43, 3) := by decide +kernel
theorem d_Rs_stepBack_9 : decode c_Rs_stepBack 9 = .ok (.invokevirtual 46, 3) := by decide +kernel
theorem d_Rs_stepBack_12 : decode c_Rs_stepBack 12 = .ok (.istore 4, 2) := by decide +kernel
theorem d_Rs_stepBack_14 : decode c_Rs_stepBack 14 = .ok (.aload_n 0, 1) := by decide +kernel
theorem d_Rs_stepBack_15 : decode c_Rs_stepBack 15 = .ok (.getfield 34, 3) := by decide +kernel
theorem d_Rs_stepBack_18 : decode c_Rs_stepBack 18 = .ok (.ifCond .le 158, 3) := by decide +kernel
theorem d_Rs_stepBack_21 : decode c_Rs_stepBack 21 = .ok (.aload_n 2, 1) := by decide +kernel
theorem d_Rs_stepBack_22 : decode c_Rs_stepBack 22 = .ok (.aload_n 0, 1) := by decide +kernel
theorem d_Rs_stepBack_23 : decode c_Rs_stepBack 23 = .ok (.getfield 34, 3) := by decide +kernel
theorem d_Rs_stepBack_26 : decode c_Rs_stepBack 26 = .ok (.aload_n 1, 1) := by decide +kernel
theorem d_Rs_stepBack_27 : decode c_Rs_stepBack 27 = .ok (.getfield 65, 3) := by decide +kernel
theorem d_Rs_stepBack_30 : decode c_Rs_stepBack 30 = .ok (.aload_n 0, 1) := by decide +kernel
theorem d_Rs_stepBack_31 : decode c_Rs_stepBack 31 = .ok (.getfield 43, 3) := by decide +kernel
theorem d_Rs_stepBack_34 : decode c_Rs_stepBack 34 = .ok (.caload, 1) := by decide +kernel
theorem d_Rs_stepBack_35 : decode c_Rs_stepBack 35 = .ok (.invokevirtual 70, 3) := by decide +kernel
theorem d_Rs_stepBack_38 : decode c_Rs_stepBack 38 = .ok (.istore 5, 2) := by decide +kernel
theorem d_Rs_stepBack_40 : decode c_Rs_stepBack 40 = .ok (.iload 5, 2) := by decide +kernel
theorem d_Rs_stepBack_42 : decode c_Rs_stepBack 42 = .ok (.ifCond .ne 8, 3) := by decide +kernel
theorem d_Rs_stepBack_45 : decode c_Rs_stepBack 45 = .ok (.bipush 61, 2) := by decide +kernel
theorem d_Rs_stepBack_47 : decode c_Rs_stepBack 47 = .ok (.goto 5, 3) := by decide +kernel
theorem d_Rs_stepBack_50 : decode c_Rs_stepBack 50 = .ok (.bipush 88, 2) := by decide +kernel
theorem d_Rs_stepBack_52 : decode c_Rs_stepBack 52 = .ok (.istore 6, 2) := by decide +kernel
theorem d_Rs_stepBack_54 : decode c_Rs_stepBack 54 = .ok (.aload_n 0, 1) := by decide +kernel
theorem d_Rs_stepBack_55 : decode c_Rs_stepBack 55 = .ok (.getfield 34, 3) := by decide +kernel
theorem d_Rs_stepBack_58 : decode c_Rs_stepBack 58 = .ok (.iconst 1, 1) := by decide +kernel
theorem d_Rs_stepBack_59 : decode c_Rs_stepBack 59 = .ok (.isub, 1) := by decide +kernel
theorem d_Rs_stepBack_60 : decode c_Rs_stepBack 60 = .ok (.iload 5, 2) := by decide +kernel
theorem d_Rs_stepBack_62 : decode c_Rs_stepBack 62 = .ok (.iadd, 1) := by decide +kernel
theorem d_Rs_stepBack_63 : decode c_Rs_stepBack 63 = .ok (.iload 4, 2) := by decide +kernel
theorem d_Rs_stepBack_65 : decode c_Rs_stepBack 65 = .ok (.if_icmp .ne 21, 3) := by decide +kernel
theorem d_Rs_stepBack_68 : decode c_Rs_stepBack 68 = .ok (.aload_n 0, 1) := by decide +kernel
theorem d_Rs_stepBack_69 : decode c_Rs_stepBack 69 = .ok (.iload 6, 2) := by decide +kernel
theorem d_Rs_stepBack_71 : decode c_Rs_stepBack 71 = .ok (.invokevirtual 74, 3) := by decide +kernel
theorem d_Rs_stepBack_74 : decode c_Rs_stepBack 74 = .ok (.aload_n 0, 1) := by decide +kernel
theorem d_Rs_stepBack_75 : decode c_Rs_stepBack 75 = .ok (.aload_n 0, 1) := by decide +kernel
theorem d_Rs_stepBack_76 : decode c_Rs_stepBack 76 = .ok (.getfield 34, 3) := by decide +kernel
theorem d_Rs_stepBack_79 : decode c_Rs_stepBack 79 = .ok (.iconst 1, 1) := by decide +kernel
theorem d_Rs_stepBack_80 : decode c_Rs_stepBack 80 = .ok (.isub, 1) := by decide +kernel
theorem d_Rs_stepBack_81 : decode c_Rs_stepBack 81 = .ok (.invokevirtual 78, 3) := by decide +kernel
theorem d_Rs_stepBack_84 : decode c_Rs_stepBack 84 = .ok (.iconst 0, 1) := by decide +kernel
theorem d_Rs_stepBack_85 : decode c_Rs_stepBack 85 = .ok (.ireturn, 1) := by decide +kernel
theorem d_Rs_stepBack_86 : decode c_Rs_stepBack 86 = .ok (.aload_n 3, 1) := by decide +kernel
theorem d_Rs_stepBack_87 : decode c_Rs_stepBack 87 = .ok (.aload_n 1, 1) := by decide +kernel
theorem d_Rs_stepBack_88 : decode c_Rs_stepBack 88 = .ok (.aload_n 0, 1) := by decide +kernel
theorem d_Rs_stepBack_89 : decode c_Rs_stepBack 89 = .ok (.getfield 43, 3) := by decide +kernel
theorem d_Rs_stepBack_92 : decode c_Rs_stepBack 92 = .ok (.aload_n 0, 1) := by decide +kernel
theorem d_Rs_stepBack_93 : decode c_Rs_stepBack 93 = .ok (.getfield 34, 3) := by decide +kernel
theorem d_Rs_stepBack_96 : decode c_Rs_stepBack 96 = .ok (.iconst 1, 1) := by decide +kernel
theorem d_Rs_stepBack_97 : decode c_Rs_stepBack 97 = .ok (.isub, 1) := by decide +kernel
theorem d_Rs_stepBack_98 : decode c_Rs_stepBack 98 = .ok (.iload 4, 2) := by decide +kernel
theorem d_Rs_stepBack_100 : decode c_Rs_stepBack 100 = .ok (.iload 5, 2) := by decide +kernel
theorem d_Rs_stepBack_102 : decode c_Rs_stepBack 102 = .ok (.isub, 1) := by decide +kernel
theorem d_Rs_stepBack_103 : decode c_Rs_stepBack 103 = .ok (.invokevirtual 82, 3) := by decide +kernel
theorem d_Rs_stepBack_106 : decode c_Rs_stepBack 106 = .ok (.istore 7, 2) := by decide +kernel
theorem d_Rs_stepBack_108 : decode c_Rs_stepBack 108 = .ok (.iload 7, 2) := by decide +kernel
theorem d_Rs_stepBack_110 : decode c_Rs_stepBack 110 = .ok (.ifCond .lt 27, 3) := by decide +kernel
theorem d_Rs_stepBack_113 : decode c_Rs_stepBack 113 = .ok (.aload_n 0, 1) := by decide +kernel
theorem d_Rs_stepBack_114 : decode c_Rs_stepBack 114 = .ok (.iload 6, 2) := by decide +kernel
theorem d_Rs_stepBack_116 : decode c_Rs_stepBack 116 = .ok (.invokevirtual 74, 3) := by decide +kernel
theorem d_Rs_stepBack_119 : decode c_Rs_stepBack 119 = .ok (.aload_n 0, 1) := by decide +kernel
theorem d_Rs_stepBack_120 : decode c_Rs_stepBack 120 = .ok (.dup, 1) := by decide +kernel
theorem d_Rs_stepBack_121 : decode c_Rs_stepBack 121 = .ok (.getfield 34, 3) := by decide +kernel
theorem d_Rs_stepBack_124 : decode c_Rs_stepBack 124 = .ok (.iconst 1, 1) := by decide +kernel
theorem d_Rs_stepBack_125 : decode c_Rs_stepBack 125 = .ok (.isub, 1) := by decide +kernel
theorem d_Rs_stepBack_126 : decode c_Rs_stepBack 126 = .ok (.putfield 34, 3) := by decide +kernel
theorem d_Rs_stepBack_129 : decode c_Rs_stepBack 129 = .ok (.aload_n 0, 1) := by decide +kernel
theorem d_Rs_stepBack_130 : decode c_Rs_stepBack 130 = .ok (.iload 7, 2) := by decide +kernel
theorem d_Rs_stepBack_132 : decode c_Rs_stepBack 132 = .ok (.putfield 43, 3) := by decide +kernel
theorem d_Rs_stepBack_135 : decode c_Rs_stepBack 135 = .ok (.iconst 1, 1) := by decide +kernel
theorem d_Rs_stepBack_136 : decode c_Rs_stepBack 136 = .ok (.ireturn, 1) := by decide +kernel
theorem d_Rs_stepBack_137 : decode c_Rs_stepBack 137 = .ok (.aload_n 3, 1) := by decide +kernel
theorem d_Rs_stepBack_138 : decode c_Rs_stepBack 138 = .ok (.aload_n 0, 1) := by decide +kernel
theorem d_Rs_stepBack_139 : decode c_Rs_stepBack 139 = .ok (.getfield 34, 3) := by decide +kernel
theorem d_Rs_stepBack_142 : decode c_Rs_stepBack 142 = .ok (.iconst 1, 1) := by decide +kernel
theorem d_Rs_stepBack_143 : decode c_Rs_stepBack 143 = .ok (.isub, 1) := by decide +kernel
theorem d_Rs_stepBack_144 : decode c_Rs_stepBack 144 = .ok (.aload_n 0, 1) := by decide +kernel
theorem d_Rs_stepBack_145 : decode c_Rs_stepBack 145 = .ok (.getfield 43, 3) := by decide +kernel
theorem d_Rs_stepBack_148 : decode c_Rs_stepBack 148 = .ok (.invokevirtual 46, 3) := by decide +kernel
theorem d_Rs_stepBack_151 : decode c_Rs_stepBack 151 = .ok (.iconst 1, 1) := by decide +kernel
theorem d_Rs_stepBack_152 : decode c_Rs_stepBack 152 = .ok (.iadd, 1) := by decide +kernel
theorem d_Rs_stepBack_153 : decode c_Rs_stepBack 153 = .ok (.iload 4, 2) := by decide +kernel
theorem d_Rs_stepBack_155 : decode c_Rs_stepBack 155 = .ok (.if_icmp .ne 21, 3) := by decide +kernel
