theorem d_Te_put_0 : decode c_Te_put 0 = .ok (.iload_n 1, 1) := by decide +kernel
theorem d_Te_put_1 : decode c_Te_put 1 = .ok (.bipush 9, 2) := by decide +kernel
theorem d_Te_put_3 : decode c_Te_put 3 = .ok (.if_icmp .eq 21, 3) := by decide +kernel
theorem d_Te_put_6 : decode c_Te_put 6 = .ok (.iload_n 1, 1) := by decide +kernel
theorem d_Te_put_7 : decode c_Te_put 7 = .ok (.bipush 10, 2) := by decide +kernel
theorem d_Te_put_9 : decode c_Te_put 9 = .ok (.if_icmp .eq 15, 3) := by decide +kernel
theorem d_Te_put_12 : decode c_Te_put 12 = .ok (.iload_n 1, 1) := by decide +kernel
theorem d_Te_put_13 : decode c_Te_put 13 = .ok (.bipush 32, 2) := by decide +kernel
theorem d_Te_put_15 : decode c_Te_put 15 = .ok (.if_icmp .lt 13, 3) := by decide +kernel
theorem d_Te_put_18 : decode c_Te_put 18 = .ok (.iload_n 1, 1) := by decide +kernel
theorem d_Te_put_19 : decode c_Te_put 19 = .ok (.bipush 126, 2) := by decide +kernel
theorem d_Te_put_21 : decode c_Te_put 21 = .ok (.if_icmp .gt 7, 3) := by decide +kernel
theorem d_Te_put_24 : decode c_Te_put 24 = .ok (.iconst 1, 1) := by decide +kernel
theorem d_Te_put_25 : decode c_Te_put 25 = .ok (.goto 4, 3) := by decide +kernel
theorem d_Te_put_28 : decode c_Te_put 28 = .ok (.iconst 0, 1) := by decide +kernel
theorem d_Te_put_29 : decode c_Te_put 29 = .ok (.istore_n 2, 1) := by decide +kernel
theorem d_Te_put_30 : decode c_Te_put 30 = .ok (.iload_n 2, 1) := by decide +kernel
theorem d_Te_put_31 : decode c_Te_put 31 = .ok (.ifCond .eq 13, 3) := by decide +kernel
theorem d_Te_put_34 : decode c_Te_put 34 = .ok (.aload_n 0, 1) := by decide +kernel
theorem d_Te_put_35 : decode c_Te_put 35 = .ok (.getfield 15, 3) := by decide +kernel
theorem d_Te_put_38 : decode c_Te_put 38 = .ok (.sipush 400, 3) := by decide +kernel
theorem d_Te_put_41 : decode c_Te_put 41 = .ok (.if_icmp .lt 5, 3) := by decide +kernel
theorem d_Te_put_44 : decode c_Te_put 44 = .ok (.iconst 0, 1) := by decide +kernel
theorem d_Te_put_45 : decode c_Te_put 45 = .ok (.ireturn, 1) := by decide +kernel
theorem d_Te_put_46 : decode c_Te_put 46 = .ok (.aload_n 0, 1) := by decide +kernel
theorem d_Te_put_47 : decode c_Te_put 47 = .ok (.getfield 9, 3) := by decide +kernel
theorem d_Te_put_50 : decode c_Te_put 50 = .ok (.aload_n 0, 1) := by decide +kernel
theorem d_Te_put_51 : decode c_Te_put 51 = .ok (.getfield 15, 3) := by decide +kernel
theorem d_Te_put_54 : decode c_Te_put 54 = .ok (.iload_n 1, 1) := by decide +kernel
theorem d_Te_put_55 : decode c_Te_put 55 = .ok (.castore, 1) := by decide +kernel
theorem d_Te_put_56 : decode c_Te_put 56 = .ok (.aload_n 0, 1) := by decide +kernel
theorem d_Te_put_57 : decode c_Te_put 57 = .ok (.dup, 1) := by decide +kernel
theorem d_Te_put_58 : decode c_Te_put 58 = .ok (.getfield 15, 3) := by decide +kernel
theorem d_Te_put_61 : decode c_Te_put 61 = .ok (.iconst 1, 1) := by decide +kernel
theorem d_Te_put_62 : decode c_Te_put 62 = .ok (.iadd, 1) := by decide +kernel
theorem d_Te_put_63 : decode c_Te_put 63 = .ok (.putfield 15, 3) := by decide +kernel
theorem d_Te_put_66 : decode c_Te_put 66 = .ok (.iconst 1, 1) := by decide +kernel
theorem d_Te_put_67 : decode c_Te_put 67 = .ok (.ireturn, 1) := by decide +kernel
theorem d_X_type_0 : decode c_X_type 0 = .ok (.aload_n 0, 1) := by decide +kernel
theorem d_X_type_1 : decode c_X_type 1 = .ok (.getfield 12, 3) := by decide +kernel
theorem d_X_type_4 : decode c_X_type 4 = .ok (.iload_n 1, 1) := by decide +kernel
theorem d_X_type_5 : decode c_X_type 5 = .ok (.invokevirtual 54, 3) := by decide +kernel
theorem d_X_type_8 : decode c_X_type 8 = .ok (.ireturn, 1) := by decide +kernel
theorem d_X_clear_0 : decode c_X_clear 0 = .ok (.aload_n 0, 1) := by decide +kernel
theorem d_X_clear_1 : decode c_X_clear 1 = .ok (.getfield 12, 3) := by decide +kernel
theorem d_X_clear_4 : decode c_X_clear 4 = .ok (.iconst 0, 1) := by decide +kernel
theorem d_X_clear_5 : decode c_X_clear 5 = .ok (.putfield 58, 3) := by decide +kernel
theorem d_X_clear_8 : decode c_X_clear 8 = .ok (.return_, 1) := by decide +kernel
theorem d_Ar_fill_aII_0 : decode c_Ar_fill_aII 0 = .ok (.iconst 0, 1) := by decide +kernel
theorem d_Ar_fill_aII_1 : decode c_Ar_fill_aII 1 = .ok (.istore_n 2, 1) := by decide +kernel
theorem d_Ar_fill_aII_2 : decode c_Ar_fill_aII 2 = .ok (.aload_n 0, 1) := by decide +kernel
theorem d_Ar_fill_aII_3 : decode c_Ar_fill_aII 3 = .ok (.arraylength, 1) := by decide +kernel
theorem d_Ar_fill_aII_4 : decode c_Ar_fill_aII 4 = .ok (.istore_n 3, 1) := by decide +kernel
theorem d_Ar_fill_aII_5 : decode c_Ar_fill_aII 5 = .ok (.iload_n 2, 1) := by decide +kernel
theorem d_Ar_fill_aII_6 : decode c_Ar_fill_aII 6 = .ok (.iload_n 3, 1) := by decide +kernel
theorem d_Ar_fill_aII_7 : decode c_Ar_fill_aII 7 = .ok (.if_icmp .ge 13, 3) := by decide +kernel
theorem d_Ar_fill_aII_10 : decode c_Ar_fill_aII 10 = .ok (.aload_n 0, 1) := by decide +kernel
theorem d_Ar_fill_aII_11 : decode c_Ar_fill_aII 11 = .ok (.iload_n 2, 1) := by decide +kernel
theorem d_Ar_fill_aII_12 : decode c_Ar_fill_aII 12 = .ok (.iload_n 1, 1) := by decide +kernel
theorem d_Ar_fill_aII_13 : decode c_Ar_fill_aII 13 = .ok (.iastore, 1) := by decide +kernel
theorem d_Ar_fill_aII_14 : decode c_Ar_fill_aII 14 = .ok (.iinc 2 1, 3) := by decide +kernel
theorem d_Ar_fill_aII_17 : decode c_Ar_fill_aII 17 = .ok (.goto (-12), 3) := by decide +kernel
theorem d_Ar_fill_aII_20 : decode c_Ar_fill_aII 20 = .ok (.return_, 1) := by decide +kernel
theorem d_Gr_forget_0 : decode c_Gr_forget 0 = .ok (.aload_n 0, 1) := by decide +kernel
theorem d_Gr_forget_1 : decode c_Gr_forget 1 = .ok (.iconst 0, 1) := by decide +kernel
theorem d_Gr_forget_2 : decode c_Gr_forget 2 = .ok (.putfield 43, 3) := by decide +kernel
theorem d_Gr_forget_5 : decode c_Gr_forget 5 = .ok (.aload_n 0, 1) := by decide +kernel
theorem d_Gr_forget_6 : decode c_Gr_forget 6 = .ok (.iconst 0, 1) := by decide +kernel
theorem d_Gr_forget_7 : decode c_Gr_forget 7 = .ok (.putfield 47, 3) := by decide +kernel
theorem d_Gr_forget_10 : decode c_Gr_forget 10 = .ok (.aload_n 0, 1) := by decide +kernel
theorem d_Gr_forget_11 : decode c_Gr_forget 11 = .ok (.iconst 0, 1) := by decide +kernel
theorem d_Gr_forget_12 : decode c_Gr_forget 12 = .ok (.putfield 50, 3) := by decide +kernel
theorem d_Gr_forget_15 : decode c_Gr_forget 15 = .ok (.aload_n 0, 1) := by decide +kernel
theorem d_Gr_forget_16 : decode c_Gr_forget 16 = .ok (.iconst 0, 1) := by decide +kernel
theorem d_Gr_forget_17 : decode c_Gr_forget 17 = .ok (.putfield 53, 3) := by decide +kernel
theorem d_Gr_forget_20 : decode c_Gr_forget 20 = .ok (.aload_n 0, 1) := by decide +kernel
theorem d_Gr_forget_21 : decode c_Gr_forget 21 = .ok (.iconst 0, 1) := by decide +kernel
theorem d_Gr_forget_22 : decode c_Gr_forget 22 = .ok (.putfield 56, 3) := by decide +kernel
theorem d_Gr_forget_25 : decode c_Gr_forget 25 = .ok (.aload_n 0, 1) := by decide +kernel
theorem d_Gr_forget_26 : decode c_Gr_forget 26 = .ok (.getfield 25, 3) := by decide +kernel
theorem d_Gr_forget_29 : decode c_Gr_forget 29 = .ok (.iconst 0, 1) := by decide +kernel
theorem d_Gr_forget_30 : decode c_Gr_forget 30 = .ok (.invokestatic 59, 3) := by decide +kernel
theorem d_Gr_forget_33 : decode c_Gr_forget 33 = .ok (.return_, 1) := by decide +kernel
theorem d_Te_next_0 : decode c_Te_next 0 = .ok (.aload_n 0, 1) := by decide +kernel
theorem d_Te_next_1 : decode c_Te_next 1 = .ok (.getfield 19, 3) := by decide +kernel
theorem d_Te_next_4 : decode c_Te_next 4 = .ok (.aload_n 0, 1) := by decide +kernel
theorem d_Te_next_5 : decode c_Te_next 5 = .ok (.getfield 15, 3) := by decide +kernel
theorem d_Te_next_8 : decode c_Te_next 8 = .ok (.if_icmp .ge 15, 3) := by decide +kernel
theorem d_Te_next_11 : decode c_Te_next 11 = .ok (.aload_n 0, 1) := by decide +kernel
theorem d_Te_next_12 : decode c_Te_next 12 = .ok (.getfield 9, 3) := by decide +kernel
theorem d_Te_next_15 : decode c_Te_next 15 = .ok (.aload_n 0, 1) := by decide +kernel
theorem d_Te_next_16 : decode c_Te_next 16 = .ok (.getfield 19, 3) := by decide +kernel
theorem d_Te_next_19 : decode c_Te_next 19 = .ok (.caload, 1) := by decide +kernel
theorem d_Te_next_20 : decode c_Te_next 20 = .ok (.goto 4, 3) := by decide +kernel
theorem d_Te_next_23 : decode c_Te_next 23 = .ok (.iconst 0, 1) := by decide +kernel
theorem d_Te_next_24 : decode c_Te_next 24 = .ok (.ireturn, 1) := by decide +kernel
theorem d_Te_takes_0 : decode c_Te_takes 0 = .ok (.aload_n 0, 1) := by decide +kernel
theorem d_Te_takes_1 : decode c_Te_takes 1 = .ok (.invokevirtual 22, 3) := by decide +kernel
theorem d_Te_takes_4 : decode c_Te_takes 4 = .ok (.iload_n 1, 1) := by decide +kernel
theorem d_Te_takes_5 : decode c_Te_takes 5 = .ok (.if_icmp .eq 5, 3) := by decide +kernel
theorem d_Te_takes_8 : decode c_Te_takes 8 = .ok (.iconst 0, 1) := by decide +kernel
theorem d_Te_takes_9 : decode c_Te_takes 9 = .ok (.ireturn, 1) := by decide +kernel
theorem d_Te_takes_10 : decode c_Te_takes 10 = .ok (.aload_n 0, 1) := by decide +kernel
theorem d_Te_takes_11 : decode c_Te_takes 11 = .ok (.dup, 1) := by decide +kernel
theorem d_Te_takes_12 : decode c_Te_takes 12 = .ok (.getfield 19, 3) := by decide +kernel
theorem d_Te_takes_15 : decode c_Te_takes 15 = .ok (.iconst 1, 1) := by decide +kernel
theorem d_Te_takes_16 : decode c_Te_takes 16 = .ok (.iadd, 1) := by decide +kernel
theorem d_Te_takes_17 : decode c_Te_takes 17 = .ok (.putfield 19, 3) := by decide +kernel
theorem d_Te_takes_20 : decode c_Te_takes 20 = .ok (.iconst 1, 1) := by decide +kernel
theorem d_Te_takes_21 : decode c_Te_takes 21 = .ok (.ireturn, 1) := by decide +kernel
theorem d_Te_takesRestOfLine_0 : decode c_Te_takesRestOfLine 0 = .ok (.aload_n 0, 1) := by decide +kernel
theorem d_Te_takesRestOfLine_1 : decode c_Te_takesRestOfLine 1 = .ok (.getfield 19, 3) := by decide +kernel
theorem d_Te_takesRestOfLine_4 : decode c_Te_takesRestOfLine 4 = .ok (.aload_n 0, 1) := by decide +kernel
theorem d_Te_takesRestOfLine_5 : decode c_Te_takesRestOfLine 5 = .ok (.getfield 15, 3) := by decide +kernel
theorem d_Te_takesRestOfLine_8 : decode c_Te_takesRestOfLine 8 = .ok (.if_icmp .ge 30, 3) := by decide +kernel
theorem d_Te_takesRestOfLine_11 : decode c_Te_takesRestOfLine 11 = .ok (.aload_n 0, 1) := by decide +kernel
theorem d_Te_takesRestOfLine_12 : decode c_Te_takesRestOfLine 12 = .ok (.getfield 9, 3) := by decide +kernel
theorem d_Te_takesRestOfLine_15 : decode c_Te_takesRestOfLine 15 = .ok (.aload_n 0, 1) := by decide +kernel
theorem d_Te_takesRestOfLine_16 : decode c_Te_takesRestOfLine 16 = .ok (.getfield 19, 3) := by decide +kernel
theorem d_Te_takesRestOfLine_19 : decode c_Te_takesRestOfLine 19 = .ok (.caload, 1) := by decide +kernel
theorem d_Te_takesRestOfLine_20 : decode c_Te_takesRestOfLine 20 = .ok (.bipush 10, 2) := by decide +kernel
theorem d_Te_takesRestOfLine_22 : decode c_Te_takesRestOfLine 22 = .ok (.if_icmp .eq 16, 3) := by decide +kernel
theorem d_Te_takesRestOfLine_25 : decode c_Te_takesRestOfLine 25 = .ok (.aload_n 0, 1) := by decide +kernel
theorem d_Te_takesRestOfLine_26 : decode c_Te_takesRestOfLine 26 = .ok (.dup, 1) := by decide +kernel
theorem d_Te_takesRestOfLine_27 : decode c_Te_takesRestOfLine 27 = .ok (.getfield 19, 3) := by decide +kernel
theorem d_Te_takesRestOfLine_30 : decode c_Te_takesRestOfLine 30 = .ok (.iconst 1, 1) := by decide +kernel
theorem d_Te_takesRestOfLine_31 : decode c_Te_takesRestOfLine 31 = .ok (.iadd, 1) := by decide +kernel
theorem d_Te_takesRestOfLine_32 : decode c_Te_takesRestOfLine 32 = .ok (.putfield 19, 3) := by decide +kernel
theorem d_Te_takesRestOfLine_35 : decode c_Te_takesRestOfLine 35 = .ok (.goto (-35), 3) := by decide +kernel
theorem d_Te_takesRestOfLine_38 : decode c_Te_takesRestOfLine 38 = .ok (.aload_n 0, 1) := by decide +kernel
theorem d_Te_takesRestOfLine_39 : decode c_Te_takesRestOfLine 39 = .ok (.bipush 10, 2) := by decide +kernel
theorem d_Te_takesRestOfLine_41 : decode c_Te_takesRestOfLine 41 = .ok (.invokevirtual 26, 3) := by decide +kernel
theorem d_Te_takesRestOfLine_44 : decode c_Te_takesRestOfLine 44 = .ok (.ireturn, 1) := by decide +kernel
theorem d_X_isOfName_0 : decode c_X_isOfName 0 = .ok (.iload_n 0, 1) := by decide +kernel
theorem d_X_isOfName_1 : decode c_X_isOfName 1 = .ok (.bipush 97, 2) := by decide +kernel
theorem d_X_isOfName_3 : decode c_X_isOfName 3 = .ok (.if_icmp .lt 9, 3) := by decide +kernel
theorem d_X_isOfName_6 : decode c_X_isOfName 6 = .ok (.iload_n 0, 1) := by decide +kernel
theorem d_X_isOfName_7 : decode c_X_isOfName 7 = .ok (.bipush 122, 2) := by decide +kernel
theorem d_X_isOfName_9 : decode c_X_isOfName 9 = .ok (.if_icmp .le 15, 3) := by decide +kernel
theorem d_X_isOfName_12 : decode c_X_isOfName 12 = .ok (.iload_n 0, 1) := by decide +kernel
theorem d_X_isOfName_13 : decode c_X_isOfName 13 = .ok (.bipush 48, 2) := by decide +kernel
theorem d_X_isOfName_15 : decode c_X_isOfName 15 = .ok (.if_icmp .lt 13, 3) := by decide +kernel
theorem d_X_isOfName_18 : decode c_X_isOfName 18 = .ok (.iload_n 0, 1) := by decide +kernel
theorem d_X_isOfName_19 : decode c_X_isOfName 19 = .ok (.bipush 57, 2) := by decide +kernel
theorem d_X_isOfName_21 : decode c_X_isOfName 21 = .ok (.if_icmp .gt 7, 3) := by decide +kernel
theorem d_X_isOfName_24 : decode c_X_isOfName 24 = .ok (.iconst 1, 1) := by decide +kernel
theorem d_X_isOfName_25 : decode c_X_isOfName 25 = .ok (.goto 4, 3) := by decide +kernel
theorem d_X_isOfName_28 : decode c_X_isOfName 28 = .ok (.iconst 0, 1) := by decide +kernel
theorem d_X_isOfName_29 : decode c_X_isOfName 29 = .ok (.ireturn, 1) := by decide +kernel
theorem d_Te_takeName_0 : decode c_Te_takeName 0 = .ok (.iconst 0, 1) := by decide +kernel
theorem d_Te_takeName_1 : decode c_Te_takeName 1 = .ok (.istore_n 1, 1) := by decide +kernel
theorem d_Te_takeName_2 : decode c_Te_takeName 2 = .ok (.iconst 0, 1) := by decide +kernel
theorem d_Te_takeName_3 : decode c_Te_takeName 3 = .ok (.istore_n 2, 1) := by decide +kernel
theorem d_Te_takeName_4 : decode c_Te_takeName 4 = .ok (.iload_n 2, 1) := by decide +kernel
theorem d_Te_takeName_5 : decode c_Te_takeName 5 = .ok (.iconst 3, 1) := by decide +kernel
theorem d_Te_takeName_6 : decode c_Te_takeName 6 = .ok (.if_icmp .ge 40, 3) := by decide +kernel
theorem d_Te_takeName_9 : decode c_Te_takeName 9 = .ok (.aload_n 0, 1) := by decide +kernel
theorem d_Te_takeName_10 : decode c_Te_takeName 10 = .ok (.invokevirtual 22, 3) := by decide +kernel
theorem d_Te_takeName_13 : decode c_Te_takeName 13 = .ok (.invokestatic 30, 3) := by decide +kernel
theorem d_Te_takeName_16 : decode c_Te_takeName 16 = .ok (.ifCond .eq 30, 3) := by decide +kernel
theorem d_Te_takeName_19 : decode c_Te_takeName 19 = .ok (.iload_n 1, 1) := by decide +kernel
theorem d_Te_takeName_20 : decode c_Te_takeName 20 = .ok (.sipush 128, 3) := by decide +kernel
theorem d_Te_takeName_23 : decode c_Te_takeName 23 = .ok (.imul, 1) := by decide +kernel
theorem d_Te_takeName_24 : decode c_Te_takeName 24 = .ok (.aload_n 0, 1) := by decide +kernel
theorem d_Te_takeName_25 : decode c_Te_takeName 25 = .ok (.invokevirtual 22, 3) := by decide +kernel
theorem d_Te_takeName_28 : decode c_Te_takeName 28 = .ok (.iadd, 1) := by decide +kernel
theorem d_Te_takeName_29 : decode c_Te_takeName 29 = .ok (.istore_n 1, 1) := by decide +kernel
theorem d_Te_takeName_30 : decode c_Te_takeName 30 = .ok (.aload_n 0, 1) := by decide +kernel
theorem d_Te_takeName_31 : decode c_Te_takeName 31 = .ok (.dup, 1) := by decide +kernel
theorem d_Te_takeName_32 : decode c_Te_takeName 32 = .ok (.getfield 19, 3) := by decide +kernel
theorem d_Te_takeName_35 : decode c_Te_takeName 35 = .ok (.iconst 1, 1) := by decide +kernel
theorem d_Te_takeName_36 : decode c_Te_takeName 36 = .ok (.iadd, 1) := by decide +kernel
theorem d_Te_takeName_37 : decode c_Te_takeName 37 = .ok (.putfield 19, 3) := by decide +kernel
theorem d_Te_takeName_40 : decode c_Te_takeName 40 = .ok (.iinc 2 1, 3) := by decide +kernel
theorem d_Te_takeName_43 : decode c_Te_takeName 43 = .ok (.goto (-39), 3) := by decide +kernel
theorem d_Te_takeName_46 : decode c_Te_takeName 46 = .ok (.iload_n 1, 1) := by decide +kernel
theorem d_Te_takeName_47 : decode c_Te_takeName 47 = .ok (.ireturn, 1) := by decide +kernel
theorem d_X_isBase_0 : decode c_X_isBase 0 = .ok (.iload_n 0, 1) := by decide +kernel
theorem d_X_isBase_1 : decode c_X_isBase 1 = .ok (.bipush 65, 2) := by decide +kernel
theorem d_X_isBase_3 : decode c_X_isBase 3 = .ok (.if_icmp .eq 21, 3) := by decide +kernel
theorem d_X_isBase_6 : decode c_X_isBase 6 = .ok (.iload_n 0, 1) := by decide +kernel
theorem d_X_isBase_7 : decode c_X_isBase 7 = .ok (.bipush 67, 2) := by decide +kernel
theorem d_X_isBase_9 : decode c_X_isBase 9 = .ok (.if_icmp .eq 15, 3) := by decide +kernel
theorem d_X_isBase_12 : decode c_X_isBase 12 = .ok (.iload_n 0, 1) := by decide +kernel
theorem d_X_isBase_13 : decode c_X_isBase 13 = .ok (.bipush 71, 2) := by decide +kernel
theorem d_X_isBase_15 : decode c_X_isBase 15 = .ok (.if_icmp .eq 9, 3) := by decide +kernel
theorem d_X_isBase_18 : decode c_X_isBase 18 = .ok (.iload_n 0, 1) := by decide +kernel
theorem d_X_isBase_19 : decode c_X_isBase 19 = .ok (.bipush 84, 2) := by decide +kernel
theorem d_X_isBase_21 : decode c_X_isBase 21 = .ok (.if_icmp .ne 7, 3) := by decide +kernel
theorem d_X_isBase_24 : decode c_X_isBase 24 = .ok (.iconst 1, 1) := by decide +kernel
theorem d_X_isBase_25 : decode c_X_isBase 25 = .ok (.goto 4, 3) := by decide +kernel
theorem d_X_isBase_28 : decode c_X_isBase 28 = .ok (.iconst 0, 1) := by decide +kernel
theorem d_X_isBase_29 : decode c_X_isBase 29 = .ok (.ireturn, 1) := by decide +kernel
theorem d_Te_takeBases_0 : decode c_Te_takeBases 0 = .ok (.aload_n 0, 1) := by decide +kernel
theorem d_Te_takeBases_1 : decode c_Te_takeBases 1 = .ok (.getfield 19, 3) := by decide +kernel
theorem d_Te_takeBases_4 : decode c_Te_takeBases 4 = .ok (.istore_n 1, 1) := by decide +kernel
theorem d_Te_takeBases_5 : decode c_Te_takeBases 5 = .ok (.aload_n 0, 1) := by decide +kernel
theorem d_Te_takeBases_6 : decode c_Te_takeBases 6 = .ok (.getfield 19, 3) := by decide +kernel
theorem d_Te_takeBases_9 : decode c_Te_takeBases 9 = .ok (.aload_n 0, 1) := by decide +kernel
theorem d_Te_takeBases_10 : decode c_Te_takeBases 10 = .ok (.getfield 15, 3) := by decide +kernel
theorem d_Te_takeBases_13 : decode c_Te_takeBases 13 = .ok (.if_icmp .ge 31, 3) := by decide +kernel
theorem d_Te_takeBases_16 : decode c_Te_takeBases 16 = .ok (.aload_n 0, 1) := by decide +kernel
theorem d_Te_takeBases_17 : decode c_Te_takeBases 17 = .ok (.getfield 9, 3) := by decide +kernel
theorem d_Te_takeBases_20 : decode c_Te_takeBases 20 = .ok (.aload_n 0, 1) := by decide +kernel
theorem d_Te_takeBases_21 : decode c_Te_takeBases 21 = .ok (.getfield 19, 3) := by decide +kernel
theorem d_Te_takeBases_24 : decode c_Te_takeBases 24 = .ok (.caload, 1) := by decide +kernel
theorem d_Te_takeBases_25 : decode c_Te_takeBases 25 = .ok (.invokestatic 33, 3) := by decide +kernel
theorem d_Te_takeBases_28 : decode c_Te_takeBases 28 = .ok (.ifCond .eq 16, 3) := by decide +kernel
theorem d_Te_takeBases_31 : decode c_Te_takeBases 31 = .ok (.aload_n 0, 1) := by decide +kernel
theorem d_Te_takeBases_32 : decode c_Te_takeBases 32 = .ok (.dup, 1) := by decide +kernel
theorem d_Te_takeBases_33 : decode c_Te_takeBases 33 = .ok (.getfield 19, 3) := by decide +kernel
theorem d_Te_takeBases_36 : decode c_Te_takeBases 36 = .ok (.iconst 1, 1) := by decide +kernel
theorem d_Te_takeBases_37 : decode c_Te_takeBases 37 = .ok (.iadd, 1) := by decide +kernel
theorem d_Te_takeBases_38 : decode c_Te_takeBases 38 = .ok (.putfield 19, 3) := by decide +kernel
theorem d_Te_takeBases_41 : decode c_Te_takeBases 41 = .ok (.goto (-36), 3) := by decide +kernel
theorem d_Te_takeBases_44 : decode c_Te_takeBases 44 = .ok (.aload_n 0, 1) := by decide +kernel
theorem d_Te_takeBases_45 : decode c_Te_takeBases 45 = .ok (.getfield 19, 3) := by decide +kernel
theorem d_Te_takeBases_48 : decode c_Te_takeBases 48 = .ok (.iload_n 1, 1) := by decide +kernel
theorem d_Te_takeBases_49 : decode c_Te_takeBases 49 = .ok (.isub, 1) := by decide +kernel
theorem d_Te_takeBases_50 : decode c_Te_takeBases 50 = .ok (.ireturn, 1) := by decide +kernel
theorem d_Gr_positionOf_0 : decode c_Gr_positionOf 0 = .ok (.iconst 0, 1) := by decide +kernel
theorem d_Gr_positionOf_1 : decode c_Gr_positionOf 1 = .ok (.istore_n 3, 1) := by decide +kernel
theorem d_Gr_positionOf_2 : decode c_Gr_positionOf 2 = .ok (.iload_n 3, 1) := by decide +kernel
theorem d_Gr_positionOf_3 : decode c_Gr_positionOf 3 = .ok (.iload_n 2, 1) := by decide +kernel
theorem d_Gr_positionOf_4 : decode c_Gr_positionOf 4 = .ok (.if_icmp .ge 18, 3) := by decide +kernel
theorem d_Gr_positionOf_7 : decode c_Gr_positionOf 7 = .ok (.aload_n 1, 1) := by decide +kernel
theorem d_Gr_positionOf_8 : decode c_Gr_positionOf 8 = .ok (.iload_n 3, 1) := by decide +kernel
theorem d_Gr_positionOf_9 : decode c_Gr_positionOf 9 = .ok (.iaload, 1) := by decide +kernel
theorem d_Gr_positionOf_10 : decode c_Gr_positionOf 10 = .ok (.iload_n 0, 1) := by decide +kernel
theorem d_Gr_positionOf_11 : decode c_Gr_positionOf 11 = .ok (.if_icmp .ne 5, 3) := by decide +kernel
theorem d_Gr_positionOf_14 : decode c_Gr_positionOf 14 = .ok (.iload_n 3, 1) := by decide +kernel
theorem d_Gr_positionOf_15 : decode c_Gr_positionOf 15 = .ok (.ireturn, 1) := by decide +kernel
theorem d_Gr_positionOf_16 : decode c_Gr_positionOf 16 = .ok (.iinc 3 1, 3) := by decide +kernel
theorem d_Gr_positionOf_19 : decode c_Gr_positionOf 19 = .ok (.goto (-17), 3) := by decide +kernel
theorem d_Gr_positionOf_22 : decode c_Gr_positionOf 22 = .ok (.iconst (-1), 1) := by decide +kernel
theorem d_Gr_positionOf_23 : decode c_Gr_positionOf 23 = .ok (.ireturn, 1) := by decide +kernel
theorem d_Gr_segmentNamed_0 : decode c_Gr_segmentNamed 0 = .ok (.iload_n 1, 1) := by decide +kernel
theorem d_Gr_segmentNamed_1 : decode c_Gr_segmentNamed 1 = .ok (.aload_n 0, 1) := by decide +kernel
theorem d_Gr_segmentNamed_2 : decode c_Gr_segmentNamed 2 = .ok (.getfield 9, 3) := by decide +kernel
theorem d_Gr_segmentNamed_5 : decode c_Gr_segmentNamed 5 = .ok (.aload_n 0, 1) := by decide +kernel
theorem d_Gr_segmentNamed_6 : decode c_Gr_segmentNamed 6 = .ok (.getfield 43, 3) := by decide +kernel
theorem d_Gr_segmentNamed_9 : decode c_Gr_segmentNamed 9 = .ok (.invokestatic 65, 3) := by decide +kernel
theorem d_Gr_segmentNamed_12 : decode c_Gr_segmentNamed 12 = .ok (.ireturn, 1) := by decide +kernel
theorem d_Gr_addPlace_0 : decode c_Gr_addPlace 0 = .ok (.aload_n 0, 1) := by decide +kernel
theorem d_Gr_addPlace_1 : decode c_Gr_addPlace 1 = .ok (.getfield 18, 3) := by decide +kernel
theorem d_Gr_addPlace_4 : decode c_Gr_addPlace 4 = .ok (.aload_n 0, 1) := by decide +kernel
theorem d_Gr_addPlace_5 : decode c_Gr_addPlace 5 = .ok (.getfield 53, 3) := by decide +kernel
theorem d_Gr_addPlace_8 : decode c_Gr_addPlace 8 = .ok (.iload_n 1, 1) := by decide +kernel
theorem d_Gr_addPlace_9 : decode c_Gr_addPlace 9 = .ok (.castore, 1) := by decide +kernel
theorem d_Gr_addPlace_10 : decode c_Gr_addPlace 10 = .ok (.aload_n 0, 1) := by decide +kernel
theorem d_Gr_addPlace_11 : decode c_Gr_addPlace 11 = .ok (.getfield 22, 3) := by decide +kernel
theorem d_Gr_addPlace_14 : decode c_Gr_addPlace 14 = .ok (.aload_n 0, 1) := by decide +kernel
theorem d_Gr_addPlace_15 : decode c_Gr_addPlace 15 = .ok (.getfield 53, 3) := by decide +kernel
theorem d_Gr_addPlace_18 : decode c_Gr_addPlace 18 = .ok (.iload_n 2, 1) := by decide +kernel
theorem d_Gr_addPlace_19 : decode c_Gr_addPlace 19 = .ok (.iastore, 1) := by decide +kernel
theorem d_Gr_addPlace_20 : decode c_Gr_addPlace 20 = .ok (.aload_n 0, 1) := by decide +kernel
theorem d_Gr_addPlace_21 : decode c_Gr_addPlace 21 = .ok (.dup, 1) := by decide +kernel
theorem d_Gr_addPlace_22 : decode c_Gr_addPlace 22 = .ok (.getfield 53, 3) := by decide +kernel
theorem d_Gr_addPlace_25 : decode c_Gr_addPlace 25 = .ok (.iconst 1, 1) := by decide +kernel
theorem d_Gr_addPlace_26 : decode c_Gr_addPlace 26 = .ok (.iadd, 1) := by decide +kernel
theorem d_Gr_addPlace_27 : decode c_Gr_addPlace 27 = .ok (.putfield 53, 3) := by decide +kernel
theorem d_Gr_addPlace_30 : decode c_Gr_addPlace 30 = .ok (.return_, 1) := by decide +kernel
theorem d_X_turned_0 : decode c_X_turned 0 = .ok (.iload_n 0, 1) := by decide +kernel
theorem d_X_turned_1 : decode c_X_turned 1 = .ok (.iconst 1, 1) := by decide +kernel
theorem d_X_turned_2 : decode c_X_turned 2 = .ok (.ixor, 1) := by decide +kernel
theorem d_X_turned_3 : decode c_X_turned 3 = .ok (.ireturn, 1) := by decide +kernel
theorem d_X_partner_0 : decode c_X_partner 0 = .ok (.iload_n 0, 1) := by decide +kernel
theorem d_X_partner_1 : decode c_X_partner 1 = .ok (.lookupswitch 44 #[(65, 35), (67, 38), (71, 41)], 35) := by decide +kernel
theorem d_X_partner_36 : decode c_X_partner 36 = .ok (.bipush 84, 2) := by decide +kernel
theorem d_X_partner_38 : decode c_X_partner 38 = .ok (.ireturn, 1) := by decide +kernel
theorem d_X_partner_39 : decode c_X_partner 39 = .ok (.bipush 71, 2) := by decide +kernel
theorem d_X_partner_41 : decode c_X_partner 41 = .ok (.ireturn, 1) := by decide +kernel
theorem d_X_partner_42 : decode c_X_partner 42 = .ok (.bipush 67, 2) := by decide +kernel
theorem d_X_partner_44 : decode c_X_partner 44 = .ok (.ireturn, 1) := by decide +kernel
theorem d_X_partner_45 : decode c_X_partner 45 = .ok (.bipush 65, 2) := by decide +kernel
theorem d_X_partner_47 : decode c_X_partner 47 = .ok (.ireturn, 1) := by decide +kernel
theorem d_Gr_addSegment_0 : decode c_Gr_addSegment 0 = .ok (.aload_n 0, 1) := by decide +kernel
theorem d_Gr_addSegment_1 : decode c_Gr_addSegment 1 = .ok (.getfield 43, 3) := by decide +kernel
theorem d_Gr_addSegment_4 : decode c_Gr_addSegment 4 = .ok (.bipush 8, 2) := by decide +kernel
theorem d_Gr_addSegment_6 : decode c_Gr_addSegment 6 = .ok (.if_icmp .ge 19, 3) := by decide +kernel
theorem d_Gr_addSegment_9 : decode c_Gr_addSegment 9 = .ok (.iload 4, 2) := by decide +kernel
theorem d_Gr_addSegment_11 : decode c_Gr_addSegment 11 = .ok (.iconst 1, 1) := by decide +kernel
theorem d_Gr_addSegment_12 : decode c_Gr_addSegment 12 = .ok (.if_icmp .lt 13, 3) := by decide +kernel
theorem d_Gr_addSegment_15 : decode c_Gr_addSegment 15 = .ok (.iload 4, 2) := by decide +kernel
theorem d_Gr_addSegment_17 : decode c_Gr_addSegment 17 = .ok (.iconst 4, 1) := by decide +kernel
theorem d_Gr_addSegment_18 : decode c_Gr_addSegment 18 = .ok (.if_icmp .gt 7, 3) := by decide +kernel
theorem d_Gr_addSegment_21 : decode c_Gr_addSegment 21 = .ok (.iconst 1, 1) := by decide +kernel
theorem d_Gr_addSegment_22 : decode c_Gr_addSegment 22 = .ok (.goto 4, 3) := by decide +kernel
theorem d_Gr_addSegment_25 : decode c_Gr_addSegment 25 = .ok (.iconst 0, 1) := by decide +kernel
theorem d_Gr_addSegment_26 : decode c_Gr_addSegment 26 = .ok (.istore 5, 2) := by decide +kernel
theorem d_Gr_addSegment_28 : decode c_Gr_addSegment 28 = .ok (.iload 5, 2) := by decide +kernel
theorem d_Gr_addSegment_30 : decode c_Gr_addSegment 30 = .ok (.ifCond .eq 11, 3) := by decide +kernel
theorem d_Gr_addSegment_33 : decode c_Gr_addSegment 33 = .ok (.aload_n 0, 1) := by decide +kernel
theorem d_Gr_addSegment_34 : decode c_Gr_addSegment 34 = .ok (.iload_n 1, 1) := by decide +kernel
theorem d_Gr_addSegment_35 : decode c_Gr_addSegment 35 = .ok (.invokevirtual 69, 3) := by decide +kernel
theorem d_Gr_addSegment_38 : decode c_Gr_addSegment 38 = .ok (.ifCond .lt 5, 3) := by decide +kernel
theorem d_Gr_addSegment_41 : decode c_Gr_addSegment 41 = .ok (.iconst 0, 1) := by decide +kernel
theorem d_Gr_addSegment_42 : decode c_Gr_addSegment 42 = .ok (.ireturn, 1) := by decide +kernel
theorem d_Gr_addSegment_43 : decode c_Gr_addSegment 43 = .ok (.iconst 2, 1) := by decide +kernel
theorem d_Gr_addSegment_44 : decode c_Gr_addSegment 44 = .ok (.aload_n 0, 1) := by decide +kernel
theorem d_Gr_addSegment_45 : decode c_Gr_addSegment 45 = .ok (.getfield 43, 3) := by decide +kernel
theorem d_Gr_addSegment_48 : decode c_Gr_addSegment 48 = .ok (.imul, 1) := by decide +kernel
theorem d_Gr_addSegment_49 : decode c_Gr_addSegment 49 = .ok (.istore 6, 2) := by decide +kernel
theorem d_Gr_addSegment_51 : decode c_Gr_addSegment 51 = .ok (.aload_n 0, 1) := by decide +kernel
theorem d_Gr_addSegment_52 : decode c_Gr_addSegment 52 = .ok (.getfield 9, 3) := by decide +kernel
theorem d_Gr_addSegment_55 : decode c_Gr_addSegment 55 = .ok (.aload_n 0, 1) := by decide +kernel
theorem d_Gr_addSegment_56 : decode c_Gr_addSegment 56 = .ok (.getfield 43, 3) := by decide +kernel
theorem d_Gr_addSegment_59 : decode c_Gr_addSegment 59 = .ok (.iload_n 1, 1) := by decide +kernel
theorem d_Gr_addSegment_60 : decode c_Gr_addSegment 60 = .ok (.iastore, 1) := by decide +kernel
theorem d_Gr_addSegment_61 : decode c_Gr_addSegment 61 = .ok (.aload_n 0, 1) := by decide +kernel
theorem d_Gr_addSegment_62 : decode c_Gr_addSegment 62 = .ok (.dup, 1) := by decide +kernel
theorem d_Gr_addSegment_63 : decode c_Gr_addSegment 63 = .ok (.getfield 43, 3) := by decide +kernel
theorem d_Gr_addSegment_66 : decode c_Gr_addSegment 66 = .ok (.iconst 1, 1) := by decide +kernel
theorem d_Gr_addSegment_67 : decode c_Gr_addSegment 67 = .ok (.iadd, 1) := by decide +kernel
theorem d_Gr_addSegment_68 : decode c_Gr_addSegment 68 = .ok (.putfield 43, 3) := by decide +kernel
theorem d_Gr_addSegment_71 : decode c_Gr_addSegment 71 = .ok (.aload_n 0, 1) := by decide +kernel
theorem d_Gr_addSegment_72 : decode c_Gr_addSegment 72 = .ok (.getfield 15, 3) := by decide +kernel
theorem d_Gr_addSegment_75 : decode c_Gr_addSegment 75 = .ok (.iload 6, 2) := by decide +kernel
theorem d_Gr_addSegment_77 : decode c_Gr_addSegment 77 = .ok (.aload_n 0, 1) := by decide +kernel
theorem d_Gr_addSegment_78 : decode c_Gr_addSegment 78 = .ok (.getfield 53, 3) := by decide +kernel
theorem d_Gr_addSegment_81 : decode c_Gr_addSegment 81 = .ok (.iastore, 1) := by decide +kernel
theorem d_Gr_addSegment_82 : decode c_Gr_addSegment 82 = .ok (.iconst 0, 1) := by decide +kernel
theorem d_Gr_addSegment_83 : decode c_Gr_addSegment 83 = .ok (.istore 7, 2) := by decide +kernel
theorem d_Gr_addSegment_85 : decode c_Gr_addSegment 85 = .ok (.iload 7, 2) := by decide +kernel
theorem d_Gr_addSegment_87 : decode c_Gr_addSegment 87 = .ok (.iload 4, 2) := by decide +kernel
theorem d_Gr_addSegment_89 : decode c_Gr_addSegment 89 = .ok (.if_icmp .ge 21, 3) := by decide +kernel
theorem d_Gr_addSegment_92 : decode c_Gr_addSegment 92 = .ok (.aload_n 0, 1) := by decide +kernel
theorem d_Gr_addSegment_93 : decode c_Gr_addSegment 93 = .ok (.aload_n 2, 1) := by decide +kernel
theorem d_Gr_addSegment_94 : decode c_Gr_addSegment 94 = .ok (.iload_n 3, 1) := by decide +kernel
theorem d_Gr_addSegment_95 : decode c_Gr_addSegment 95 = .ok (.iload 7, 2) := by decide +kernel
theorem d_Gr_addSegment_97 : decode c_Gr_addSegment 97 = .ok (.iadd, 1) := by decide +kernel
theorem d_Gr_addSegment_98 : decode c_Gr_addSegment 98 = .ok (.caload, 1) := by decide +kernel
theorem d_Gr_addSegment_99 : decode c_Gr_addSegment 99 = .ok (.iload 6, 2) := by decide +kernel
theorem d_Gr_addSegment_101 : decode c_Gr_addSegment 101 = .ok (.invokevirtual 73, 3) := by decide +kernel
theorem d_Gr_addSegment_104 : decode c_Gr_addSegment 104 = .ok (.iinc 7 1, 3) := by decide +kernel
theorem d_Gr_addSegment_107 : decode c_Gr_addSegment 107 = .ok (.goto (-22), 3) := by decide +kernel
theorem d_Gr_addSegment_110 : decode c_Gr_addSegment 110 = .ok (.aload_n 0, 1) := by decide +kernel
theorem d_Gr_addSegment_111 : decode c_Gr_addSegment 111 = .ok (.getfield 15, 3) := by decide +kernel
theorem d_Gr_addSegment_114 : decode c_Gr_addSegment 114 = .ok (.iload 6, 2) := by decide +kernel
theorem d_Gr_addSegment_116 : decode c_Gr_addSegment 116 = .ok (.invokestatic 77, 3) := by decide +kernel
theorem d_Gr_addSegment_119 : decode c_Gr_addSegment 119 = .ok (.aload_n 0, 1) := by decide +kernel
theorem d_Gr_addSegment_120 : decode c_Gr_addSegment 120 = .ok (.getfield 53, 3) := by decide +kernel
theorem d_Gr_addSegment_123 : decode c_Gr_addSegment 123 = .ok (.iastore, 1) := by decide +kernel
theorem d_Gr_addSegment_124 : decode c_Gr_addSegment 124 = .ok (.iload 4, 2) := by decide +kernel
theorem d_Gr_addSegment_126 : decode c_Gr_addSegment 126 = .ok (.iconst 1, 1) := by decide +kernel
theorem d_Gr_addSegment_127 : decode c_Gr_addSegment 127 = .ok (.isub, 1) := by decide +kernel
theorem d_Gr_addSegment_128 : decode c_Gr_addSegment 128 = .ok (.istore 7, 2) := by decide +kernel
theorem d_Gr_addSegment_130 : decode c_Gr_addSegment 130 = .ok (.iload 7, 2) := by decide +kernel
theorem d_Gr_addSegment_132 : decode c_Gr_addSegment 132 = .ok (.ifCond .lt 27, 3) := by decide +kernel
theorem d_Gr_addSegment_135 : decode c_Gr_addSegment 135 = .ok (.aload_n 0, 1) := by decide +kernel
theorem d_Gr_addSegment_136 : decode c_Gr_addSegment 136 = .ok (.aload_n 2, 1) := by decide +kernel
theorem d_Gr_addSegment_137 : decode c_Gr_addSegment 137 = .ok (.iload_n 3, 1) := by decide +kernel
theorem d_Gr_addSegment_138 : decode c_Gr_addSegment 138 = .ok (.iload 7, 2) := by decide +kernel
theorem d_Gr_addSegment_140 : decode c_Gr_addSegment 140 = .ok (.iadd, 1) := by decide +kernel
theorem d_Gr_addSegment_141 : decode c_Gr_addSegment 141 = .ok (.caload, 1) := by decide +kernel
theorem d_Gr_addSegment_142 : decode c_Gr_addSegment 142 = .ok (.invokestatic 80, 3) := by decide +kernel
theorem d_Gr_addSegment_145 : decode c_Gr_addSegment 145 = .ok (.iload 6, 2) := by decide +kernel
theorem d_Gr_addSegment_147 : decode c_Gr_addSegment 147 = .ok (.invokestatic 77, 3) := by decide +kernel
theorem d_Gr_addSegment_150 : decode c_Gr_addSegment 150 = .ok (.invokevirtual 73, 3) := by decide +kernel
theorem d_Gr_addSegment_153 : decode c_Gr_addSegment 153 = .ok (.iinc 7 (-1), 3) := by decide +kernel
theorem d_Gr_addSegment_156 : decode c_Gr_addSegment 156 = .ok (.goto (-26), 3) := by decide +kernel
theorem d_Gr_addSegment_159 : decode c_Gr_addSegment 159 = .ok (.iconst 1, 1) := by decide +kernel
theorem d_Gr_addSegment_160 : decode c_Gr_addSegment 160 = .ok (.ireturn, 1) := by decide +kernel
theorem d_X_takeSegment_0 : decode c_X_takeSegment 0 = .ok (.aload_n 0, 1) := by decide +kernel
theorem d_X_takeSegment_1 : decode c_X_takeSegment 1 = .ok (.bipush 9, 2) := by decide +kernel
theorem d_X_takeSegment_3 : decode c_X_takeSegment 3 = .ok (.invokevirtual 176, 3) := by decide +kernel
theorem d_X_takeSegment_6 : decode c_X_takeSegment 6 = .ok (.ifCond .ne 5, 3) := by decide +kernel
theorem d_X_takeSegment_9 : decode c_X_takeSegment 9 = .ok (.iconst 0, 1) := by decide +kernel
theorem d_X_takeSegment_10 : decode c_X_takeSegment 10 = .ok (.ireturn, 1) := by decide +kernel
theorem d_X_takeSegment_11 : decode c_X_takeSegment 11 = .ok (.aload_n 0, 1) := by decide +kernel
theorem d_X_takeSegment_12 : decode c_X_takeSegment 12 = .ok (.invokevirtual 192, 3) := by decide +kernel
theorem d_X_takeSegment_15 : decode c_X_takeSegment 15 = .ok (.istore_n 2, 1) := by decide +kernel
theorem d_X_takeSegment_16 : decode c_X_takeSegment 16 = .ok (.iload_n 2, 1) := by decide +kernel
theorem d_X_takeSegment_17 : decode c_X_takeSegment 17 = .ok (.ifCond .eq 12, 3) := by decide +kernel
theorem d_X_takeSegment_20 : decode c_X_takeSegment 20 = .ok (.aload_n 0, 1) := by decide +kernel
theorem d_X_takeSegment_21 : decode c_X_takeSegment 21 = .ok (.bipush 9, 2) := by decide +kernel
theorem d_X_takeSegment_23 : decode c_X_takeSegment 23 = .ok (.invokevirtual 176, 3) := by decide +kernel
theorem d_X_takeSegment_26 : decode c_X_takeSegment 26 = .ok (.ifCond .ne 5, 3) := by decide +kernel
theorem d_X_takeSegment_29 : decode c_X_takeSegment 29 = .ok (.iconst 0, 1) := by decide +kernel
theorem d_X_takeSegment_30 : decode c_X_takeSegment 30 = .ok (.ireturn, 1) := by decide +kernel
theorem d_X_takeSegment_31 : decode c_X_takeSegment 31 = .ok (.aload_n 0, 1) := by decide +kernel
theorem d_X_takeSegment_32 : decode c_X_takeSegment 32 = .ok (.getfield 170, 3) := by decide +kernel
theorem d_X_takeSegment_35 : decode c_X_takeSegment 35 = .ok (.istore_n 3, 1) := by decide +kernel
theorem d_X_takeSegment_36 : decode c_X_takeSegment 36 = .ok (.aload_n 0, 1) := by decide +kernel
theorem d_X_takeSegment_37 : decode c_X_takeSegment 37 = .ok (.invokevirtual 195, 3) := by decide +kernel
theorem d_X_takeSegment_40 : decode c_X_takeSegment 40 = .ok (.istore 4, 2) := by decide +kernel
theorem d_X_takeSegment_42 : decode c_X_takeSegment 42 = .ok (.aload_n 0, 1) := by decide +kernel
theorem d_X_takeSegment_43 : decode c_X_takeSegment 43 = .ok (.bipush 10, 2) := by decide +kernel
theorem d_X_takeSegment_45 : decode c_X_takeSegment 45 = .ok (.invokevirtual 176, 3) := by decide +kernel
theorem d_X_takeSegment_48 : decode c_X_takeSegment 48 = .ok (.ifCond .eq 22, 3) := by decide +kernel
theorem d_X_takeSegment_51 : decode c_X_takeSegment 51 = .ok (.aload_n 1, 1) := by decide +kernel
theorem d_X_takeSegment_52 : decode c_X_takeSegment 52 = .ok (.iload_n 2, 1) := by decide +kernel
theorem d_X_takeSegment_53 : decode c_X_takeSegment 53 = .ok (.aload_n 0, 1) := by decide +kernel
theorem d_X_takeSegment_54 : decode c_X_takeSegment 54 = .ok (.getfield 198, 3) := by decide +kernel
theorem d_X_takeSegment_57 : decode c_X_takeSegment 57 = .ok (.iload_n 3, 1) := by decide +kernel
theorem d_X_takeSegment_58 : decode c_X_takeSegment 58 = .ok (.iload 4, 2) := by decide +kernel
theorem d_X_takeSegment_60 : decode c_X_takeSegment 60 = .ok (.invokevirtual 201, 3) := by decide +kernel
theorem d_X_takeSegment_63 : decode c_X_takeSegment 63 = .ok (.ifCond .eq 7, 3) := by decide +kernel
theorem d_X_takeSegment_66 : decode c_X_takeSegment 66 = .ok (.iconst 1, 1) := by decide +kernel
theorem d_X_takeSegment_67 : decode c_X_takeSegment 67 = .ok (.goto 4, 3) := by decide +kernel
theorem d_X_takeSegment_70 : decode c_X_takeSegment 70 = .ok (.iconst 0, 1) := by decide +kernel
theorem d_X_takeSegment_71 : decode c_X_takeSegment 71 = .ok (.ireturn, 1) := by decide +kernel
theorem d_X_takeSide_0 : decode c_X_takeSide 0 = .ok (.aload_n 1, 1) := by decide +kernel
theorem d_X_takeSide_1 : decode c_X_takeSide 1 = .ok (.aload_n 0, 1) := by decide +kernel
theorem d_X_takeSide_2 : decode c_X_takeSide 2 = .ok (.invokevirtual 192, 3) := by decide +kernel
theorem d_X_takeSide_5 : decode c_X_takeSide 5 = .ok (.invokevirtual 218, 3) := by decide +kernel
theorem d_X_takeSide_8 : decode c_X_takeSide 8 = .ok (.istore_n 3, 1) := by decide +kernel
theorem d_X_takeSide_9 : decode c_X_takeSide 9 = .ok (.iload_n 3, 1) := by decide +kernel
theorem d_X_takeSide_10 : decode c_X_takeSide 10 = .ok (.ifCond .lt 16, 3) := by decide +kernel
theorem d_X_takeSide_13 : decode c_X_takeSide 13 = .ok (.iload_n 2, 1) := by decide +kernel
theorem d_X_takeSide_14 : decode c_X_takeSide 14 = .ok (.ifCond .eq 14, 3) := by decide +kernel
theorem d_X_takeSide_17 : decode c_X_takeSide 17 = .ok (.aload_n 0, 1) := by decide +kernel
theorem d_X_takeSide_18 : decode c_X_takeSide 18 = .ok (.bipush 9, 2) := by decide +kernel
theorem d_X_takeSide_20 : decode c_X_takeSide 20 = .ok (.invokevirtual 176, 3) := by decide +kernel
theorem d_X_takeSide_23 : decode c_X_takeSide 23 = .ok (.ifCond .ne 5, 3) := by decide +kernel
theorem d_X_takeSide_26 : decode c_X_takeSide 26 = .ok (.iconst (-1), 1) := by decide +kernel
theorem d_X_takeSide_27 : decode c_X_takeSide 27 = .ok (.ireturn, 1) := by decide +kernel
theorem d_X_takeSide_28 : decode c_X_takeSide 28 = .ok (.aload_n 0, 1) := by decide +kernel
theorem d_X_takeSide_29 : decode c_X_takeSide 29 = .ok (.bipush 43, 2) := by decide +kernel
theorem d_X_takeSide_31 : decode c_X_takeSide 31 = .ok (.invokevirtual 176, 3) := by decide +kernel
theorem d_X_takeSide_34 : decode c_X_takeSide 34 = .ok (.ifCond .eq 7, 3) := by decide +kernel
theorem d_X_takeSide_37 : decode c_X_takeSide 37 = .ok (.iconst 2, 1) := by decide +kernel
theorem d_X_takeSide_38 : decode c_X_takeSide 38 = .ok (.iload_n 3, 1) := by decide +kernel
theorem d_X_takeSide_39 : decode c_X_takeSide 39 = .ok (.imul, 1) := by decide +kernel
theorem d_X_takeSide_40 : decode c_X_takeSide 40 = .ok (.ireturn, 1) := by decide +kernel
theorem d_X_takeSide_41 : decode c_X_takeSide 41 = .ok (.aload_n 0, 1) := by decide +kernel
theorem d_X_takeSide_42 : decode c_X_takeSide 42 = .ok (.bipush 45, 2) := by decide +kernel
theorem d_X_takeSide_44 : decode c_X_takeSide 44 = .ok (.invokevirtual 176, 3) := by decide +kernel
theorem d_X_takeSide_47 : decode c_X_takeSide 47 = .ok (.ifCond .eq 12, 3) := by decide +kernel
theorem d_X_takeSide_50 : decode c_X_takeSide 50 = .ok (.iconst 2, 1) := by decide +kernel
theorem d_X_takeSide_51 : decode c_X_takeSide 51 = .ok (.iload_n 3, 1) := by decide +kernel
theorem d_X_takeSide_52 : decode c_X_takeSide 52 = .ok (.imul, 1) := by decide +kernel
theorem d_X_takeSide_53 : decode c_X_takeSide 53 = .ok (.invokestatic 221, 3) := by decide +kernel
theorem d_X_takeSide_56 : decode c_X_takeSide 56 = .ok (.goto 4, 3) := by decide +kernel
theorem d_X_takeSide_59 : decode c_X_takeSide 59 = .ok (.iconst (-1), 1) := by decide +kernel
theorem d_X_takeSide_60 : decode c_X_takeSide 60 = .ok (.ireturn, 1) := by decide +kernel
theorem d_Gr_mayFollow_0 : decode c_Gr_mayFollow 0 = .ok (.aload_n 0, 1) := by decide +kernel
theorem d_Gr_mayFollow_1 : decode c_Gr_mayFollow 1 = .ok (.getfield 25, 3) := by decide +kernel
theorem d_Gr_mayFollow_4 : decode c_Gr_mayFollow 4 = .ok (.iload_n 1, 1) := by decide +kernel
theorem d_Gr_mayFollow_5 : decode c_Gr_mayFollow 5 = .ok (.iaload, 1) := by decide +kernel
theorem d_Gr_mayFollow_6 : decode c_Gr_mayFollow 6 = .ok (.iload_n 2, 1) := by decide +kernel
theorem d_Gr_mayFollow_7 : decode c_Gr_mayFollow 7 = .ok (.ishr, 1) := by decide +kernel
theorem d_Gr_mayFollow_8 : decode c_Gr_mayFollow 8 = .ok (.iconst 1, 1) := by decide +kernel
theorem d_Gr_mayFollow_9 : decode c_Gr_mayFollow 9 = .ok (.iand, 1) := by decide +kernel
theorem d_Gr_mayFollow_10 : decode c_Gr_mayFollow 10 = .ok (.ifCond .eq 7, 3) := by decide +kernel
theorem d_Gr_mayFollow_13 : decode c_Gr_mayFollow 13 = .ok (.iconst 1, 1) := by decide +kernel
theorem d_Gr_mayFollow_14 : decode c_Gr_mayFollow 14 = .ok (.goto 4, 3) := by decide +kernel
theorem d_Gr_mayFollow_17 : decode c_Gr_mayFollow 17 = .ok (.iconst 0, 1) := by decide +kernel
theorem d_Gr_mayFollow_18 : decode c_Gr_mayFollow 18 = .ok (.ireturn, 1) := by decide +kernel
theorem d_Gr_addLink_0 : decode c_Gr_addLink 0 = .ok (.aload_n 0, 1) := by decide +kernel
theorem d_Gr_addLink_1 : decode c_Gr_addLink 1 = .ok (.getfield 47, 3) := by decide +kernel
theorem d_Gr_addLink_4 : decode c_Gr_addLink 4 = .ok (.bipush 12, 2) := by decide +kernel
theorem d_Gr_addLink_6 : decode c_Gr_addLink 6 = .ok (.if_icmp .ge 12, 3) := by decide +kernel
theorem d_Gr_addLink_9 : decode c_Gr_addLink 9 = .ok (.aload_n 0, 1) := by decide +kernel
theorem d_Gr_addLink_10 : decode c_Gr_addLink 10 = .ok (.iload_n 1, 1) := by decide +kernel
theorem d_Gr_addLink_11 : decode c_Gr_addLink 11 = .ok (.iload_n 2, 1) := by decide +kernel
theorem d_Gr_addLink_12 : decode c_Gr_addLink 12 = .ok (.invokevirtual 84, 3) := by decide +kernel
theorem d_Gr_addLink_15 : decode c_Gr_addLink 15 = .ok (.ifCond .eq 5, 3) := by decide +kernel
theorem d_Gr_addLink_18 : decode c_Gr_addLink 18 = .ok (.iconst 0, 1) := by decide +kernel
theorem d_Gr_addLink_19 : decode c_Gr_addLink 19 = .ok (.ireturn, 1) := by decide +kernel
theorem d_Gr_addLink_20 : decode c_Gr_addLink 20 = .ok (.aload_n 0, 1) := by decide +kernel
theorem d_Gr_addLink_21 : decode c_Gr_addLink 21 = .ok (.dup, 1) := by decide +kernel
theorem d_Gr_addLink_22 : decode c_Gr_addLink 22 = .ok (.getfield 47, 3) := by decide +kernel
theorem d_Gr_addLink_25 : decode c_Gr_addLink 25 = .ok (.iconst 1, 1) := by decide +kernel
theorem d_Gr_addLink_26 : decode c_Gr_addLink 26 = .ok (.iadd, 1) := by decide +kernel
theorem d_Gr_addLink_27 : decode c_Gr_addLink 27 = .ok (.putfield 47, 3) := by decide +kernel
theorem d_Gr_addLink_30 : decode c_Gr_addLink 30 = .ok (.aload_n 0, 1) := by decide +kernel
theorem d_Gr_addLink_31 : decode c_Gr_addLink 31 = .ok (.getfield 25, 3) := by decide +kernel
theorem d_Gr_addLink_34 : decode c_Gr_addLink 34 = .ok (.iload_n 1, 1) := by decide +kernel
theorem d_Gr_addLink_35 : decode c_Gr_addLink 35 = .ok (.dup2, 1) := by decide +kernel
theorem d_Gr_addLink_36 : decode c_Gr_addLink 36 = .ok (.iaload, 1) := by decide +kernel
theorem d_Gr_addLink_37 : decode c_Gr_addLink 37 = .ok (.iconst 1, 1) := by decide +kernel
theorem d_Gr_addLink_38 : decode c_Gr_addLink 38 = .ok (.iload_n 2, 1) := by decide +kernel
theorem d_Gr_addLink_39 : decode c_Gr_addLink 39 = .ok (.ishl, 1) := by decide +kernel
theorem d_Gr_addLink_40 : decode c_Gr_addLink 40 = .ok (.ior, 1) := by decide +kernel
theorem d_Gr_addLink_41 : decode c_Gr_addLink 41 = .ok (.iastore, 1) := by decide +kernel
theorem d_Gr_addLink_42 : decode c_Gr_addLink 42 = .ok (.aload_n 0, 1) := by decide +kernel
theorem d_Gr_addLink_43 : decode c_Gr_addLink 43 = .ok (.getfield 25, 3) := by decide +kernel
theorem d_Gr_addLink_46 : decode c_Gr_addLink 46 = .ok (.iload_n 2, 1) := by decide +kernel
theorem d_Gr_addLink_47 : decode c_Gr_addLink 47 = .ok (.invokestatic 77, 3) := by decide +kernel
theorem d_Gr_addLink_50 : decode c_Gr_addLink 50 = .ok (.dup2, 1) := by decide +kernel
theorem d_Gr_addLink_51 : decode c_Gr_addLink 51 = .ok (.iaload, 1) := by decide +kernel
theorem d_Gr_addLink_52 : decode c_Gr_addLink 52 = .ok (.iconst 1, 1) := by decide +kernel
theorem d_Gr_addLink_53 : decode c_Gr_addLink 53 = .ok (.iload_n 1, 1) := by decide +kernel
theorem d_Gr_addLink_54 : decode c_Gr_addLink 54 = .ok (.invokestatic 77, 3) := by decide +kernel
theorem d_Gr_addLink_57 : decode c_Gr_addLink 57 = .ok (.ishl, 1) := by decide +kernel
theorem d_Gr_addLink_58 : decode c_Gr_addLink 58 = .ok (.ior, 1) := by decide +kernel
theorem d_Gr_addLink_59 : decode c_Gr_addLink 59 = .ok (.iastore, 1) := by decide +kernel
theorem d_Gr_addLink_60 : decode c_Gr_addLink 60 = .ok (.iconst 1, 1) := by decide +kernel
theorem d_Gr_addLink_61 : decode c_Gr_addLink 61 = .ok (.ireturn, 1) := by decide +kernel
theorem d_X_takeLink_0 : decode c_X_takeLink 0 = .ok (.aload_n 0, 1) := by decide +kernel
theorem d_X_takeLink_1 : decode c_X_takeLink 1 = .ok (.bipush 9, 2) := by decide +kernel
theorem d_X_takeLink_3 : decode c_X_takeLink 3 = .ok (.invokevirtual 176, 3) := by decide +kernel
theorem d_X_takeLink_6 : decode c_X_takeLink 6 = .ok (.ifCond .ne 5, 3) := by decide +kernel
theorem d_X_takeLink_9 : decode c_X_takeLink 9 = .ok (.iconst 0, 1) := by decide +kernel
theorem d_X_takeLink_10 : decode c_X_takeLink 10 = .ok (.ireturn, 1) := by decide +kernel
theorem d_X_takeLink_11 : decode c_X_takeLink 11 = .ok (.aload_n 0, 1) := by decide +kernel
theorem d_X_takeLink_12 : decode c_X_takeLink 12 = .ok (.aload_n 1, 1) := by decide +kernel
theorem d_X_takeLink_13 : decode c_X_takeLink 13 = .ok (.iconst 1, 1) := by decide +kernel
theorem d_X_takeLink_14 : decode c_X_takeLink 14 = .ok (.invokestatic 205, 3) := by decide +kernel
theorem d_X_takeLink_17 : decode c_X_takeLink 17 = .ok (.istore_n 2, 1) := by decide +kernel
theorem d_X_takeLink_18 : decode c_X_takeLink 18 = .ok (.iload_n 2, 1) := by decide +kernel
theorem d_X_takeLink_19 : decode c_X_takeLink 19 = .ok (.ifCond .lt 12, 3) := by decide +kernel
theorem d_X_takeLink_22 : decode c_X_takeLink 22 = .ok (.aload_n 0, 1) := by decide +kernel
theorem d_X_takeLink_23 : decode c_X_takeLink 23 = .ok (.bipush 9, 2) := by decide +kernel
theorem d_X_takeLink_25 : decode c_X_takeLink 25 = .ok (.invokevirtual 176, 3) := by decide +kernel
theorem d_X_takeLink_28 : decode c_X_takeLink 28 = .ok (.ifCond .ne 5, 3) := by decide +kernel
theorem d_X_takeLink_31 : decode c_X_takeLink 31 = .ok (.iconst 0, 1) := by decide +kernel
theorem d_X_takeLink_32 : decode c_X_takeLink 32 = .ok (.ireturn, 1) := by decide +kernel
theorem d_X_takeLink_33 : decode c_X_takeLink 33 = .ok (.aload_n 0, 1) := by decide +kernel
theorem d_X_takeLink_34 : decode c_X_takeLink 34 = .ok (.aload_n 1, 1) := by decide +kernel
theorem d_X_takeLink_35 : decode c_X_takeLink 35 = .ok (.iconst 1, 1) := by decide +kernel
theorem d_X_takeLink_36 : decode c_X_takeLink 36 = .ok (.invokestatic 205, 3) := by decide +kernel
theorem d_X_takeLink_39 : decode c_X_takeLink 39 = .ok (.istore_n 3, 1) := by decide +kernel
theorem d_X_takeLink_40 : decode c_X_takeLink 40 = .ok (.iload_n 3, 1) := by decide +kernel
theorem d_X_takeLink_41 : decode c_X_takeLink 41 = .ok (.ifCond .lt 52, 3) := by decide +kernel
theorem d_X_takeLink_44 : decode c_X_takeLink 44 = .ok (.aload_n 0, 1) := by decide +kernel
theorem d_X_takeLink_45 : decode c_X_takeLink 45 = .ok (.bipush 9, 2) := by decide +kernel
theorem d_X_takeLink_47 : decode c_X_takeLink 47 = .ok (.invokevirtual 176, 3) := by decide +kernel
theorem d_X_takeLink_50 : decode c_X_takeLink 50 = .ok (.ifCond .eq 43, 3) := by decide +kernel
theorem d_X_takeLink_53 : decode c_X_takeLink 53 = .ok (.aload_n 0, 1) := by decide +kernel
theorem d_X_takeLink_54 : decode c_X_takeLink 54 = .ok (.bipush 48, 2) := by decide +kernel
theorem d_X_takeLink_56 : decode c_X_takeLink 56 = .ok (.invokevirtual 176, 3) := by decide +kernel
theorem d_X_takeLink_59 : decode c_X_takeLink 59 = .ok (.ifCond .eq 34, 3) := by decide +kernel
theorem d_X_takeLink_62 : decode c_X_takeLink 62 = .ok (.aload_n 0, 1) := by decide +kernel
theorem d_X_takeLink_63 : decode c_X_takeLink 63 = .ok (.bipush 77, 2) := by decide +kernel
theorem d_X_takeLink_65 : decode c_X_takeLink 65 = .ok (.invokevirtual 176, 3) := by decide +kernel
theorem d_X_takeLink_68 : decode c_X_takeLink 68 = .ok (.ifCond .eq 25, 3) := by decide +kernel
theorem d_X_takeLink_71 : decode c_X_takeLink 71 = .ok (.aload_n 0, 1) := by decide +kernel
theorem d_X_takeLink_72 : decode c_X_takeLink 72 = .ok (.bipush 10, 2) := by decide +kernel
theorem d_X_takeLink_74 : decode c_X_takeLink 74 = .ok (.invokevirtual 176, 3) := by decide +kernel
theorem d_X_takeLink_77 : decode c_X_takeLink 77 = .ok (.ifCond .eq 16, 3) := by decide +kernel
theorem d_X_takeLink_80 : decode c_X_takeLink 80 = .ok (.aload_n 1, 1) := by decide +kernel
theorem d_X_takeLink_81 : decode c_X_takeLink 81 = .ok (.iload_n 2, 1) := by decide +kernel
theorem d_X_takeLink_82 : decode c_X_takeLink 82 = .ok (.iload_n 3, 1) := by decide +kernel
theorem d_X_takeLink_83 : decode c_X_takeLink 83 = .ok (.invokevirtual 209, 3) := by decide +kernel
theorem d_X_takeLink_86 : decode c_X_takeLink 86 = .ok (.ifCond .eq 7, 3) := by decide +kernel
theorem d_X_takeLink_89 : decode c_X_takeLink 89 = .ok (.iconst 1, 1) := by decide +kernel
theorem d_X_takeLink_90 : decode c_X_takeLink 90 = .ok (.goto 4, 3) := by decide +kernel
theorem d_X_takeLink_93 : decode c_X_takeLink 93 = .ok (.iconst 0, 1) := by decide +kernel
theorem d_X_takeLink_94 : decode c_X_takeLink 94 = .ok (.ireturn, 1) := by decide +kernel
theorem d_Gr_addPath_0 : decode c_Gr_addPath 0 = .ok (.aload_n 0, 1) := by decide +kernel
theorem d_Gr_addPath_1 : decode c_Gr_addPath 1 = .ok (.getfield 50, 3) := by decide +kernel
theorem d_Gr_addPath_4 : decode c_Gr_addPath 4 = .ok (.iconst 4, 1) := by decide +kernel
theorem d_Gr_addPath_5 : decode c_Gr_addPath 5 = .ok (.if_icmp .ge 18, 3) := by decide +kernel
theorem d_Gr_addPath_8 : decode c_Gr_addPath 8 = .ok (.iload_n 1, 1) := by decide +kernel
theorem d_Gr_addPath_9 : decode c_Gr_addPath 9 = .ok (.aload_n 0, 1) := by decide +kernel
theorem d_Gr_addPath_10 : decode c_Gr_addPath 10 = .ok (.getfield 28, 3) := by decide +kernel
theorem d_Gr_addPath_13 : decode c_Gr_addPath 13 = .ok (.aload_n 0, 1) := by decide +kernel
theorem d_Gr_addPath_14 : decode c_Gr_addPath 14 = .ok (.getfield 50, 3) := by decide +kernel
theorem d_Gr_addPath_17 : decode c_Gr_addPath 17 = .ok (.invokestatic 65, 3) := by decide +kernel
theorem d_Gr_addPath_20 : decode c_Gr_addPath 20 = .ok (.ifCond .lt 5, 3) := by decide +kernel
theorem d_Gr_addPath_23 : decode c_Gr_addPath 23 = .ok (.iconst 0, 1) := by decide +kernel
theorem d_Gr_addPath_24 : decode c_Gr_addPath 24 = .ok (.ireturn, 1) := by decide +kernel
theorem d_Gr_addPath_25 : decode c_Gr_addPath 25 = .ok (.aload_n 0, 1) := by decide +kernel
theorem d_Gr_addPath_26 : decode c_Gr_addPath 26 = .ok (.getfield 28, 3) := by decide +kernel
theorem d_Gr_addPath_29 : decode c_Gr_addPath 29 = .ok (.aload_n 0, 1) := by decide +kernel
theorem d_Gr_addPath_30 : decode c_Gr_addPath 30 = .ok (.getfield 50, 3) := by decide +kernel
theorem d_Gr_addPath_33 : decode c_Gr_addPath 33 = .ok (.iload_n 1, 1) := by decide +kernel
theorem d_Gr_addPath_34 : decode c_Gr_addPath 34 = .ok (.iastore, 1) := by decide +kernel
theorem d_Gr_addPath_35 : decode c_Gr_addPath 35 = .ok (.aload_n 0, 1) := by decide +kernel
theorem d_Gr_addPath_36 : decode c_Gr_addPath 36 = .ok (.getfield 31, 3) := by decide +kernel
theorem d_Gr_addPath_39 : decode c_Gr_addPath 39 = .ok (.aload_n 0, 1) := by decide +kernel
theorem d_Gr_addPath_40 : decode c_Gr_addPath 40 = .ok (.getfield 50, 3) := by decide +kernel
theorem d_Gr_addPath_43 : decode c_Gr_addPath 43 = .ok (.iconst 0, 1) := by decide +kernel
theorem d_Gr_addPath_44 : decode c_Gr_addPath 44 = .ok (.iastore, 1) := by decide +kernel
theorem d_Gr_addPath_45 : decode c_Gr_addPath 45 = .ok (.aload_n 0, 1) := by decide +kernel
theorem d_Gr_addPath_46 : decode c_Gr_addPath 46 = .ok (.dup, 1) := by decide +kernel
theorem d_Gr_addPath_47 : decode c_Gr_addPath 47 = .ok (.getfield 50, 3) := by decide +kernel
theorem d_Gr_addPath_50 : decode c_Gr_addPath 50 = .ok (.iconst 1, 1) := by decide +kernel
theorem d_Gr_addPath_51 : decode c_Gr_addPath 51 = .ok (.iadd, 1) := by decide +kernel
theorem d_Gr_addPath_52 : decode c_Gr_addPath 52 = .ok (.putfield 50, 3) := by decide +kernel
theorem d_Gr_addPath_55 : decode c_Gr_addPath 55 = .ok (.iconst 1, 1) := by decide +kernel
theorem d_Gr_addPath_56 : decode c_Gr_addPath 56 = .ok (.ireturn, 1) := by decide +kernel
theorem d_Gr_addStep_0 : decode c_Gr_addStep 0 = .ok (.aload_n 0, 1) := by decide +kernel
theorem d_Gr_addStep_1 : decode c_Gr_addStep 1 = .ok (.getfield 50, 3) := by decide +kernel
theorem d_Gr_addStep_4 : decode c_Gr_addStep 4 = .ok (.iconst 1, 1) := by decide +kernel
theorem d_Gr_addStep_5 : decode c_Gr_addStep 5 = .ok (.isub, 1) := by decide +kernel
theorem d_Gr_addStep_6 : decode c_Gr_addStep 6 = .ok (.istore_n 2, 1) := by decide +kernel
theorem d_Gr_addStep_7 : decode c_Gr_addStep 7 = .ok (.iload_n 2, 1) := by decide +kernel
theorem d_Gr_addStep_8 : decode c_Gr_addStep 8 = .ok (.ifCond .lt 14, 3) := by decide +kernel
theorem d_Gr_addStep_11 : decode c_Gr_addStep 11 = .ok (.aload_n 0, 1) := by decide +kernel
theorem d_Gr_addStep_12 : decode c_Gr_addStep 12 = .ok (.getfield 31, 3) := by decide +kernel
theorem d_Gr_addStep_15 : decode c_Gr_addStep 15 = .ok (.iload_n 2, 1) := by decide +kernel
theorem d_Gr_addStep_16 : decode c_Gr_addStep 16 = .ok (.iaload, 1) := by decide +kernel
theorem d_Gr_addStep_17 : decode c_Gr_addStep 17 = .ok (.bipush 8, 2) := by decide +kernel
theorem d_Gr_addStep_19 : decode c_Gr_addStep 19 = .ok (.if_icmp .lt 5, 3) := by decide +kernel
theorem d_Gr_addStep_22 : decode c_Gr_addStep 22 = .ok (.iconst 0, 1) := by decide +kernel
theorem d_Gr_addStep_23 : decode c_Gr_addStep 23 = .ok (.ireturn, 1) := by decide +kernel
theorem d_Gr_addStep_24 : decode c_Gr_addStep 24 = .ok (.iload_n 2, 1) := by decide +kernel
theorem d_Gr_addStep_25 : decode c_Gr_addStep 25 = .ok (.bipush 8, 2) := by decide +kernel
theorem d_Gr_addStep_27 : decode c_Gr_addStep 27 = .ok (.imul, 1) := by decide +kernel
theorem d_Gr_addStep_28 : decode c_Gr_addStep 28 = .ok (.aload_n 0, 1) := by decide +kernel
theorem d_Gr_addStep_29 : decode c_Gr_addStep 29 = .ok (.getfield 31, 3) := by decide +kernel
theorem d_Gr_addStep_32 : decode c_Gr_addStep 32 = .ok (.iload_n 2, 1) := by decide +kernel
theorem d_Gr_addStep_33 : decode c_Gr_addStep 33 = .ok (.iaload, 1) := by decide +kernel
theorem d_Gr_addStep_34 : decode c_Gr_addStep 34 = .ok (.iadd, 1) := by decide +kernel
theorem d_Gr_addStep_35 : decode c_Gr_addStep 35 = .ok (.istore_n 3, 1) := by decide +kernel
theorem d_Gr_addStep_36 : decode c_Gr_addStep 36 = .ok (.aload_n 0, 1) := by decide +kernel
theorem d_Gr_addStep_37 : decode c_Gr_addStep 37 = .ok (.getfield 31, 3) := by decide +kernel
theorem d_Gr_addStep_40 : decode c_Gr_addStep 40 = .ok (.iload_n 2, 1) := by decide +kernel
theorem d_Gr_addStep_41 : decode c_Gr_addStep 41 = .ok (.iaload, 1) := by decide +kernel
theorem d_Gr_addStep_42 : decode c_Gr_addStep 42 = .ok (.ifCond .le 21, 3) := by decide +kernel
theorem d_Gr_addStep_45 : decode c_Gr_addStep 45 = .ok (.aload_n 0, 1) := by decide +kernel
theorem d_Gr_addStep_46 : decode c_Gr_addStep 46 = .ok (.aload_n 0, 1) := by decide +kernel
theorem d_Gr_addStep_47 : decode c_Gr_addStep 47 = .ok (.getfield 34, 3) := by decide +kernel
theorem d_Gr_addStep_50 : decode c_Gr_addStep 50 = .ok (.iload_n 3, 1) := by decide +kernel
theorem d_Gr_addStep_51 : decode c_Gr_addStep 51 = .ok (.iconst 1, 1) := by decide +kernel
theorem d_Gr_addStep_52 : decode c_Gr_addStep 52 = .ok (.isub, 1) := by decide +kernel
theorem d_Gr_addStep_53 : decode c_Gr_addStep 53 = .ok (.iaload, 1) := by decide +kernel
theorem d_Gr_addStep_54 : decode c_Gr_addStep 54 = .ok (.iload_n 1, 1) := by decide +kernel
theorem d_Gr_addStep_55 : decode c_Gr_addStep 55 = .ok (.invokevirtual 84, 3) := by decide +kernel
theorem d_Gr_addStep_58 : decode c_Gr_addStep 58 = .ok (.ifCond .ne 5, 3) := by decide +kernel
theorem d_Gr_addStep_61 : decode c_Gr_addStep 61 = .ok (.iconst 0, 1) := by decide +kernel
theorem d_Gr_addStep_62 : decode c_Gr_addStep 62 = .ok (.ireturn, 1) := by decide +kernel
theorem d_Gr_addStep_63 : decode c_Gr_addStep 63 = .ok (.aload_n 0, 1) := by decide +kernel
theorem d_Gr_addStep_64 : decode c_Gr_addStep 64 = .ok (.getfield 34, 3) := by decide +kernel
theorem d_Gr_addStep_67 : decode c_Gr_addStep 67 = .ok (.iload_n 3, 1) := by decide +kernel
theorem d_Gr_addStep_68 : decode c_Gr_addStep 68 = .ok (.iload_n 1, 1) := by decide +kernel
theorem d_Gr_addStep_69 : decode c_Gr_addStep 69 = .ok (.iastore, 1) := by decide +kernel
theorem d_Gr_addStep_70 : decode c_Gr_addStep 70 = .ok (.aload_n 0, 1) := by decide +kernel
theorem d_Gr_addStep_71 : decode c_Gr_addStep 71 = .ok (.getfield 31, 3) := by decide +kernel
theorem d_Gr_addStep_74 : decode c_Gr_addStep 74 = .ok (.iload_n 2, 1) := by decide +kernel
theorem d_Gr_addStep_75 : decode c_Gr_addStep 75 = .ok (.dup2, 1) := by decide +kernel
theorem d_Gr_addStep_76 : decode c_Gr_addStep 76 = .ok (.iaload, 1) := by decide +kernel
theorem d_Gr_addStep_77 : decode c_Gr_addStep 77 = .ok (.iconst 1, 1) := by decide +kernel
theorem d_Gr_addStep_78 : decode c_Gr_addStep 78 = .ok (.iadd, 1) := by decide +kernel
theorem d_Gr_addStep_79 : decode c_Gr_addStep 79 = .ok (.iastore, 1) := by decide +kernel
theorem d_Gr_addStep_80 : decode c_Gr_addStep 80 = .ok (.iconst 1, 1) := by decide +kernel
theorem d_Gr_addStep_81 : decode c_Gr_addStep 81 = .ok (.ireturn, 1) := by decide +kernel
theorem d_X_takePath_0 : decode c_X_takePath 0 = .ok (.aload_n 0, 1) := by decide +kernel
theorem d_X_takePath_1 : decode c_X_takePath 1 = .ok (.bipush 9, 2) := by decide +kernel
theorem d_X_takePath_3 : decode c_X_takePath 3 = .ok (.invokevirtual 176, 3) := by decide +kernel
theorem d_X_takePath_6 : decode c_X_takePath 6 = .ok (.ifCond .ne 5, 3) := by decide +kernel
theorem d_X_takePath_9 : decode c_X_takePath 9 = .ok (.iconst 0, 1) := by decide +kernel
theorem d_X_takePath_10 : decode c_X_takePath 10 = .ok (.ireturn, 1) := by decide +kernel
theorem d_X_takePath_11 : decode c_X_takePath 11 = .ok (.aload_n 0, 1) := by decide +kernel
theorem d_X_takePath_12 : decode c_X_takePath 12 = .ok (.invokevirtual 192, 3) := by decide +kernel
theorem d_X_takePath_15 : decode c_X_takePath 15 = .ok (.istore_n 2, 1) := by decide +kernel
theorem d_X_takePath_16 : decode c_X_takePath 16 = .ok (.iload_n 2, 1) := by decide +kernel
theorem d_X_takePath_17 : decode c_X_takePath 17 = .ok (.ifCond .eq 20, 3) := by decide +kernel
theorem d_X_takePath_20 : decode c_X_takePath 20 = .ok (.aload_n 0, 1) := by decide +kernel
theorem d_X_takePath_21 : decode c_X_takePath 21 = .ok (.bipush 9, 2) := by decide +kernel
theorem d_X_takePath_23 : decode c_X_takePath 23 = .ok (.invokevirtual 176, 3) := by decide +kernel
theorem d_X_takePath_26 : decode c_X_takePath 26 = .ok (.ifCond .eq 11, 3) := by decide +kernel
theorem d_X_takePath_29 : decode c_X_takePath 29 = .ok (.aload_n 1, 1) := by decide +kernel
theorem d_X_takePath_30 : decode c_X_takePath 30 = .ok (.iload_n 2, 1) := by decide +kernel
theorem d_X_takePath_31 : decode c_X_takePath 31 = .ok (.invokevirtual 212, 3) := by decide +kernel
theorem d_X_takePath_34 : decode c_X_takePath 34 = .ok (.ifCond .ne 5, 3) := by decide +kernel
theorem d_X_takePath_37 : decode c_X_takePath 37 = .ok (.iconst 0, 1) := by decide +kernel
theorem d_X_takePath_38 : decode c_X_takePath 38 = .ok (.ireturn, 1) := by decide +kernel
theorem d_X_takePath_39 : decode c_X_takePath 39 = .ok (.iconst 1, 1) := by decide +kernel
theorem d_X_takePath_40 : decode c_X_takePath 40 = .ok (.istore_n 3, 1) := by decide +kernel
theorem d_X_takePath_41 : decode c_X_takePath 41 = .ok (.iconst 0, 1) := by decide +kernel
theorem d_X_takePath_42 : decode c_X_takePath 42 = .ok (.istore 4, 2) := by decide +kernel
theorem d_X_takePath_44 : decode c_X_takePath 44 = .ok (.iload_n 3, 1) := by decide +kernel
theorem d_X_takePath_45 : decode c_X_takePath 45 = .ok (.ifCond .eq 47, 3) := by decide +kernel
theorem d_X_takePath_48 : decode c_X_takePath 48 = .ok (.iload 4, 2) := by decide +kernel
theorem d_X_takePath_50 : decode c_X_takePath 50 = .ok (.bipush 8, 2) := by decide +kernel
theorem d_X_takePath_52 : decode c_X_takePath 52 = .ok (.if_icmp .ge 40, 3) := by decide +kernel
theorem d_X_takePath_55 : decode c_X_takePath 55 = .ok (.aload_n 0, 1) := by decide +kernel
theorem d_X_takePath_56 : decode c_X_takePath 56 = .ok (.aload_n 1, 1) := by decide +kernel
theorem d_X_takePath_57 : decode c_X_takePath 57 = .ok (.iconst 0, 1) := by decide +kernel
theorem d_X_takePath_58 : decode c_X_takePath 58 = .ok (.invokestatic 205, 3) := by decide +kernel
theorem d_X_takePath_61 : decode c_X_takePath 61 = .ok (.istore 5, 2) := by decide +kernel
theorem d_X_takePath_63 : decode c_X_takePath 63 = .ok (.iload 5, 2) := by decide +kernel
theorem d_X_takePath_65 : decode c_X_takePath 65 = .ok (.ifCond .lt 12, 3) := by decide +kernel
theorem d_X_takePath_68 : decode c_X_takePath 68 = .ok (.aload_n 1, 1) := by decide +kernel
theorem d_X_takePath_69 : decode c_X_takePath 69 = .ok (.iload 5, 2) := by decide +kernel
theorem d_X_takePath_71 : decode c_X_takePath 71 = .ok (.invokevirtual 215, 3) := by decide +kernel
theorem d_X_takePath_74 : decode c_X_takePath 74 = .ok (.ifCond .ne 5, 3) := by decide +kernel
theorem d_X_takePath_77 : decode c_X_takePath 77 = .ok (.iconst 0, 1) := by decide +kernel
theorem d_X_takePath_78 : decode c_X_takePath 78 = .ok (.ireturn, 1) := by decide +kernel
theorem d_X_takePath_79 : decode c_X_takePath 79 = .ok (.aload_n 0, 1) := by decide +kernel
theorem d_X_takePath_80 : decode c_X_takePath 80 = .ok (.bipush 44, 2) := by decide +kernel
theorem d_X_takePath_82 : decode c_X_takePath 82 = .ok (.invokevirtual 176, 3) := by decide +kernel
theorem d_X_takePath_85 : decode c_X_takePath 85 = .ok (.istore_n 3, 1) := by decide +kernel
theorem d_X_takePath_86 : decode c_X_takePath 86 = .ok (.iinc 4 1, 3) := by decide +kernel
theorem d_X_takePath_89 : decode c_X_takePath 89 = .ok (.goto (-45), 3) := by decide +kernel
theorem d_X_takePath_92 : decode c_X_takePath 92 = .ok (.iload_n 3, 1) := by decide +kernel
theorem d_X_takePath_93 : decode c_X_takePath 93 = .ok (.ifCond .ne 34, 3) := by decide +kernel
theorem d_X_takePath_96 : decode c_X_takePath 96 = .ok (.aload_n 0, 1) := by decide +kernel
theorem d_X_takePath_97 : decode c_X_takePath 97 = .ok (.bipush 9, 2) := by decide +kernel
theorem d_X_takePath_99 : decode c_X_takePath 99 = .ok (.invokevirtual 176, 3) := by decide +kernel
theorem d_X_takePath_102 : decode c_X_takePath 102 = .ok (.ifCond .eq 25, 3) := by decide +kernel
theorem d_X_takePath_105 : decode c_X_takePath 105 = .ok (.aload_n 0, 1) := by decide +kernel
theorem d_X_takePath_106 : decode c_X_takePath 106 = .ok (.bipush 42, 2) := by decide +kernel
theorem d_X_takePath_108 : decode c_X_takePath 108 = .ok (.invokevirtual 176, 3) := by decide +kernel
theorem d_X_takePath_111 : decode c_X_takePath 111 = .ok (.ifCond .eq 16, 3) := by decide +kernel
theorem d_X_takePath_114 : decode c_X_takePath 114 = .ok (.aload_n 0, 1) := by decide +kernel
theorem d_X_takePath_115 : decode c_X_takePath 115 = .ok (.bipush 10, 2) := by decide +kernel
theorem d_X_takePath_117 : decode c_X_takePath 117 = .ok (.invokevirtual 176, 3) := by decide +kernel
theorem d_X_takePath_120 : decode c_X_takePath 120 = .ok (.ifCond .eq 7, 3) := by decide +kernel
theorem d_X_takePath_123 : decode c_X_takePath 123 = .ok (.iconst 1, 1) := by decide +kernel
theorem d_X_takePath_124 : decode c_X_takePath 124 = .ok (.goto 4, 3) := by decide +kernel
theorem d_X_takePath_127 : decode c_X_takePath 127 = .ok (.iconst 0, 1) := by decide +kernel
theorem d_X_takePath_128 : decode c_X_takePath 128 = .ok (.ireturn, 1) := by decide +kernel
theorem d_X_takeLine_0 : decode c_X_takeLine 0 = .ok (.aload_n 0, 1) := by decide +kernel
theorem d_X_takeLine_1 : decode c_X_takeLine 1 = .ok (.bipush 72, 2) := by decide +kernel
theorem d_X_takeLine_3 : decode c_X_takeLine 3 = .ok (.invokevirtual 176, 3) := by decide +kernel
