theorem d_Te_put_0 : decode c_Te_put 0 = .ok (.iload_n 1, 1) := by decide +kernel
theorem d_Te_put_1 : decode c_Te_put 1 = .ok (.bipush 9, 2) := by decide +kernel
theorem d_Te_put_3 : decode c_Te_put 3 = .ok (.if_icmp .eq 21, 3) := by decide +kernel
theorem d_Te_put_6 : decode c_Te_put 6 = .ok (.iload_n 1, 1) := by decide +kernel
theorem d_Te_put_7 : decode c_Te_put 7 = .ok (.bipush 10, 2) := by decide +kernel
theorem d_Te_put_9 : decode c_Te_put 9 = .ok (.if_icmp .eq 15, 3) := by decide +kernel
theorem d_Te_put_12 : decode c_Te_put 12 = .ok (.iload_n 1, 1) := by decide +kernel
theorem d_Te_put_13 : decode c_Te_put 13 = .ok (.bipush 32, 2) := by decide +kernel
theorem d_Te_put_15 : decode c_Te_put 15 = .ok (.if_icmp .lt 13, 3) := by decide +kernel
theorem d_Te_put_18 : decode c_Te_put 18 = .ok (.iload_n 1, 1) := by decide +kernel
theorem d_Te_put_19 : decode c_Te_put 19 = .ok (.bipush 126, 2) := by decide +kernel
theorem d_Te_put_21 : decode c_Te_put 21 = .ok (.if_icmp .gt 7, 3) := by decide +kernel
theorem d_Te_put_24 : decode c_Te_put 24 = .ok (.iconst 1, 1) := by decide +kernel
theorem d_Te_put_25 : decode c_Te_put 25 = .ok (.goto 4, 3) := by decide +kernel
theorem d_Te_put_28 : decode c_Te_put 28 = .ok (.iconst 0, 1) := by decide +kernel
theorem d_Te_put_29 : decode c_Te_put 29 = .ok (.istore_n 2, 1) := by decide +kernel
theorem d_Te_put_30 : decode c_Te_put 30 = .ok (.iload_n 2, 1) := by decide +kernel
theorem d_Te_put_31 : decode c_Te_put 31 = .ok (.ifCond .eq 13, 3) := by decide +kernel
theorem d_Te_put_34 : decode c_Te_put 34 = .ok (.aload_n 0, 1) := by decide +kernel
theorem d_Te_put_35 : decode c_Te_put 35 = .ok (.getfield 15, 3) := by decide +kernel
theorem d_Te_put_38 : decode c_Te_put 38 = .ok (.sipush 400, 3) := by decide +kernel
theorem d_Te_put_41 : decode c_Te_put 41 = .ok (.if_icmp .lt 5, 3) := by decide +kernel
theorem d_Te_put_44 : decode c_Te_put 44 = .ok (.iconst 0, 1) := by decide +kernel
theorem d_Te_put_45 : decode c_Te_put 45 = .ok (.ireturn, 1) := by decide +kernel
theorem d_Te_put_46 : decode c_Te_put 46 = .ok (.aload_n 0, 1) := by decide +kernel
theorem d_Te_put_47 : decode c_Te_put 47 = .ok (.getfield 9, 3) := by decide +kernel
theorem d_Te_put_50 : decode c_Te_put 50 = .ok (.aload_n 0, 1) := by decide +kernel
theorem d_Te_put_51 : decode c_Te_put 51 = .ok (.getfield 15, 3) := by decide +kernel
theorem d_Te_put_54 : decode c_Te_put 54 = .ok (.iload_n 1, 1) := by decide +kernel
theorem d_Te_put_55 : decode c_Te_put 55 = .ok (.castore, 1) := by decide +kernel
theorem d_Te_put_56 : decode c_Te_put 56 = .ok (.aload_n 0, 1) := by decide +kernel
theorem d_Te_put_57 : decode c_Te_put 57 = .ok (.dup, 1) := by decide +kernel
theorem d_Te_put_58 : decode c_Te_put 58 = .ok (.getfield 15, 3) := by decide +kernel
theorem d_Te_put_61 : decode c_Te_put 61 = .ok (.iconst 1, 1) := by decide +kernel
theorem d_Te_put_62 : decode c_Te_put 62 = .ok (.iadd, 1) := by decide +kernel
theorem d_Te_put_63 : decode c_Te_put 63 = .ok (.putfield 15, 3) := by decide +kernel
theorem d_Te_put_66 : decode c_Te_put 66 = .ok (.iconst 1, 1) := by decide +kernel
theorem d_Te_put_67 : decode c_Te_put 67 = .ok (.ireturn, 1) := by decide +kernel
theorem d_Te_next_0 : decode c_Te_next 0 = .ok (.aload_n 0, 1) := by decide +kernel
theorem d_Te_next_1 : decode c_Te_next 1 = .ok (.getfield 19, 3) := by decide +kernel
theorem d_Te_next_4 : decode c_Te_next 4 = .ok (.aload_n 0, 1) := by decide +kernel
theorem d_Te_next_5 : decode c_Te_next 5 = .ok (.getfield 15, 3) := by decide +kernel
theorem d_Te_next_8 : decode c_Te_next 8 = .ok (.if_icmp .ge 15, 3) := by decide +kernel
theorem d_Te_next_11 : decode c_Te_next 11 = .ok (.aload_n 0, 1) := by decide +kernel
theorem d_Te_next_12 : decode c_Te_next 12 = .ok (.getfield 9, 3) := by decide +kernel
theorem d_Te_next_15 : decode c_Te_next 15 = .ok (.aload_n 0, 1) := by decide +kernel
theorem d_Te_next_16 : decode c_Te_next 16 = .ok (.getfield 19, 3) := by decide +kernel
theorem d_Te_next_19 : decode c_Te_next 19 = .ok (.caload, 1) := by decide +kernel
theorem d_Te_next_20 : decode c_Te_next 20 = .ok (.goto 4, 3) := by decide +kernel
theorem d_Te_next_23 : decode c_Te_next 23 = .ok (.iconst 0, 1) := by decide +kernel
theorem d_Te_next_24 : decode c_Te_next 24 = .ok (.ireturn, 1) := by decide +kernel
theorem d_Te_takes_0 : decode c_Te_takes 0 = .ok (.aload_n 0, 1) := by decide +kernel
theorem d_Te_takes_1 : decode c_Te_takes 1 = .ok (.invokevirtual 22, 3) := by decide +kernel
theorem d_Te_takes_4 : decode c_Te_takes 4 = .ok (.iload_n 1, 1) := by decide +kernel
theorem d_Te_takes_5 : decode c_Te_takes 5 = .ok (.if_icmp .eq 5, 3) := by decide +kernel
theorem d_Te_takes_8 : decode c_Te_takes 8 = .ok (.iconst 0, 1) := by decide +kernel
theorem d_Te_takes_9 : decode c_Te_takes 9 = .ok (.ireturn, 1) := by decide +kernel
theorem d_Te_takes_10 : decode c_Te_takes 10 = .ok (.aload_n 0, 1) := by decide +kernel
theorem d_Te_takes_11 : decode c_Te_takes 11 = .ok (.dup, 1) := by decide +kernel
theorem d_Te_takes_12 : decode c_Te_takes 12 = .ok (.getfield 19, 3) := by decide +kernel
theorem d_Te_takes_15 : decode c_Te_takes 15 = .ok (.iconst 1, 1) := by decide +kernel
theorem d_Te_takes_16 : decode c_Te_takes 16 = .ok (.iadd, 1) := by decide +kernel
theorem d_Te_takes_17 : decode c_Te_takes 17 = .ok (.putfield 19, 3) := by decide +kernel
theorem d_Te_takes_20 : decode c_Te_takes 20 = .ok (.iconst 1, 1) := by decide +kernel
theorem d_Te_takes_21 : decode c_Te_takes 21 = .ok (.ireturn, 1) := by decide +kernel
theorem d_Te_takesRestOfLine_0 : decode c_Te_takesRestOfLine 0 = .ok (.aload_n 0, 1) := by decide +kernel
theorem d_Te_takesRestOfLine_1 : decode c_Te_takesRestOfLine 1 = .ok (.getfield 19, 3) := by decide +kernel
theorem d_Te_takesRestOfLine_4 : decode c_Te_takesRestOfLine 4 = .ok (.aload_n 0, 1) := by decide +kernel
theorem d_Te_takesRestOfLine_5 : decode c_Te_takesRestOfLine 5 = .ok (.getfield 15, 3) := by decide +kernel
theorem d_Te_takesRestOfLine_8 : decode c_Te_takesRestOfLine 8 = .ok (.if_icmp .ge 30, 3) := by decide +kernel
theorem d_Te_takesRestOfLine_11 : decode c_Te_takesRestOfLine 11 = .ok (.aload_n 0, 1) := by decide +kernel
theorem d_Te_takesRestOfLine_12 : decode c_Te_takesRestOfLine 12 = .ok (.getfield 9, 3) := by decide +kernel
theorem d_Te_takesRestOfLine_15 : decode c_Te_takesRestOfLine 15 = .ok (.aload_n 0, 1) := by decide +kernel
theorem d_Te_takesRestOfLine_16 : decode c_Te_takesRestOfLine 16 = .ok (.getfield 19, 3) := by decide +kernel
theorem d_Te_takesRestOfLine_19 : decode c_Te_takesRestOfLine 19 = .ok (.caload, 1) := by decide +kernel
theorem d_Te_takesRestOfLine_20 : decode c_Te_takesRestOfLine 20 = .ok (.bipush 10, 2) := by decide +kernel
theorem d_Te_takesRestOfLine_22 : decode c_Te_takesRestOfLine 22 = .ok (.if_icmp .eq 16, 3) := by decide +kernel
theorem d_Te_takesRestOfLine_25 : decode c_Te_takesRestOfLine 25 = .ok (.aload_n 0, 1) := by decide +kernel
theorem d_Te_takesRestOfLine_26 : decode c_Te_takesRestOfLine 26 = .ok (.dup, 1) := by decide +kernel
theorem d_Te_takesRestOfLine_27 : decode c_Te_takesRestOfLine 27 = .ok (.getfield 19, 3) := by decide +kernel
theorem d_Te_takesRestOfLine_30 : decode c_Te_takesRestOfLine 30 = .ok (.iconst 1, 1) := by decide +kernel
theorem d_Te_takesRestOfLine_31 : decode c_Te_takesRestOfLine 31 = .ok (.iadd, 1) := by decide +kernel
theorem d_Te_takesRestOfLine_32 : decode c_Te_takesRestOfLine 32 = .ok (.putfield 19, 3) := by decide +kernel
theorem d_Te_takesRestOfLine_35 : decode c_Te_takesRestOfLine 35 = .ok (.goto (-35), 3) := by decide +kernel
theorem d_Te_takesRestOfLine_38 : decode c_Te_takesRestOfLine 38 = .ok (.aload_n 0, 1) := by decide +kernel
theorem d_Te_takesRestOfLine_39 : decode c_Te_takesRestOfLine 39 = .ok (.bipush 10, 2) := by decide +kernel
theorem d_Te_takesRestOfLine_41 : decode c_Te_takesRestOfLine 41 = .ok (.invokevirtual 26, 3) := by decide +kernel
theorem d_Te_takesRestOfLine_44 : decode c_Te_takesRestOfLine 44 = .ok (.ireturn, 1) := by decide +kernel
theorem d_X_isOfName_0 : decode c_X_isOfName 0 = .ok (.iload_n 0, 1) := by decide +kernel
theorem d_X_isOfName_1 : decode c_X_isOfName 1 = .ok (.bipush 97, 2) := by decide +kernel
theorem d_X_isOfName_3 : decode c_X_isOfName 3 = .ok (.if_icmp .lt 9, 3) := by decide +kernel
theorem d_X_isOfName_6 : decode c_X_isOfName 6 = .ok (.iload_n 0, 1) := by decide +kernel
theorem d_X_isOfName_7 : decode c_X_isOfName 7 = .ok (.bipush 122, 2) := by decide +kernel
theorem d_X_isOfName_9 : decode c_X_isOfName 9 = .ok (.if_icmp .le 15, 3) := by decide +kernel
theorem d_X_isOfName_12 : decode c_X_isOfName 12 = .ok (.iload_n 0, 1) := by decide +kernel
theorem d_X_isOfName_13 : decode c_X_isOfName 13 = .ok (.bipush 48, 2) := by decide +kernel
theorem d_X_isOfName_15 : decode c_X_isOfName 15 = .ok (.if_icmp .lt 13, 3) := by decide +kernel
theorem d_X_isOfName_18 : decode c_X_isOfName 18 = .ok (.iload_n 0, 1) := by decide +kernel
theorem d_X_isOfName_19 : decode c_X_isOfName 19 = .ok (.bipush 57, 2) := by decide +kernel
theorem d_X_isOfName_21 : decode c_X_isOfName 21 = .ok (.if_icmp .gt 7, 3) := by decide +kernel
theorem d_X_isOfName_24 : decode c_X_isOfName 24 = .ok (.iconst 1, 1) := by decide +kernel
theorem d_X_isOfName_25 : decode c_X_isOfName 25 = .ok (.goto 4, 3) := by decide +kernel
theorem d_X_isOfName_28 : decode c_X_isOfName 28 = .ok (.iconst 0, 1) := by decide +kernel
theorem d_X_isOfName_29 : decode c_X_isOfName 29 = .ok (.ireturn, 1) := by decide +kernel
theorem d_Te_takeName_0 : decode c_Te_takeName 0 = .ok (.iconst 0, 1) := by decide +kernel
theorem d_Te_takeName_1 : decode c_Te_takeName 1 = .ok (.istore_n 1, 1) := by decide +kernel
theorem d_Te_takeName_2 : decode c_Te_takeName 2 = .ok (.iconst 0, 1) := by decide +kernel
theorem d_Te_takeName_3 : decode c_Te_takeName 3 = .ok (.istore_n 2, 1) := by decide +kernel
theorem d_Te_takeName_4 : decode c_Te_takeName 4 = .ok (.iload_n 2, 1) := by decide +kernel
theorem d_Te_takeName_5 : decode c_Te_takeName 5 = .ok (.iconst 3, 1) := by decide +kernel
theorem d_Te_takeName_6 : decode c_Te_takeName 6 = .ok (.if_icmp .ge 40, 3) := by decide +kernel
theorem d_Te_takeName_9 : decode c_Te_takeName 9 = .ok (.aload_n 0, 1) := by decide +kernel
theorem d_Te_takeName_10 : decode c_Te_takeName 10 = .ok (.invokevirtual 22, 3) := by decide +kernel
theorem d_Te_takeName_13 : decode c_Te_takeName 13 = .ok (.invokestatic 30, 3) := by decide +kernel
theorem d_Te_takeName_16 : decode c_Te_takeName 16 = .ok (.ifCond .eq 30, 3) := by decide +kernel
theorem d_Te_takeName_19 : decode c_Te_takeName 19 = .ok (.iload_n 1, 1) := by decide +kernel
theorem d_Te_takeName_20 : decode c_Te_takeName 20 = .ok (.sipush 128, 3) := by decide +kernel
theorem d_Te_takeName_23 : decode c_Te_takeName 23 = .ok (.imul, 1) := by decide +kernel
theorem d_Te_takeName_24 : decode c_Te_takeName 24 = .ok (.aload_n 0, 1) := by decide +kernel
theorem d_Te_takeName_25 : decode c_Te_takeName 25 = .ok (.invokevirtual 22, 3) := by decide +kernel
theorem d_Te_takeName_28 : decode c_Te_takeName 28 = .ok (.iadd, 1) := by decide +kernel
theorem d_Te_takeName_29 : decode c_Te_takeName 29 = .ok (.istore_n 1, 1) := by decide +kernel
theorem d_Te_takeName_30 : decode c_Te_takeName 30 = .ok (.aload_n 0, 1) := by decide +kernel
theorem d_Te_takeName_31 : decode c_Te_takeName 31 = .ok (.dup, 1) := by decide +kernel
theorem d_Te_takeName_32 : decode c_Te_takeName 32 = .ok (.getfield 19, 3) := by decide +kernel
theorem d_Te_takeName_35 : decode c_Te_takeName 35 = .ok (.iconst 1, 1) := by decide +kernel
theorem d_Te_takeName_36 : decode c_Te_takeName 36 = .ok (.iadd, 1) := by decide +kernel
theorem d_Te_takeName_37 : decode c_Te_takeName 37 = .ok (.putfield 19, 3) := by decide +kernel
theorem d_Te_takeName_40 : decode c_Te_takeName 40 = .ok (.iinc 2 1, 3) := by decide +kernel
theorem d_Te_takeName_43 : decode c_Te_takeName 43 = .ok (.goto (-39), 3) := by decide +kernel
theorem d_Te_takeName_46 : decode c_Te_takeName 46 = .ok (.iload_n 1, 1) := by decide +kernel
theorem d_Te_takeName_47 : decode c_Te_takeName 47 = .ok (.ireturn, 1) := by decide +kernel
theorem d_X_isBase_0 : decode c_X_isBase 0 = .ok (.iload_n 0, 1) := by decide +kernel
theorem d_X_isBase_1 : decode c_X_isBase 1 = .ok (.bipush 65, 2) := by decide +kernel
theorem d_X_isBase_3 : decode c_X_isBase 3 = .ok (.if_icmp .eq 21, 3) := by decide +kernel
theorem d_X_isBase_6 : decode c_X_isBase 6 = .ok (.iload_n 0, 1) := by decide +kernel
theorem d_X_isBase_7 : decode c_X_isBase 7 = .ok (.bipush 67, 2) := by decide +kernel
theorem d_X_isBase_9 : decode c_X_isBase 9 = .ok (.if_icmp .eq 15, 3) := by decide +kernel
theorem d_X_isBase_12 : decode c_X_isBase 12 = .ok (.iload_n 0, 1) := by decide +kernel
theorem d_X_isBase_13 : decode c_X_isBase 13 = .ok (.bipush 71, 2) := by decide +kernel
theorem d_X_isBase_15 : decode c_X_isBase 15 = .ok (.if_icmp .eq 9, 3) := by decide +kernel
theorem d_X_isBase_18 : decode c_X_isBase 18 = .ok (.iload_n 0, 1) := by decide +kernel
theorem d_X_isBase_19 : decode c_X_isBase 19 = .ok (.bipush 84, 2) := by decide +kernel
theorem d_X_isBase_21 : decode c_X_isBase 21 = .ok (.if_icmp .ne 7, 3) := by decide +kernel
theorem d_X_isBase_24 : decode c_X_isBase 24 = .ok (.iconst 1, 1) := by decide +kernel
theorem d_X_isBase_25 : decode c_X_isBase 25 = .ok (.goto 4, 3) := by decide +kernel
theorem d_X_isBase_28 : decode c_X_isBase 28 = .ok (.iconst 0, 1) := by decide +kernel
theorem d_X_isBase_29 : decode c_X_isBase 29 = .ok (.ireturn, 1) := by decide +kernel
theorem d_Te_takeBases_0 : decode c_Te_takeBases 0 = .ok (.aload_n 0, 1) := by decide +kernel
theorem d_Te_takeBases_1 : decode c_Te_takeBases 1 = .ok (.getfield 19, 3) := by decide +kernel
theorem d_Te_takeBases_4 : decode c_Te_takeBases 4 = .ok (.istore_n 1, 1) := by decide +kernel
theorem d_Te_takeBases_5 : decode c_Te_takeBases 5 = .ok (.aload_n 0, 1) := by decide +kernel
theorem d_Te_takeBases_6 : decode c_Te_takeBases 6 = .ok (.getfield 19, 3) := by decide +kernel
theorem d_Te_takeBases_9 : decode c_Te_takeBases 9 = .ok (.aload_n 0, 1) := by decide +kernel
theorem d_Te_takeBases_10 : decode c_Te_takeBases 10 = .ok (.getfield 15, 3) := by decide +kernel
theorem d_Te_takeBases_13 : decode c_Te_takeBases 13 = .ok (.if_icmp .ge 31, 3) := by decide +kernel
theorem d_Te_takeBases_16 : decode c_Te_takeBases 16 = .ok (.aload_n 0, 1) := by decide +kernel
theorem d_Te_takeBases_17 : decode c_Te_takeBases 17 = .ok (.getfield 9, 3) := by decide +kernel
theorem d_Te_takeBases_20 : decode c_Te_takeBases 20 = .ok (.aload_n 0, 1) := by decide +kernel
theorem d_Te_takeBases_21 : decode c_Te_takeBases 21 = .ok (.getfield 19, 3) := by decide +kernel
theorem d_Te_takeBases_24 : decode c_Te_takeBases 24 = .ok (.caload, 1) := by decide +kernel
theorem d_Te_takeBases_25 : decode c_Te_takeBases 25 = .ok (.invokestatic 33, 3) := by decide +kernel
theorem d_Te_takeBases_28 : decode c_Te_takeBases 28 = .ok (.ifCond .eq 16, 3) := by decide +kernel
theorem d_Te_takeBases_31 : decode c_Te_takeBases 31 = .ok (.aload_n 0, 1) := by decide +kernel
theorem d_Te_takeBases_32 : decode c_Te_takeBases 32 = .ok (.dup, 1) := by decide +kernel
theorem d_Te_takeBases_33 : decode c_Te_takeBases 33 = .ok (.getfield 19, 3) := by decide +kernel
theorem d_Te_takeBases_36 : decode c_Te_takeBases 36 = .ok (.iconst 1, 1) := by decide +kernel
theorem d_Te_takeBases_37 : decode c_Te_takeBases 37 = .ok (.iadd, 1) := by decide +kernel
theorem d_Te_takeBases_38 : decode c_Te_takeBases 38 = .ok (.putfield 19, 3) := by decide +kernel
theorem d_Te_takeBases_41 : decode c_Te_takeBases 41 = .ok (.goto (-36), 3) := by decide +kernel
theorem d_Te_takeBases_44 : decode c_Te_takeBases 44 = .ok (.aload_n 0, 1) := by decide +kernel
theorem d_Te_takeBases_45 : decode c_Te_takeBases 45 = .ok (.getfield 19, 3) := by decide +kernel
theorem d_Te_takeBases_48 : decode c_Te_takeBases 48 = .ok (.iload_n 1, 1) := by decide +kernel
theorem d_Te_takeBases_49 : decode c_Te_takeBases 49 = .ok (.isub, 1) := by decide +kernel
theorem d_Te_takeBases_50 : decode c_Te_takeBases 50 = .ok (.ireturn, 1) := by decide +kernel
theorem d_X_partner_0 : decode c_X_partner 0 = .ok (.iload_n 0, 1) := by decide +kernel
theorem d_X_partner_1 : decode c_X_partner 1 = .ok (.lookupswitch 44 #[(65, 35), (67, 38), (71, 41)], 35) := by decide +kernel
theorem d_X_partner_36 : decode c_X_partner 36 = .ok (.bipush 84, 2) := by decide +kernel
theorem d_X_partner_38 : decode c_X_partner 38 = .ok (.ireturn, 1) := by decide +kernel
theorem d_X_partner_39 : decode c_X_partner 39 = .ok (.bipush 71, 2) := by decide +kernel
theorem d_X_partner_41 : decode c_X_partner 41 = .ok (.ireturn, 1) := by decide +kernel
theorem d_X_partner_42 : decode c_X_partner 42 = .ok (.bipush 67, 2) := by decide +kernel
theorem d_X_partner_44 : decode c_X_partner 44 = .ok (.ireturn, 1) := by decide +kernel
theorem d_X_partner_45 : decode c_X_partner 45 = .ok (.bipush 65, 2) := by decide +kernel
theorem d_X_partner_47 : decode c_X_partner 47 = .ok (.ireturn, 1) := by decide +kernel
