theorem dX7_isTaken_8 : decode cX7_isTaken 8 = .ok (.if_icmp .eq 7, 3) := by decide +kernel
theorem dX7_isTaken_11 : decode cX7_isTaken 11 = .ok (.iconst 1, 1) := by decide +kernel
theorem dX7_isTaken_12 : decode cX7_isTaken 12 = .ok (.goto 4, 3) := by decide +kernel
theorem dX7_isTaken_15 : decode cX7_isTaken 15 = .ok (.iconst 0, 1) := by decide +kernel
theorem dX7_isTaken_16 : decode cX7_isTaken 16 = .ok (.ireturn, 1) := by decide +kernel
theorem dX7_isLate_0 : decode cX7_isLate 0 = .ok (.aload_n 0, 1) := by decide +kernel
theorem dX7_isLate_1 : decode cX7_isLate 1 = .ok (.getfield 28, 3) := by decide +kernel
theorem dX7_isLate_4 : decode cX7_isLate 4 = .ok (.iload_n 1, 1) := by decide +kernel
theorem dX7_isLate_5 : decode cX7_isLate 5 = .ok (.iaload, 1) := by decide +kernel
theorem dX7_isLate_6 : decode cX7_isLate 6 = .ok (.iconst (-1), 1) := by decide +kernel
theorem dX7_isLate_7 : decode cX7_isLate 7 = .ok (.if_icmp .eq 24, 3) := by decide +kernel
theorem dX7_isLate_10 : decode cX7_isLate 10 = .ok (.iload_n 2, 1) := by decide +kernel
theorem dX7_isLate_11 : decode cX7_isLate 11 = .ok (.aload_n 0, 1) := by decide +kernel
theorem dX7_isLate_12 : decode cX7_isLate 12 = .ok (.getfield 28, 3) := by decide +kernel
theorem dX7_isLate_15 : decode cX7_isLate 15 = .ok (.iload_n 1, 1) := by decide +kernel
theorem dX7_isLate_16 : decode cX7_isLate 16 = .ok (.iaload, 1) := by decide +kernel
theorem dX7_isLate_17 : decode cX7_isLate 17 = .ok (.aload_n 0, 1) := by decide +kernel
theorem dX7_isLate_18 : decode cX7_isLate 18 = .ok (.getfield 22, 3) := by decide +kernel
theorem dX7_isLate_21 : decode cX7_isLate 21 = .ok (.iload_n 1, 1) := by decide +kernel
theorem dX7_isLate_22 : decode cX7_isLate 22 = .ok (.iaload, 1) := by decide +kernel
theorem dX7_isLate_23 : decode cX7_isLate 23 = .ok (.iadd, 1) := by decide +kernel
theorem dX7_isLate_24 : decode cX7_isLate 24 = .ok (.if_icmp .le 7, 3) := by decide +kernel
theorem dX7_isLate_27 : decode cX7_isLate 27 = .ok (.iconst 1, 1) := by decide +kernel
theorem dX7_isLate_28 : decode cX7_isLate 28 = .ok (.goto 4, 3) := by decide +kernel
theorem dX7_isLate_31 : decode cX7_isLate 31 = .ok (.iconst 0, 1) := by decide +kernel
theorem dX7_isLate_32 : decode cX7_isLate 32 = .ok (.ireturn, 1) := by decide +kernel
theorem dX7_comerAt_0 : decode cX7_comerAt 0 = .ok (.iconst 0, 1) := by decide +kernel
theorem dX7_comerAt_1 : decode cX7_comerAt 1 = .ok (.istore_n 2, 1) := by decide +kernel
theorem dX7_comerAt_2 : decode cX7_comerAt 2 = .ok (.iconst 0, 1) := by decide +kernel
theorem dX7_comerAt_3 : decode cX7_comerAt 3 = .ok (.istore_n 3, 1) := by decide +kernel
theorem dX7_comerAt_4 : decode cX7_comerAt 4 = .ok (.iload_n 3, 1) := by decide +kernel
theorem dX7_comerAt_5 : decode cX7_comerAt 5 = .ok (.bipush 18, 2) := by decide +kernel
theorem dX7_comerAt_7 : decode cX7_comerAt 7 = .ok (.if_icmp .ge 47, 3) := by decide +kernel
theorem dX7_comerAt_10 : decode cX7_comerAt 10 = .ok (.iconst 0, 1) := by decide +kernel
theorem dX7_comerAt_11 : decode cX7_comerAt 11 = .ok (.istore 4, 2) := by decide +kernel
theorem dX7_comerAt_13 : decode cX7_comerAt 13 = .ok (.iload 4, 2) := by decide +kernel
theorem dX7_comerAt_15 : decode cX7_comerAt 15 = .ok (.bipush 16, 2) := by decide +kernel
theorem dX7_comerAt_17 : decode cX7_comerAt 17 = .ok (.if_icmp .ge 31, 3) := by decide +kernel
theorem dX7_comerAt_20 : decode cX7_comerAt 20 = .ok (.aload_n 0, 1) := by decide +kernel
theorem dX7_comerAt_21 : decode cX7_comerAt 21 = .ok (.getfield 18, 3) := by decide +kernel
theorem dX7_comerAt_24 : decode cX7_comerAt 24 = .ok (.iload 4, 2) := by decide +kernel
theorem dX7_comerAt_26 : decode cX7_comerAt 26 = .ok (.iaload, 1) := by decide +kernel
theorem dX7_comerAt_27 : decode cX7_comerAt 27 = .ok (.iload_n 3, 1) := by decide +kernel
theorem dX7_comerAt_28 : decode cX7_comerAt 28 = .ok (.if_icmp .ne 14, 3) := by decide +kernel
theorem dX7_comerAt_31 : decode cX7_comerAt 31 = .ok (.iload_n 2, 1) := by decide +kernel
theorem dX7_comerAt_32 : decode cX7_comerAt 32 = .ok (.iload_n 1, 1) := by decide +kernel
theorem dX7_comerAt_33 : decode cX7_comerAt 33 = .ok (.if_icmp .ne 6, 3) := by decide +kernel
theorem dX7_comerAt_36 : decode cX7_comerAt 36 = .ok (.iload 4, 2) := by decide +kernel
theorem dX7_comerAt_38 : decode cX7_comerAt 38 = .ok (.ireturn, 1) := by decide +kernel
theorem dX7_comerAt_39 : decode cX7_comerAt 39 = .ok (.iinc 2 1, 3) := by decide +kernel
theorem dX7_comerAt_42 : decode cX7_comerAt 42 = .ok (.iinc 4 1, 3) := by decide +kernel
theorem dX7_comerAt_45 : decode cX7_comerAt 45 = .ok (.goto (-32), 3) := by decide +kernel
theorem dX7_comerAt_48 : decode cX7_comerAt 48 = .ok (.iinc 3 1, 3) := by decide +kernel
theorem dX7_comerAt_51 : decode cX7_comerAt 51 = .ok (.goto (-47), 3) := by decide +kernel
theorem dX7_comerAt_54 : decode cX7_comerAt 54 = .ok (.iconst (-1), 1) := by decide +kernel
theorem dX7_comerAt_55 : decode cX7_comerAt 55 = .ok (.ireturn, 1) := by decide +kernel
theorem dX7_judgeClaim_0 : decode cX7_judgeClaim 0 = .ok (.aload_n 0, 1) := by decide +kernel
theorem dX7_judgeClaim_1 : decode cX7_judgeClaim 1 = .ok (.invokevirtual 122, 3) := by decide +kernel
theorem dX7_judgeClaim_4 : decode cX7_judgeClaim 4 = .ok (.ifCond .eq 6, 3) := by decide +kernel
theorem dX7_judgeClaim_7 : decode cX7_judgeClaim 7 = .ok (.bipush 6, 2) := by decide +kernel
theorem dX7_judgeClaim_9 : decode cX7_judgeClaim 9 = .ok (.ireturn, 1) := by decide +kernel
theorem dX7_judgeClaim_10 : decode cX7_judgeClaim 10 = .ok (.aload_n 0, 1) := by decide +kernel
theorem dX7_judgeClaim_11 : decode cX7_judgeClaim 11 = .ok (.getfield 18, 3) := by decide +kernel
theorem dX7_judgeClaim_14 : decode cX7_judgeClaim 14 = .ok (.iload_n 1, 1) := by decide +kernel
theorem dX7_judgeClaim_15 : decode cX7_judgeClaim 15 = .ok (.iaload, 1) := by decide +kernel
theorem dX7_judgeClaim_16 : decode cX7_judgeClaim 16 = .ok (.iconst (-1), 1) := by decide +kernel
theorem dX7_judgeClaim_17 : decode cX7_judgeClaim 17 = .ok (.if_icmp .eq 11, 3) := by decide +kernel
theorem dX7_judgeClaim_20 : decode cX7_judgeClaim 20 = .ok (.aload_n 0, 1) := by decide +kernel
theorem dX7_judgeClaim_21 : decode cX7_judgeClaim 21 = .ok (.iload_n 1, 1) := by decide +kernel
theorem dX7_judgeClaim_22 : decode cX7_judgeClaim 22 = .ok (.invokevirtual 126, 3) := by decide +kernel
theorem dX7_judgeClaim_25 : decode cX7_judgeClaim 25 = .ok (.ifCond .eq 5, 3) := by decide +kernel
theorem dX7_judgeClaim_28 : decode cX7_judgeClaim 28 = .ok (.iconst 1, 1) := by decide +kernel
theorem dX7_judgeClaim_29 : decode cX7_judgeClaim 29 = .ok (.ireturn, 1) := by decide +kernel
theorem dX7_judgeClaim_30 : decode cX7_judgeClaim 30 = .ok (.aload_n 0, 1) := by decide +kernel
theorem dX7_judgeClaim_31 : decode cX7_judgeClaim 31 = .ok (.iload_n 1, 1) := by decide +kernel
theorem dX7_judgeClaim_32 : decode cX7_judgeClaim 32 = .ok (.iload_n 3, 1) := by decide +kernel
theorem dX7_judgeClaim_33 : decode cX7_judgeClaim 33 = .ok (.invokevirtual 130, 3) := by decide +kernel
theorem dX7_judgeClaim_36 : decode cX7_judgeClaim 36 = .ok (.ifCond .eq 5, 3) := by decide +kernel
theorem dX7_judgeClaim_39 : decode cX7_judgeClaim 39 = .ok (.iconst 2, 1) := by decide +kernel
theorem dX7_judgeClaim_40 : decode cX7_judgeClaim 40 = .ok (.ireturn, 1) := by decide +kernel
theorem dX7_judgeClaim_41 : decode cX7_judgeClaim 41 = .ok (.aload_n 0, 1) := by decide +kernel
theorem dX7_judgeClaim_42 : decode cX7_judgeClaim 42 = .ok (.iload_n 1, 1) := by decide +kernel
theorem dX7_judgeClaim_43 : decode cX7_judgeClaim 43 = .ok (.iload_n 3, 1) := by decide +kernel
theorem dX7_judgeClaim_44 : decode cX7_judgeClaim 44 = .ok (.invokevirtual 134, 3) := by decide +kernel
theorem dX7_judgeClaim_47 : decode cX7_judgeClaim 47 = .ok (.ifCond .eq 5, 3) := by decide +kernel
theorem dX7_judgeClaim_50 : decode cX7_judgeClaim 50 = .ok (.iconst 3, 1) := by decide +kernel
theorem dX7_judgeClaim_51 : decode cX7_judgeClaim 51 = .ok (.ireturn, 1) := by decide +kernel
theorem dX7_judgeClaim_52 : decode cX7_judgeClaim 52 = .ok (.iload_n 2, 1) := by decide +kernel
theorem dX7_judgeClaim_53 : decode cX7_judgeClaim 53 = .ok (.aload_n 0, 1) := by decide +kernel
theorem dX7_judgeClaim_54 : decode cX7_judgeClaim 54 = .ok (.invokevirtual 118, 3) := by decide +kernel
theorem dX7_judgeClaim_57 : decode cX7_judgeClaim 57 = .ok (.if_icmp .ge 5, 3) := by decide +kernel
theorem dX7_judgeClaim_60 : decode cX7_judgeClaim 60 = .ok (.iconst 4, 1) := by decide +kernel
theorem dX7_judgeClaim_61 : decode cX7_judgeClaim 61 = .ok (.ireturn, 1) := by decide +kernel
theorem dX7_judgeClaim_62 : decode cX7_judgeClaim 62 = .ok (.aload 4, 2) := by decide +kernel
theorem dX7_judgeClaim_64 : decode cX7_judgeClaim 64 = .ok (.aload_n 0, 1) := by decide +kernel
theorem dX7_judgeClaim_65 : decode cX7_judgeClaim 65 = .ok (.getfield 12, 3) := by decide +kernel
theorem dX7_judgeClaim_68 : decode cX7_judgeClaim 68 = .ok (.getfield 97, 3) := by decide +kernel
theorem dX7_judgeClaim_71 : decode cX7_judgeClaim 71 = .ok (.aload_n 0, 1) := by decide +kernel
theorem dX7_judgeClaim_72 : decode cX7_judgeClaim 72 = .ok (.getfield 12, 3) := by decide +kernel
theorem dX7_judgeClaim_75 : decode cX7_judgeClaim 75 = .ok (.getfield 46, 3) := by decide +kernel
theorem dX7_judgeClaim_78 : decode cX7_judgeClaim 78 = .ok (.invokevirtual 137, 3) := by decide +kernel
theorem dX7_judgeClaim_81 : decode cX7_judgeClaim 81 = .ok (.aload_n 0, 1) := by decide +kernel
theorem dX7_judgeClaim_82 : decode cX7_judgeClaim 82 = .ok (.getfield 12, 3) := by decide +kernel
theorem dX7_judgeClaim_85 : decode cX7_judgeClaim 85 = .ok (.getfield 109, 3) := by decide +kernel
theorem dX7_judgeClaim_88 : decode cX7_judgeClaim 88 = .ok (.if_icmp .ge 7, 3) := by decide +kernel
theorem dX7_judgeClaim_91 : decode cX7_judgeClaim 91 = .ok (.iconst 5, 1) := by decide +kernel
theorem dX7_judgeClaim_92 : decode cX7_judgeClaim 92 = .ok (.goto 4, 3) := by decide +kernel
theorem dX7_judgeClaim_95 : decode cX7_judgeClaim 95 = .ok (.iconst 0, 1) := by decide +kernel
theorem dX7_judgeClaim_96 : decode cX7_judgeClaim 96 = .ok (.ireturn, 1) := by decide +kernel
theorem dX7_isBehindAnother_0 : decode cX7_isBehindAnother 0 = .ok (.iconst 0, 1) := by decide +kernel
theorem dX7_isBehindAnother_1 : decode cX7_isBehindAnother 1 = .ok (.istore_n 3, 1) := by decide +kernel
theorem dX7_isBehindAnother_2 : decode cX7_isBehindAnother 2 = .ok (.iload_n 3, 1) := by decide +kernel
theorem dX7_isBehindAnother_3 : decode cX7_isBehindAnother 3 = .ok (.bipush 16, 2) := by decide +kernel
theorem dX7_isBehindAnother_5 : decode cX7_isBehindAnother 5 = .ok (.if_icmp .ge 65, 3) := by decide +kernel
theorem dX7_isBehindAnother_8 : decode cX7_isBehindAnother 8 = .ok (.aload_n 0, 1) := by decide +kernel
theorem dX7_isBehindAnother_9 : decode cX7_isBehindAnother 9 = .ok (.getfield 18, 3) := by decide +kernel
theorem dX7_isBehindAnother_12 : decode cX7_isBehindAnother 12 = .ok (.iload_n 3, 1) := by decide +kernel
theorem dX7_isBehindAnother_13 : decode cX7_isBehindAnother 13 = .ok (.iaload, 1) := by decide +kernel
theorem dX7_isBehindAnother_14 : decode cX7_isBehindAnother 14 = .ok (.iconst (-1), 1) := by decide +kernel
theorem dX7_isBehindAnother_15 : decode cX7_isBehindAnother 15 = .ok (.if_icmp .eq 22, 3) := by decide +kernel
theorem dX7_isBehindAnother_18 : decode cX7_isBehindAnother 18 = .ok (.aload_n 0, 1) := by decide +kernel
theorem dX7_isBehindAnother_19 : decode cX7_isBehindAnother 19 = .ok (.getfield 18, 3) := by decide +kernel
theorem dX7_isBehindAnother_22 : decode cX7_isBehindAnother 22 = .ok (.iload_n 3, 1) := by decide +kernel
theorem dX7_isBehindAnother_23 : decode cX7_isBehindAnother 23 = .ok (.iaload, 1) := by decide +kernel
theorem dX7_isBehindAnother_24 : decode cX7_isBehindAnother 24 = .ok (.aload_n 0, 1) := by decide +kernel
theorem dX7_isBehindAnother_25 : decode cX7_isBehindAnother 25 = .ok (.getfield 18, 3) := by decide +kernel
theorem dX7_isBehindAnother_28 : decode cX7_isBehindAnother 28 = .ok (.iload_n 1, 1) := by decide +kernel
theorem dX7_isBehindAnother_29 : decode cX7_isBehindAnother 29 = .ok (.iaload, 1) := by decide +kernel
theorem dX7_isBehindAnother_30 : decode cX7_isBehindAnother 30 = .ok (.if_icmp .ge 7, 3) := by decide +kernel
theorem dX7_isBehindAnother_33 : decode cX7_isBehindAnother 33 = .ok (.iconst 1, 1) := by decide +kernel
theorem dX7_isBehindAnother_34 : decode cX7_isBehindAnother 34 = .ok (.goto 4, 3) := by decide +kernel
theorem dX7_isBehindAnother_37 : decode cX7_isBehindAnother 37 = .ok (.iconst 0, 1) := by decide +kernel
theorem dX7_isBehindAnother_38 : decode cX7_isBehindAnother 38 = .ok (.istore 4, 2) := by decide +kernel
theorem dX7_isBehindAnother_40 : decode cX7_isBehindAnother 40 = .ok (.iload 4, 2) := by decide +kernel
theorem dX7_isBehindAnother_42 : decode cX7_isBehindAnother 42 = .ok (.ifCond .eq 22, 3) := by decide +kernel
theorem dX7_isBehindAnother_45 : decode cX7_isBehindAnother 45 = .ok (.aload_n 0, 1) := by decide +kernel
theorem dX7_isBehindAnother_46 : decode cX7_isBehindAnother 46 = .ok (.iload_n 3, 1) := by decide +kernel
theorem dX7_isBehindAnother_47 : decode cX7_isBehindAnother 47 = .ok (.invokevirtual 126, 3) := by decide +kernel
theorem dX7_isBehindAnother_50 : decode cX7_isBehindAnother 50 = .ok (.ifCond .ne 14, 3) := by decide +kernel
theorem dX7_isBehindAnother_53 : decode cX7_isBehindAnother 53 = .ok (.aload_n 0, 1) := by decide +kernel
theorem dX7_isBehindAnother_54 : decode cX7_isBehindAnother 54 = .ok (.iload_n 3, 1) := by decide +kernel
theorem dX7_isBehindAnother_55 : decode cX7_isBehindAnother 55 = .ok (.iload_n 2, 1) := by decide +kernel
theorem dX7_isBehindAnother_56 : decode cX7_isBehindAnother 56 = .ok (.invokevirtual 130, 3) := by decide +kernel
theorem dX7_isBehindAnother_59 : decode cX7_isBehindAnother 59 = .ok (.ifCond .ne 5, 3) := by decide +kernel
theorem dX7_isBehindAnother_62 : decode cX7_isBehindAnother 62 = .ok (.iconst 1, 1) := by decide +kernel
theorem dX7_isBehindAnother_63 : decode cX7_isBehindAnother 63 = .ok (.ireturn, 1) := by decide +kernel
theorem dX7_isBehindAnother_64 : decode cX7_isBehindAnother 64 = .ok (.iinc 3 1, 3) := by decide +kernel
theorem dX7_isBehindAnother_67 : decode cX7_isBehindAnother 67 = .ok (.goto (-65), 3) := by decide +kernel
theorem dX7_isBehindAnother_70 : decode cX7_isBehindAnother 70 = .ok (.iconst 0, 1) := by decide +kernel
theorem dX7_isBehindAnother_71 : decode cX7_isBehindAnother 71 = .ok (.ireturn, 1) := by decide +kernel
theorem dX7_portion_0 : decode cX7_portion 0 = .ok (.aload_n 0, 1) := by decide +kernel
theorem dX7_portion_1 : decode cX7_portion 1 = .ok (.aload_n 0, 1) := by decide +kernel
theorem dX7_portion_2 : decode cX7_portion 2 = .ok (.getfield 18, 3) := by decide +kernel
theorem dX7_portion_5 : decode cX7_portion 5 = .ok (.iload_n 1, 1) := by decide +kernel
theorem dX7_portion_6 : decode cX7_portion 6 = .ok (.iaload, 1) := by decide +kernel
theorem dX7_portion_7 : decode cX7_portion 7 = .ok (.invokevirtual 143, 3) := by decide +kernel
theorem dX7_portion_10 : decode cX7_portion 10 = .ok (.istore_n 2, 1) := by decide +kernel
theorem dX7_portion_11 : decode cX7_portion 11 = .ok (.iload_n 2, 1) := by decide +kernel
theorem dX7_portion_12 : decode cX7_portion 12 = .ok (.ifCond .gt 5, 3) := by decide +kernel
theorem dX7_portion_15 : decode cX7_portion 15 = .ok (.iconst 0, 1) := by decide +kernel
theorem dX7_portion_16 : decode cX7_portion 16 = .ok (.ireturn, 1) := by decide +kernel
theorem dX7_portion_17 : decode cX7_portion 17 = .ok (.aload_n 0, 1) := by decide +kernel
theorem dX7_portion_18 : decode cX7_portion 18 = .ok (.getfield 12, 3) := by decide +kernel
theorem dX7_portion_21 : decode cX7_portion 21 = .ok (.getfield 109, 3) := by decide +kernel
theorem dX7_portion_24 : decode cX7_portion 24 = .ok (.istore_n 3, 1) := by decide +kernel
theorem dX7_portion_25 : decode cX7_portion 25 = .ok (.iconst 0, 1) := by decide +kernel
theorem dX7_portion_26 : decode cX7_portion 26 = .ok (.istore 4, 2) := by decide +kernel
theorem dX7_portion_28 : decode cX7_portion 28 = .ok (.iconst 0, 1) := by decide +kernel
theorem dX7_portion_29 : decode cX7_portion 29 = .ok (.istore 5, 2) := by decide +kernel
theorem dX7_portion_31 : decode cX7_portion 31 = .ok (.iload 5, 2) := by decide +kernel
theorem dX7_portion_33 : decode cX7_portion 33 = .ok (.bipush 16, 2) := by decide +kernel
theorem dX7_portion_35 : decode cX7_portion 35 = .ok (.if_icmp .ge 61, 3) := by decide +kernel
theorem dX7_portion_38 : decode cX7_portion 38 = .ok (.aload_n 0, 1) := by decide +kernel
theorem dX7_portion_39 : decode cX7_portion 39 = .ok (.getfield 18, 3) := by decide +kernel
theorem dX7_portion_42 : decode cX7_portion 42 = .ok (.iload 5, 2) := by decide +kernel
theorem dX7_portion_44 : decode cX7_portion 44 = .ok (.iaload, 1) := by decide +kernel
theorem dX7_portion_45 : decode cX7_portion 45 = .ok (.aload_n 0, 1) := by decide +kernel
theorem dX7_portion_46 : decode cX7_portion 46 = .ok (.getfield 18, 3) := by decide +kernel
theorem dX7_portion_49 : decode cX7_portion 49 = .ok (.iload_n 1, 1) := by decide +kernel
theorem dX7_portion_50 : decode cX7_portion 50 = .ok (.iaload, 1) := by decide +kernel
theorem dX7_portion_51 : decode cX7_portion 51 = .ok (.if_icmp .ne 39, 3) := by decide +kernel
theorem dX7_portion_54 : decode cX7_portion 54 = .ok (.iload_n 3, 1) := by decide +kernel
theorem dX7_portion_55 : decode cX7_portion 55 = .ok (.aload_n 0, 1) := by decide +kernel
theorem dX7_portion_56 : decode cX7_portion 56 = .ok (.getfield 12, 3) := by decide +kernel
theorem dX7_portion_59 : decode cX7_portion 59 = .ok (.getfield 109, 3) := by decide +kernel
theorem dX7_portion_62 : decode cX7_portion 62 = .ok (.aload_n 0, 1) := by decide +kernel
theorem dX7_portion_63 : decode cX7_portion 63 = .ok (.getfield 25, 3) := by decide +kernel
theorem dX7_portion_66 : decode cX7_portion 66 = .ok (.iload 5, 2) := by decide +kernel
theorem dX7_portion_68 : decode cX7_portion 68 = .ok (.iaload, 1) := by decide +kernel
theorem dX7_portion_69 : decode cX7_portion 69 = .ok (.imul, 1) := by decide +kernel
theorem dX7_portion_70 : decode cX7_portion 70 = .ok (.iload_n 2, 1) := by decide +kernel
theorem dX7_portion_71 : decode cX7_portion 71 = .ok (.idiv, 1) := by decide +kernel
theorem dX7_portion_72 : decode cX7_portion 72 = .ok (.isub, 1) := by decide +kernel
theorem dX7_portion_73 : decode cX7_portion 73 = .ok (.istore_n 3, 1) := by decide +kernel
theorem dX7_portion_74 : decode cX7_portion 74 = .ok (.iload 4, 2) := by decide +kernel
theorem dX7_portion_76 : decode cX7_portion 76 = .ok (.iload 5, 2) := by decide +kernel
theorem dX7_portion_78 : decode cX7_portion 78 = .ok (.iload_n 1, 1) := by decide +kernel
theorem dX7_portion_79 : decode cX7_portion 79 = .ok (.if_icmp .ge 7, 3) := by decide +kernel
theorem dX7_portion_82 : decode cX7_portion 82 = .ok (.iconst 1, 1) := by decide +kernel
theorem dX7_portion_83 : decode cX7_portion 83 = .ok (.goto 4, 3) := by decide +kernel
theorem dX7_portion_86 : decode cX7_portion 86 = .ok (.iconst 0, 1) := by decide +kernel
theorem dX7_portion_87 : decode cX7_portion 87 = .ok (.iadd, 1) := by decide +kernel
theorem dX7_portion_88 : decode cX7_portion 88 = .ok (.istore 4, 2) := by decide +kernel
theorem dX7_portion_90 : decode cX7_portion 90 = .ok (.iinc 5 1, 3) := by decide +kernel
theorem dX7_portion_93 : decode cX7_portion 93 = .ok (.goto (-62), 3) := by decide +kernel
theorem dX7_portion_96 : decode cX7_portion 96 = .ok (.aload_n 0, 1) := by decide +kernel
theorem dX7_portion_97 : decode cX7_portion 97 = .ok (.getfield 12, 3) := by decide +kernel
theorem dX7_portion_100 : decode cX7_portion 100 = .ok (.getfield 109, 3) := by decide +kernel
theorem dX7_portion_103 : decode cX7_portion 103 = .ok (.aload_n 0, 1) := by decide +kernel
theorem dX7_portion_104 : decode cX7_portion 104 = .ok (.getfield 25, 3) := by decide +kernel
theorem dX7_portion_107 : decode cX7_portion 107 = .ok (.iload_n 1, 1) := by decide +kernel
theorem dX7_portion_108 : decode cX7_portion 108 = .ok (.iaload, 1) := by decide +kernel
theorem dX7_portion_109 : decode cX7_portion 109 = .ok (.imul, 1) := by decide +kernel
theorem dX7_portion_110 : decode cX7_portion 110 = .ok (.iload_n 2, 1) := by decide +kernel
theorem dX7_portion_111 : decode cX7_portion 111 = .ok (.idiv, 1) := by decide +kernel
theorem dX7_portion_112 : decode cX7_portion 112 = .ok (.iload 4, 2) := by decide +kernel
theorem dX7_portion_114 : decode cX7_portion 114 = .ok (.iload_n 3, 1) := by decide +kernel
theorem dX7_portion_115 : decode cX7_portion 115 = .ok (.if_icmp .ge 7, 3) := by decide +kernel
theorem dX7_portion_118 : decode cX7_portion 118 = .ok (.iconst 1, 1) := by decide +kernel
theorem dX7_portion_119 : decode cX7_portion 119 = .ok (.goto 4, 3) := by decide +kernel
theorem dX7_portion_122 : decode cX7_portion 122 = .ok (.iconst 0, 1) := by decide +kernel
theorem dX7_portion_123 : decode cX7_portion 123 = .ok (.iadd, 1) := by decide +kernel
theorem dX7_portion_124 : decode cX7_portion 124 = .ok (.ireturn, 1) := by decide +kernel
theorem dX7_weightsOf_0 : decode cX7_weightsOf 0 = .ok (.iconst 0, 1) := by decide +kernel
theorem dX7_weightsOf_1 : decode cX7_weightsOf 1 = .ok (.istore_n 2, 1) := by decide +kernel
theorem dX7_weightsOf_2 : decode cX7_weightsOf 2 = .ok (.iconst 0, 1) := by decide +kernel
theorem dX7_weightsOf_3 : decode cX7_weightsOf 3 = .ok (.istore_n 3, 1) := by decide +kernel
theorem dX7_weightsOf_4 : decode cX7_weightsOf 4 = .ok (.iload_n 3, 1) := by decide +kernel
theorem dX7_weightsOf_5 : decode cX7_weightsOf 5 = .ok (.bipush 16, 2) := by decide +kernel
theorem dX7_weightsOf_7 : decode cX7_weightsOf 7 = .ok (.if_icmp .ge 28, 3) := by decide +kernel
theorem dX7_weightsOf_10 : decode cX7_weightsOf 10 = .ok (.aload_n 0, 1) := by decide +kernel
theorem dX7_weightsOf_11 : decode cX7_weightsOf 11 = .ok (.getfield 18, 3) := by decide +kernel
theorem dX7_weightsOf_14 : decode cX7_weightsOf 14 = .ok (.iload_n 3, 1) := by decide +kernel
theorem dX7_weightsOf_15 : decode cX7_weightsOf 15 = .ok (.iaload, 1) := by decide +kernel
theorem dX7_weightsOf_16 : decode cX7_weightsOf 16 = .ok (.iload_n 1, 1) := by decide +kernel
theorem dX7_weightsOf_17 : decode cX7_weightsOf 17 = .ok (.if_icmp .ne 12, 3) := by decide +kernel
theorem dX7_weightsOf_20 : decode cX7_weightsOf 20 = .ok (.iload_n 2, 1) := by decide +kernel
theorem dX7_weightsOf_21 : decode cX7_weightsOf 21 = .ok (.aload_n 0, 1) := by decide +kernel
theorem dX7_weightsOf_22 : decode cX7_weightsOf 22 = .ok (.getfield 25, 3) := by decide +kernel
theorem dX7_weightsOf_25 : decode cX7_weightsOf 25 = .ok (.iload_n 3, 1) := by decide +kernel
theorem dX7_weightsOf_26 : decode cX7_weightsOf 26 = .ok (.iaload, 1) := by decide +kernel
theorem dX7_weightsOf_27 : decode cX7_weightsOf 27 = .ok (.iadd, 1) := by decide +kernel
theorem dX7_weightsOf_28 : decode cX7_weightsOf 28 = .ok (.istore_n 2, 1) := by decide +kernel
theorem dX7_weightsOf_29 : decode cX7_weightsOf 29 = .ok (.iinc 3 1, 3) := by decide +kernel
theorem dX7_weightsOf_32 : decode cX7_weightsOf 32 = .ok (.goto (-28), 3) := by decide +kernel
theorem dX7_weightsOf_35 : decode cX7_weightsOf 35 = .ok (.iload_n 2, 1) := by decide +kernel
theorem dX7_weightsOf_36 : decode cX7_weightsOf 36 = .ok (.ireturn, 1) := by decide +kernel
theorem dX8_init_0 : decode cX8_init 0 = .ok (.aload_n 0, 1) := by decide +kernel
theorem dX8_init_1 : decode cX8_init 1 = .ok (.invokespecial 3, 3) := by decide +kernel
theorem dX8_init_4 : decode cX8_init 4 = .ok (.aload_n 0, 1) := by decide +kernel
theorem dX8_init_5 : decode cX8_init 5 = .ok (.sipush 1000, 3) := by decide +kernel
theorem dX8_init_8 : decode cX8_init 8 = .ok (.newarray .byte, 2) := by decide +kernel
theorem dX8_init_10 : decode cX8_init 10 = .ok (.putfield 9, 3) := by decide +kernel
theorem dX8_init_13 : decode cX8_init 13 = .ok (.return_, 1) := by decide +kernel
theorem dX8_write_0 : decode cX8_write 0 = .ok (.bipush 56, 2) := by decide +kernel
theorem dX8_write_2 : decode cX8_write 2 = .ok (.istore_n 3, 1) := by decide +kernel
theorem dX8_write_3 : decode cX8_write 3 = .ok (.iload_n 3, 1) := by decide +kernel
theorem dX8_write_4 : decode cX8_write 4 = .ok (.ifCond .lt 72, 3) := by decide +kernel
theorem dX8_write_7 : decode cX8_write 7 = .ok (.lload_n 1, 1) := by decide +kernel
theorem dX8_write_8 : decode cX8_write 8 = .ok (.iload_n 3, 1) := by decide +kernel
theorem dX8_write_9 : decode cX8_write 9 = .ok (.lushr, 1) := by decide +kernel
theorem dX8_write_10 : decode cX8_write 10 = .ok (.l2i, 1) := by decide +kernel
theorem dX8_write_11 : decode cX8_write 11 = .ok (.sipush 255, 3) := by decide +kernel
theorem dX8_write_14 : decode cX8_write 14 = .ok (.iand, 1) := by decide +kernel
theorem dX8_write_15 : decode cX8_write 15 = .ok (.istore 4, 2) := by decide +kernel
theorem dX8_write_17 : decode cX8_write 17 = .ok (.aload_n 0, 1) := by decide +kernel
theorem dX8_write_18 : decode cX8_write 18 = .ok (.getfield 15, 3) := by decide +kernel
theorem dX8_write_21 : decode cX8_write 21 = .ok (.sipush 1000, 3) := by decide +kernel
theorem dX8_write_24 : decode cX8_write 24 = .ok (.if_icmp .ge 46, 3) := by decide +kernel
theorem dX8_write_27 : decode cX8_write 27 = .ok (.iload 4, 2) := by decide +kernel
theorem dX8_write_29 : decode cX8_write 29 = .ok (.bipush 10, 2) := by decide +kernel
theorem dX8_write_31 : decode cX8_write 31 = .ok (.if_icmp .eq 17, 3) := by decide +kernel
theorem dX8_write_34 : decode cX8_write 34 = .ok (.iload 4, 2) := by decide +kernel
theorem dX8_write_36 : decode cX8_write 36 = .ok (.bipush 32, 2) := by decide +kernel
theorem dX8_write_38 : decode cX8_write 38 = .ok (.if_icmp .lt 32, 3) := by decide +kernel
theorem dX8_write_41 : decode cX8_write 41 = .ok (.iload 4, 2) := by decide +kernel
theorem dX8_write_43 : decode cX8_write 43 = .ok (.bipush 126, 2) := by decide +kernel
theorem dX8_write_45 : decode cX8_write 45 = .ok (.if_icmp .gt 25, 3) := by decide +kernel
theorem dX8_write_48 : decode cX8_write 48 = .ok (.aload_n 0, 1) := by decide +kernel
theorem dX8_write_49 : decode cX8_write 49 = .ok (.getfield 9, 3) := by decide +kernel
theorem dX8_write_52 : decode cX8_write 52 = .ok (.aload_n 0, 1) := by decide +kernel
theorem dX8_write_53 : decode cX8_write 53 = .ok (.getfield 15, 3) := by decide +kernel
theorem dX8_write_56 : decode cX8_write 56 = .ok (.iload 4, 2) := by decide +kernel
theorem dX8_write_58 : decode cX8_write 58 = .ok (.i2b, 1) := by decide +kernel
theorem dX8_write_59 : decode cX8_write 59 = .ok (.bastore, 1) := by decide +kernel
theorem dX8_write_60 : decode cX8_write 60 = .ok (.aload_n 0, 1) := by decide +kernel
theorem dX8_write_61 : decode cX8_write 61 = .ok (.dup, 1) := by decide +kernel
theorem dX8_write_62 : decode cX8_write 62 = .ok (.getfield 15, 3) := by decide +kernel
theorem dX8_write_65 : decode cX8_write 65 = .ok (.iconst 1, 1) := by decide +kernel
theorem dX8_write_66 : decode cX8_write 66 = .ok (.iadd, 1) := by decide +kernel
theorem dX8_write_67 : decode cX8_write 67 = .ok (.putfield 15, 3) := by decide +kernel
theorem dX8_write_70 : decode cX8_write 70 = .ok (.iinc 3 (-8), 3) := by decide +kernel
theorem dX8_write_73 : decode cX8_write 73 = .ok (.goto (-70), 3) := by decide +kernel
theorem dX8_write_76 : decode cX8_write 76 = .ok (.return_, 1) := by decide +kernel
theorem dX8_read_0 : decode cX8_read 0 = .ok (.aload_n 0, 1) := by decide +kernel
theorem dX8_read_1 : decode cX8_read 1 = .ok (.aload_n 1, 1) := by decide +kernel
theorem dX8_read_2 : decode cX8_read 2 = .ok (.putfield 19, 3) := by decide +kernel
theorem dX8_read_5 : decode cX8_read 5 = .ok (.aload_n 0, 1) := by decide +kernel
theorem dX8_read_6 : decode cX8_read 6 = .ok (.getfield 19, 3) := by decide +kernel
theorem dX8_read_9 : decode cX8_read 9 = .ok (.invokevirtual 23, 3) := by decide +kernel
theorem dX8_read_12 : decode cX8_read 12 = .ok (.aload_n 0, 1) := by decide +kernel
theorem dX8_read_13 : decode cX8_read 13 = .ok (.iconst 0, 1) := by decide +kernel
theorem dX8_read_14 : decode cX8_read 14 = .ok (.putfield 28, 3) := by decide +kernel
theorem dX8_read_17 : decode cX8_read 17 = .ok (.aload_n 0, 1) := by decide +kernel
theorem dX8_read_18 : decode cX8_read 18 = .ok (.iconst 0, 1) := by decide +kernel
theorem dX8_read_19 : decode cX8_read 19 = .ok (.putfield 32, 3) := by decide +kernel
theorem dX8_read_22 : decode cX8_read 22 = .ok (.aload_n 0, 1) := by decide +kernel
theorem dX8_read_23 : decode cX8_read 23 = .ok (.iconst 0, 1) := by decide +kernel
theorem dX8_read_24 : decode cX8_read 24 = .ok (.putfield 35, 3) := by decide +kernel
theorem dX8_read_27 : decode cX8_read 27 = .ok (.aload_n 0, 1) := by decide +kernel
theorem dX8_read_28 : decode cX8_read 28 = .ok (.iconst 0, 1) := by decide +kernel
theorem dX8_read_29 : decode cX8_read 29 = .ok (.putfield 38, 3) := by decide +kernel
theorem dX8_read_32 : decode cX8_read 32 = .ok (.aload_n 0, 1) := by decide +kernel
theorem dX8_read_33 : decode cX8_read 33 = .ok (.invokevirtual 41, 3) := by decide +kernel
theorem dX8_read_36 : decode cX8_read 36 = .ok (.iconst 0, 1) := by decide +kernel
theorem dX8_read_37 : decode cX8_read 37 = .ok (.istore_n 2, 1) := by decide +kernel
theorem dX8_read_38 : decode cX8_read 38 = .ok (.iload_n 2, 1) := by decide +kernel
theorem dX8_read_39 : decode cX8_read 39 = .ok (.sipush 1000, 3) := by decide +kernel
theorem dX8_read_42 : decode cX8_read 42 = .ok (.if_icmp .gt 135, 3) := by decide +kernel
theorem dX8_read_45 : decode cX8_read 45 = .ok (.aload_n 0, 1) := by decide +kernel
theorem dX8_read_46 : decode cX8_read 46 = .ok (.getfield 44, 3) := by decide +kernel
theorem dX8_read_49 : decode cX8_read 49 = .ok (.bipush 33, 2) := by decide +kernel
theorem dX8_read_51 : decode cX8_read 51 = .ok (.if_icmp .eq 126, 3) := by decide +kernel
theorem dX8_read_54 : decode cX8_read 54 = .ok (.aload_n 0, 1) := by decide +kernel
theorem dX8_read_55 : decode cX8_read 55 = .ok (.getfield 44, 3) := by decide +kernel
theorem dX8_read_58 : decode cX8_read 58 = .ok (.bipush 20, 2) := by decide +kernel
theorem dX8_read_60 : decode cX8_read 60 = .ok (.if_icmp .ne 7, 3) := by decide +kernel
theorem dX8_read_63 : decode cX8_read 63 = .ok (.iconst 1, 1) := by decide +kernel
theorem dX8_read_64 : decode cX8_read 64 = .ok (.goto 4, 3) := by decide +kernel
theorem dX8_read_67 : decode cX8_read 67 = .ok (.iconst 0, 1) := by decide +kernel
theorem dX8_read_68 : decode cX8_read 68 = .ok (.istore_n 3, 1) := by decide +kernel
theorem dX8_read_69 : decode cX8_read 69 = .ok (.iload_n 3, 1) := by decide +kernel
theorem dX8_read_70 : decode cX8_read 70 = .ok (.ifCond .eq 23, 3) := by decide +kernel
theorem dX8_read_73 : decode cX8_read 73 = .ok (.aload_n 0, 1) := by decide +kernel
theorem dX8_read_74 : decode cX8_read 74 = .ok (.getfield 19, 3) := by decide +kernel
theorem dX8_read_77 : decode cX8_read 77 = .ok (.getfield 47, 3) := by decide +kernel
theorem dX8_read_80 : decode cX8_read 80 = .ok (.bipush 6, 2) := by decide +kernel
theorem dX8_read_82 : decode cX8_read 82 = .ok (.if_icmp .lt 11, 3) := by decide +kernel
theorem dX8_read_85 : decode cX8_read 85 = .ok (.aload_n 0, 1) := by decide +kernel
theorem dX8_read_86 : decode cX8_read 86 = .ok (.iconst 5, 1) := by decide +kernel
theorem dX8_read_87 : decode cX8_read 87 = .ok (.invokevirtual 50, 3) := by decide +kernel
theorem dX8_read_90 : decode cX8_read 90 = .ok (.goto 11, 3) := by decide +kernel
theorem dX8_read_93 : decode cX8_read 93 = .ok (.iload_n 3, 1) := by decide +kernel
theorem dX8_read_94 : decode cX8_read 94 = .ok (.ifCond .eq 7, 3) := by decide +kernel
theorem dX8_read_97 : decode cX8_read 97 = .ok (.aload_n 0, 1) := by decide +kernel
theorem dX8_read_98 : decode cX8_read 98 = .ok (.invokevirtual 41, 3) := by decide +kernel
theorem dX8_read_101 : decode cX8_read 101 = .ok (.aload_n 0, 1) := by decide +kernel
theorem dX8_read_102 : decode cX8_read 102 = .ok (.getfield 44, 3) := by decide +kernel
theorem dX8_read_105 : decode cX8_read 105 = .ok (.bipush 18, 2) := by decide +kernel
theorem dX8_read_107 : decode cX8_read 107 = .ok (.if_icmp .eq 12, 3) := by decide +kernel
theorem dX8_read_110 : decode cX8_read 110 = .ok (.aload_n 0, 1) := by decide +kernel
theorem dX8_read_111 : decode cX8_read 111 = .ok (.getfield 44, 3) := by decide +kernel
theorem dX8_read_114 : decode cX8_read 114 = .ok (.bipush 19, 2) := by decide +kernel
theorem dX8_read_116 : decode cX8_read 116 = .ok (.if_icmp .ne 11, 3) := by decide +kernel
theorem dX8_read_119 : decode cX8_read 119 = .ok (.aload_n 0, 1) := by decide +kernel
theorem dX8_read_120 : decode cX8_read 120 = .ok (.iload_n 3, 1) := by decide +kernel
theorem dX8_read_121 : decode cX8_read 121 = .ok (.invokevirtual 54, 3) := by decide +kernel
theorem dX8_read_124 : decode cX8_read 124 = .ok (.goto 47, 3) := by decide +kernel
theorem dX8_read_127 : decode cX8_read 127 = .ok (.aload_n 0, 1) := by decide +kernel
theorem dX8_read_128 : decode cX8_read 128 = .ok (.getfield 44, 3) := by decide +kernel
theorem dX8_read_131 : decode cX8_read 131 = .ok (.iconst 1, 1) := by decide +kernel
theorem dX8_read_132 : decode cX8_read 132 = .ok (.if_icmp .ne 14, 3) := by decide +kernel
theorem dX8_read_135 : decode cX8_read 135 = .ok (.iload_n 3, 1) := by decide +kernel
theorem dX8_read_136 : decode cX8_read 136 = .ok (.ifCond .ne 10, 3) := by decide +kernel
theorem dX8_read_139 : decode cX8_read 139 = .ok (.aload_n 0, 1) := by decide +kernel
theorem dX8_read_140 : decode cX8_read 140 = .ok (.invokevirtual 58, 3) := by decide +kernel
theorem dX8_read_143 : decode cX8_read 143 = .ok (.goto 28, 3) := by decide +kernel
theorem dX8_read_146 : decode cX8_read 146 = .ok (.aload_n 0, 1) := by decide +kernel
theorem dX8_read_147 : decode cX8_read 147 = .ok (.getfield 44, 3) := by decide +kernel
theorem dX8_read_150 : decode cX8_read 150 = .ok (.bipush 21, 2) := by decide +kernel
theorem dX8_read_152 : decode cX8_read 152 = .ok (.if_icmp .ne 14, 3) := by decide +kernel
theorem dX8_read_155 : decode cX8_read 155 = .ok (.iload_n 3, 1) := by decide +kernel
theorem dX8_read_156 : decode cX8_read 156 = .ok (.ifCond .ne 10, 3) := by decide +kernel
theorem dX8_read_159 : decode cX8_read 159 = .ok (.aload_n 0, 1) := by decide +kernel
theorem dX8_read_160 : decode cX8_read 160 = .ok (.invokevirtual 61, 3) := by decide +kernel
theorem dX8_read_163 : decode cX8_read 163 = .ok (.goto 8, 3) := by decide +kernel
theorem dX8_read_166 : decode cX8_read 166 = .ok (.aload_n 0, 1) := by decide +kernel
theorem dX8_read_167 : decode cX8_read 167 = .ok (.iconst 1, 1) := by decide +kernel
theorem dX8_read_168 : decode cX8_read 168 = .ok (.invokevirtual 50, 3) := by decide +kernel
theorem dX8_read_171 : decode cX8_read 171 = .ok (.iinc 2 1, 3) := by decide +kernel
theorem dX8_read_174 : decode cX8_read 174 = .ok (.goto (-136), 3) := by decide +kernel
theorem dX8_read_177 : decode cX8_read 177 = .ok (.aload_n 0, 1) := by decide +kernel
theorem dX8_read_178 : decode cX8_read 178 = .ok (.iconst 0, 1) := by decide +kernel
theorem dX8_read_179 : decode cX8_read 179 = .ok (.putfield 15, 3) := by decide +kernel
theorem dX8_read_182 : decode cX8_read 182 = .ok (.aload_n 0, 1) := by decide +kernel
theorem dX8_read_183 : decode cX8_read 183 = .ok (.getfield 35, 3) := by decide +kernel
theorem dX8_read_186 : decode cX8_read 186 = .ok (.ireturn, 1) := by decide +kernel
theorem dX8_wrong_0 : decode cX8_wrong 0 = .ok (.aload_n 0, 1) := by decide +kernel
theorem dX8_wrong_1 : decode cX8_wrong 1 = .ok (.getfield 35, 3) := by decide +kernel
theorem dX8_wrong_4 : decode cX8_wrong 4 = .ok (.ifCond .ne 16, 3) := by decide +kernel
theorem dX8_wrong_7 : decode cX8_wrong 7 = .ok (.aload_n 0, 1) := by decide +kernel
theorem dX8_wrong_8 : decode cX8_wrong 8 = .ok (.iload_n 1, 1) := by decide +kernel
theorem dX8_wrong_9 : decode cX8_wrong 9 = .ok (.bipush 16, 2) := by decide +kernel
theorem dX8_wrong_11 : decode cX8_wrong 11 = .ok (.aload_n 0, 1) := by decide +kernel
theorem dX8_wrong_12 : decode cX8_wrong 12 = .ok (.getfield 64, 3) := by decide +kernel
theorem dX8_wrong_15 : decode cX8_wrong 15 = .ok (.imul, 1) := by decide +kernel
theorem dX8_wrong_16 : decode cX8_wrong 16 = .ok (.iadd, 1) := by decide +kernel
theorem dX8_wrong_17 : decode cX8_wrong 17 = .ok (.putfield 35, 3) := by decide +kernel
theorem dX8_wrong_20 : decode cX8_wrong 20 = .ok (.aload_n 0, 1) := by decide +kernel
theorem dX8_wrong_21 : decode cX8_wrong 21 = .ok (.aload_n 0, 1) := by decide +kernel
theorem dX8_wrong_22 : decode cX8_wrong 22 = .ok (.getfield 15, 3) := by decide +kernel
theorem dX8_wrong_25 : decode cX8_wrong 25 = .ok (.putfield 38, 3) := by decide +kernel
theorem dX8_wrong_28 : decode cX8_wrong 28 = .ok (.aload_n 0, 1) := by decide +kernel
theorem dX8_wrong_29 : decode cX8_wrong 29 = .ok (.bipush 33, 2) := by decide +kernel
theorem dX8_wrong_31 : decode cX8_wrong 31 = .ok (.putfield 44, 3) := by decide +kernel
theorem dX8_wrong_34 : decode cX8_wrong 34 = .ok (.return_, 1) := by decide +kernel
theorem dX8_next_0 : decode cX8_next 0 = .ok (.aload_n 0, 1) := by decide +kernel
theorem dX8_next_1 : decode cX8_next 1 = .ok (.getfield 38, 3) := by decide +kernel
theorem dX8_next_4 : decode cX8_next 4 = .ok (.aload_n 0, 1) := by decide +kernel
theorem dX8_next_5 : decode cX8_next 5 = .ok (.getfield 15, 3) := by decide +kernel
theorem dX8_next_8 : decode cX8_next 8 = .ok (.if_icmp .ge 44, 3) := by decide +kernel
theorem dX8_next_11 : decode cX8_next 11 = .ok (.aload_n 0, 1) := by decide +kernel
theorem dX8_next_12 : decode cX8_next 12 = .ok (.getfield 9, 3) := by decide +kernel
theorem dX8_next_15 : decode cX8_next 15 = .ok (.aload_n 0, 1) := by decide +kernel
theorem dX8_next_16 : decode cX8_next 16 = .ok (.getfield 38, 3) := by decide +kernel
theorem dX8_next_19 : decode cX8_next 19 = .ok (.baload, 1) := by decide +kernel
theorem dX8_next_20 : decode cX8_next 20 = .ok (.bipush 10, 2) := by decide +kernel
theorem dX8_next_22 : decode cX8_next 22 = .ok (.if_icmp .eq 17, 3) := by decide +kernel
theorem dX8_next_25 : decode cX8_next 25 = .ok (.aload_n 0, 1) := by decide +kernel
theorem dX8_next_26 : decode cX8_next 26 = .ok (.getfield 9, 3) := by decide +kernel
theorem dX8_next_29 : decode cX8_next 29 = .ok (.aload_n 0, 1) := by decide +kernel
theorem dX8_next_30 : decode cX8_next 30 = .ok (.getfield 38, 3) := by decide +kernel
theorem dX8_next_33 : decode cX8_next 33 = .ok (.baload, 1) := by decide +kernel
theorem dX8_next_34 : decode cX8_next 34 = .ok (.bipush 32, 2) := by decide +kernel
theorem dX8_next_36 : decode cX8_next 36 = .ok (.if_icmp .ne 16, 3) := by decide +kernel
theorem dX8_next_39 : decode cX8_next 39 = .ok (.aload_n 0, 1) := by decide +kernel
theorem dX8_next_40 : decode cX8_next 40 = .ok (.dup, 1) := by decide +kernel
theorem dX8_next_41 : decode cX8_next 41 = .ok (.getfield 38, 3) := by decide +kernel
theorem dX8_next_44 : decode cX8_next 44 = .ok (.iconst 1, 1) := by decide +kernel
theorem dX8_next_45 : decode cX8_next 45 = .ok (.iadd, 1) := by decide +kernel
theorem dX8_next_46 : decode cX8_next 46 = .ok (.putfield 38, 3) := by decide +kernel
theorem dX8_next_49 : decode cX8_next 49 = .ok (.goto (-49), 3) := by decide +kernel
theorem dX8_next_52 : decode cX8_next 52 = .ok (.aload_n 0, 1) := by decide +kernel
theorem dX8_next_53 : decode cX8_next 53 = .ok (.aload_n 0, 1) := by decide +kernel
theorem dX8_next_54 : decode cX8_next 54 = .ok (.getfield 38, 3) := by decide +kernel
theorem dX8_next_57 : decode cX8_next 57 = .ok (.putfield 64, 3) := by decide +kernel
theorem dX8_next_60 : decode cX8_next 60 = .ok (.aload_n 0, 1) := by decide +kernel
theorem dX8_next_61 : decode cX8_next 61 = .ok (.getfield 38, 3) := by decide +kernel
theorem dX8_next_64 : decode cX8_next 64 = .ok (.aload_n 0, 1) := by decide +kernel
theorem dX8_next_65 : decode cX8_next 65 = .ok (.getfield 15, 3) := by decide +kernel
theorem dX8_next_68 : decode cX8_next 68 = .ok (.if_icmp .lt 12, 3) := by decide +kernel
theorem dX8_next_71 : decode cX8_next 71 = .ok (.aload_n 0, 1) := by decide +kernel
theorem dX8_next_72 : decode cX8_next 72 = .ok (.bipush 33, 2) := by decide +kernel
theorem dX8_next_74 : decode cX8_next 74 = .ok (.putfield 44, 3) := by decide +kernel
theorem dX8_next_77 : decode cX8_next 77 = .ok (.goto 90, 3) := by decide +kernel
theorem dX8_next_80 : decode cX8_next 80 = .ok (.aload_n 0, 1) := by decide +kernel
theorem dX8_next_81 : decode cX8_next 81 = .ok (.getfield 9, 3) := by decide +kernel
theorem dX8_next_84 : decode cX8_next 84 = .ok (.aload_n 0, 1) := by decide +kernel
theorem dX8_next_85 : decode cX8_next 85 = .ok (.getfield 38, 3) := by decide +kernel
theorem dX8_next_88 : decode cX8_next 88 = .ok (.baload, 1) := by decide +kernel
theorem dX8_next_89 : decode cX8_next 89 = .ok (.invokestatic 67, 3) := by decide +kernel
theorem dX8_next_92 : decode cX8_next 92 = .ok (.ifCond .eq 10, 3) := by decide +kernel
theorem dX8_next_95 : decode cX8_next 95 = .ok (.aload_n 0, 1) := by decide +kernel
theorem dX8_next_96 : decode cX8_next 96 = .ok (.invokevirtual 71, 3) := by decide +kernel
theorem dX8_next_99 : decode cX8_next 99 = .ok (.goto 68, 3) := by decide +kernel
theorem dX8_next_102 : decode cX8_next 102 = .ok (.aload_n 0, 1) := by decide +kernel
theorem dX8_next_103 : decode cX8_next 103 = .ok (.getfield 9, 3) := by decide +kernel
theorem dX8_next_106 : decode cX8_next 106 = .ok (.aload_n 0, 1) := by decide +kernel
theorem dX8_next_107 : decode cX8_next 107 = .ok (.getfield 38, 3) := by decide +kernel
theorem dX8_next_110 : decode cX8_next 110 = .ok (.baload, 1) := by decide +kernel
theorem dX8_next_111 : decode cX8_next 111 = .ok (.invokestatic 74, 3) := by decide +kernel
theorem dX8_next_114 : decode cX8_next 114 = .ok (.ifCond .eq 10, 3) := by decide +kernel
theorem dX8_next_117 : decode cX8_next 117 = .ok (.aload_n 0, 1) := by decide +kernel
theorem dX8_next_118 : decode cX8_next 118 = .ok (.invokevirtual 77, 3) := by decide +kernel
theorem dX8_next_121 : decode cX8_next 121 = .ok (.goto 46, 3) := by decide +kernel
theorem dX8_next_124 : decode cX8_next 124 = .ok (.aload_n 0, 1) := by decide +kernel
theorem dX8_next_125 : decode cX8_next 125 = .ok (.aload_n 0, 1) := by decide +kernel
theorem dX8_next_126 : decode cX8_next 126 = .ok (.getfield 9, 3) := by decide +kernel
theorem dX8_next_129 : decode cX8_next 129 = .ok (.aload_n 0, 1) := by decide +kernel
theorem dX8_next_130 : decode cX8_next 130 = .ok (.getfield 38, 3) := by decide +kernel
theorem dX8_next_133 : decode cX8_next 133 = .ok (.baload, 1) := by decide +kernel
theorem dX8_next_134 : decode cX8_next 134 = .ok (.invokestatic 80, 3) := by decide +kernel
theorem dX8_next_137 : decode cX8_next 137 = .ok (.ifCond .eq 15, 3) := by decide +kernel
theorem dX8_next_140 : decode cX8_next 140 = .ok (.aload_n 0, 1) := by decide +kernel
theorem dX8_next_141 : decode cX8_next 141 = .ok (.getfield 9, 3) := by decide +kernel
theorem dX8_next_144 : decode cX8_next 144 = .ok (.aload_n 0, 1) := by decide +kernel
theorem dX8_next_145 : decode cX8_next 145 = .ok (.getfield 38, 3) := by decide +kernel
theorem dX8_next_148 : decode cX8_next 148 = .ok (.baload, 1) := by decide +kernel
theorem dX8_next_149 : decode cX8_next 149 = .ok (.goto 5, 3) := by decide +kernel
theorem dX8_next_152 : decode cX8_next 152 = .ok (.bipush 34, 2) := by decide +kernel
theorem dX8_next_154 : decode cX8_next 154 = .ok (.putfield 44, 3) := by decide +kernel
theorem dX8_next_157 : decode cX8_next 157 = .ok (.aload_n 0, 1) := by decide +kernel
theorem dX8_next_158 : decode cX8_next 158 = .ok (.dup, 1) := by decide +kernel
theorem dX8_next_159 : decode cX8_next 159 = .ok (.getfield 38, 3) := by decide +kernel
theorem dX8_next_162 : decode cX8_next 162 = .ok (.iconst 1, 1) := by decide +kernel
theorem dX8_next_163 : decode cX8_next 163 = .ok (.iadd, 1) := by decide +kernel
theorem dX8_next_164 : decode cX8_next 164 = .ok (.putfield 38, 3) := by decide +kernel
theorem dX8_next_167 : decode cX8_next 167 = .ok (.return_, 1) := by decide +kernel
theorem dX8_takeWord_0 : decode cX8_takeWord 0 = .ok (.aload_n 0, 1) := by decide +kernel
theorem dX8_takeWord_1 : decode cX8_takeWord 1 = .ok (.getfield 38, 3) := by decide +kernel
theorem dX8_takeWord_4 : decode cX8_takeWord 4 = .ok (.aload_n 0, 1) := by decide +kernel
theorem dX8_takeWord_5 : decode cX8_takeWord 5 = .ok (.getfield 15, 3) := by decide +kernel
theorem dX8_takeWord_8 : decode cX8_takeWord 8 = .ok (.if_icmp .ge 31, 3) := by decide +kernel
theorem dX8_takeWord_11 : decode cX8_takeWord 11 = .ok (.aload_n 0, 1) := by decide +kernel
theorem dX8_takeWord_12 : decode cX8_takeWord 12 = .ok (.getfield 9, 3) := by decide +kernel
theorem dX8_takeWord_15 : decode cX8_takeWord 15 = .ok (.aload_n 0, 1) := by decide +kernel
theorem dX8_takeWord_16 : decode cX8_takeWord 16 = .ok (.getfield 38, 3) := by decide +kernel
theorem dX8_takeWord_19 : decode cX8_takeWord 19 = .ok (.baload, 1) := by decide +kernel
theorem dX8_takeWord_20 : decode cX8_takeWord 20 = .ok (.invokestatic 67, 3) := by decide +kernel
theorem dX8_takeWord_23 : decode cX8_takeWord 23 = .ok (.ifCond .eq 16, 3) := by decide +kernel
theorem dX8_takeWord_26 : decode cX8_takeWord 26 = .ok (.aload_n 0, 1) := by decide +kernel
theorem dX8_takeWord_27 : decode cX8_takeWord 27 = .ok (.dup, 1) := by decide +kernel
theorem dX8_takeWord_28 : decode cX8_takeWord 28 = .ok (.getfield 38, 3) := by decide +kernel
theorem dX8_takeWord_31 : decode cX8_takeWord 31 = .ok (.iconst 1, 1) := by decide +kernel
theorem dX8_takeWord_32 : decode cX8_takeWord 32 = .ok (.iadd, 1) := by decide +kernel
theorem dX8_takeWord_33 : decode cX8_takeWord 33 = .ok (.putfield 38, 3) := by decide +kernel
theorem dX8_takeWord_36 : decode cX8_takeWord 36 = .ok (.goto (-36), 3) := by decide +kernel
theorem dX8_takeWord_39 : decode cX8_takeWord 39 = .ok (.aload_n 0, 1) := by decide +kernel
theorem dX8_takeWord_40 : decode cX8_takeWord 40 = .ok (.bipush 34, 2) := by decide +kernel
theorem dX8_takeWord_42 : decode cX8_takeWord 42 = .ok (.putfield 44, 3) := by decide +kernel
theorem dX8_takeWord_45 : decode cX8_takeWord 45 = .ok (.iconst 0, 1) := by decide +kernel
theorem dX8_takeWord_46 : decode cX8_takeWord 46 = .ok (.istore_n 1, 1) := by decide +kernel
theorem dX8_takeWord_47 : decode cX8_takeWord 47 = .ok (.iload_n 1, 1) := by decide +kernel
theorem dX8_takeWord_48 : decode cX8_takeWord 48 = .ok (.bipush 31, 2) := by decide +kernel
theorem dX8_takeWord_50 : decode cX8_takeWord 50 = .ok (.if_icmp .ge 36, 3) := by decide +kernel
theorem dX8_takeWord_53 : decode cX8_takeWord 53 = .ok (.aload_n 0, 1) := by decide +kernel
theorem dX8_takeWord_54 : decode cX8_takeWord 54 = .ok (.getfield 38, 3) := by decide +kernel
theorem dX8_takeWord_57 : decode cX8_takeWord 57 = .ok (.aload_n 0, 1) := by decide +kernel
theorem dX8_takeWord_58 : decode cX8_takeWord 58 = .ok (.getfield 64, 3) := by decide +kernel
theorem dX8_takeWord_61 : decode cX8_takeWord 61 = .ok (.isub, 1) := by decide +kernel
theorem dX8_takeWord_62 : decode cX8_takeWord 62 = .ok (.bipush 8, 2) := by decide +kernel
theorem dX8_takeWord_64 : decode cX8_takeWord 64 = .ok (.if_icmp .gt 22, 3) := by decide +kernel
theorem dX8_takeWord_67 : decode cX8_takeWord 67 = .ok (.aload_n 0, 1) := by decide +kernel
theorem dX8_takeWord_68 : decode cX8_takeWord 68 = .ok (.iload_n 1, 1) := by decide +kernel
theorem dX8_takeWord_69 : decode cX8_takeWord 69 = .ok (.invokevirtual 83, 3) := by decide +kernel
theorem dX8_takeWord_72 : decode cX8_takeWord 72 = .ok (.ifCond .eq 8, 3) := by decide +kernel
theorem dX8_takeWord_75 : decode cX8_takeWord 75 = .ok (.aload_n 0, 1) := by decide +kernel
theorem dX8_takeWord_76 : decode cX8_takeWord 76 = .ok (.iload_n 1, 1) := by decide +kernel
theorem dX8_takeWord_77 : decode cX8_takeWord 77 = .ok (.putfield 44, 3) := by decide +kernel
theorem dX8_takeWord_80 : decode cX8_takeWord 80 = .ok (.iinc 1 1, 3) := by decide +kernel
theorem dX8_takeWord_83 : decode cX8_takeWord 83 = .ok (.goto (-36), 3) := by decide +kernel
theorem dX8_takeWord_86 : decode cX8_takeWord 86 = .ok (.return_, 1) := by decide +kernel
theorem dX8_isWord_0 : decode cX8_isWord 0 = .ok (.iconst 0, 1) := by decide +kernel
theorem dX8_isWord_1 : decode cX8_isWord 1 = .ok (.istore_n 2, 1) := by decide +kernel
theorem dX8_isWord_2 : decode cX8_isWord 2 = .ok (.iload_n 2, 1) := by decide +kernel
theorem dX8_isWord_3 : decode cX8_isWord 3 = .ok (.bipush 8, 2) := by decide +kernel
theorem dX8_isWord_5 : decode cX8_isWord 5 = .ok (.if_icmp .ge 56, 3) := by decide +kernel
theorem dX8_isWord_8 : decode cX8_isWord 8 = .ok (.aload_n 0, 1) := by decide +kernel
theorem dX8_isWord_9 : decode cX8_isWord 9 = .ok (.getfield 64, 3) := by decide +kernel
theorem dX8_isWord_12 : decode cX8_isWord 12 = .ok (.iload_n 2, 1) := by decide +kernel
theorem dX8_isWord_13 : decode cX8_isWord 13 = .ok (.iadd, 1) := by decide +kernel
theorem dX8_isWord_14 : decode cX8_isWord 14 = .ok (.aload_n 0, 1) := by decide +kernel
theorem dX8_isWord_15 : decode cX8_isWord 15 = .ok (.getfield 38, 3) := by decide +kernel
theorem dX8_isWord_18 : decode cX8_isWord 18 = .ok (.if_icmp .ge 17, 3) := by decide +kernel
theorem dX8_isWord_21 : decode cX8_isWord 21 = .ok (.aload_n 0, 1) := by decide +kernel
theorem dX8_isWord_22 : decode cX8_isWord 22 = .ok (.getfield 9, 3) := by decide +kernel
theorem dX8_isWord_25 : decode cX8_isWord 25 = .ok (.aload_n 0, 1) := by decide +kernel
theorem dX8_isWord_26 : decode cX8_isWord 26 = .ok (.getfield 64, 3) := by decide +kernel
theorem dX8_isWord_29 : decode cX8_isWord 29 = .ok (.iload_n 2, 1) := by decide +kernel
theorem dX8_isWord_30 : decode cX8_isWord 30 = .ok (.iadd, 1) := by decide +kernel
theorem dX8_isWord_31 : decode cX8_isWord 31 = .ok (.baload, 1) := by decide +kernel
theorem dX8_isWord_32 : decode cX8_isWord 32 = .ok (.goto 5, 3) := by decide +kernel
theorem dX8_isWord_35 : decode cX8_isWord 35 = .ok (.bipush 32, 2) := by decide +kernel
theorem dX8_isWord_37 : decode cX8_isWord 37 = .ok (.istore_n 3, 1) := by decide +kernel
theorem dX8_isWord_38 : decode cX8_isWord 38 = .ok (.iload_n 3, 1) := by decide +kernel
theorem dX8_isWord_39 : decode cX8_isWord 39 = .ok (.ldc 86, 2) := by decide +kernel
theorem dX8_isWord_41 : decode cX8_isWord 41 = .ok (.iload_n 1, 1) := by decide +kernel
theorem dX8_isWord_42 : decode cX8_isWord 42 = .ok (.bipush 8, 2) := by decide +kernel
theorem dX8_isWord_44 : decode cX8_isWord 44 = .ok (.imul, 1) := by decide +kernel
theorem dX8_isWord_45 : decode cX8_isWord 45 = .ok (.iload_n 2, 1) := by decide +kernel
theorem dX8_isWord_46 : decode cX8_isWord 46 = .ok (.iadd, 1) := by decide +kernel
theorem dX8_isWord_47 : decode cX8_isWord 47 = .ok (.invokevirtual 88, 3) := by decide +kernel
theorem dX8_isWord_50 : decode cX8_isWord 50 = .ok (.if_icmp .eq 5, 3) := by decide +kernel
theorem dX8_isWord_53 : decode cX8_isWord 53 = .ok (.iconst 0, 1) := by decide +kernel
theorem dX8_isWord_54 : decode cX8_isWord 54 = .ok (.ireturn, 1) := by decide +kernel
theorem dX8_isWord_55 : decode cX8_isWord 55 = .ok (.iinc 2 1, 3) := by decide +kernel
theorem dX8_isWord_58 : decode cX8_isWord 58 = .ok (.goto (-56), 3) := by decide +kernel
theorem dX8_isWord_61 : decode cX8_isWord 61 = .ok (.iconst 1, 1) := by decide +kernel
theorem dX8_isWord_62 : decode cX8_isWord 62 = .ok (.ireturn, 1) := by decide +kernel
theorem dX8_takeNumber_0 : decode cX8_takeNumber 0 = .ok (.aload_n 0, 1) := by decide +kernel
theorem dX8_takeNumber_1 : decode cX8_takeNumber 1 = .ok (.iconst 0, 1) := by decide +kernel
theorem dX8_takeNumber_2 : decode cX8_takeNumber 2 = .ok (.putfield 94, 3) := by decide +kernel
theorem dX8_takeNumber_5 : decode cX8_takeNumber 5 = .ok (.aload_n 0, 1) := by decide +kernel
theorem dX8_takeNumber_6 : decode cX8_takeNumber 6 = .ok (.getfield 38, 3) := by decide +kernel
theorem dX8_takeNumber_9 : decode cX8_takeNumber 9 = .ok (.aload_n 0, 1) := by decide +kernel
theorem dX8_takeNumber_10 : decode cX8_takeNumber 10 = .ok (.getfield 15, 3) := by decide +kernel
theorem dX8_takeNumber_13 : decode cX8_takeNumber 13 = .ok (.if_icmp .ge 55, 3) := by decide +kernel
theorem dX8_takeNumber_16 : decode cX8_takeNumber 16 = .ok (.aload_n 0, 1) := by decide +kernel
theorem dX8_takeNumber_17 : decode cX8_takeNumber 17 = .ok (.getfield 9, 3) := by decide +kernel
theorem dX8_takeNumber_20 : decode cX8_takeNumber 20 = .ok (.aload_n 0, 1) := by decide +kernel
theorem dX8_takeNumber_21 : decode cX8_takeNumber 21 = .ok (.getfield 38, 3) := by decide +kernel
theorem dX8_takeNumber_24 : decode cX8_takeNumber 24 = .ok (.baload, 1) := by decide +kernel
theorem dX8_takeNumber_25 : decode cX8_takeNumber 25 = .ok (.invokestatic 74, 3) := by decide +kernel
theorem dX8_takeNumber_28 : decode cX8_takeNumber 28 = .ok (.ifCond .eq 40, 3) := by decide +kernel
theorem dX8_takeNumber_31 : decode cX8_takeNumber 31 = .ok (.aload_n 0, 1) := by decide +kernel
theorem dX8_takeNumber_32 : decode cX8_takeNumber 32 = .ok (.aload_n 0, 1) := by decide +kernel
theorem dX8_takeNumber_33 : decode cX8_takeNumber 33 = .ok (.getfield 94, 3) := by decide +kernel
theorem dX8_takeNumber_36 : decode cX8_takeNumber 36 = .ok (.bipush 10, 2) := by decide +kernel
theorem dX8_takeNumber_38 : decode cX8_takeNumber 38 = .ok (.imul, 1) := by decide +kernel
theorem dX8_takeNumber_39 : decode cX8_takeNumber 39 = .ok (.aload_n 0, 1) := by decide +kernel
theorem dX8_takeNumber_40 : decode cX8_takeNumber 40 = .ok (.getfield 9, 3) := by decide +kernel
theorem dX8_takeNumber_43 : decode cX8_takeNumber 43 = .ok (.aload_n 0, 1) := by decide +kernel
theorem dX8_takeNumber_44 : decode cX8_takeNumber 44 = .ok (.getfield 38, 3) := by decide +kernel
theorem dX8_takeNumber_47 : decode cX8_takeNumber 47 = .ok (.baload, 1) := by decide +kernel
theorem dX8_takeNumber_48 : decode cX8_takeNumber 48 = .ok (.iadd, 1) := by decide +kernel
theorem dX8_takeNumber_49 : decode cX8_takeNumber 49 = .ok (.bipush 48, 2) := by decide +kernel
theorem dX8_takeNumber_51 : decode cX8_takeNumber 51 = .ok (.isub, 1) := by decide +kernel
theorem dX8_takeNumber_52 : decode cX8_takeNumber 52 = .ok (.putfield 94, 3) := by decide +kernel
theorem dX8_takeNumber_55 : decode cX8_takeNumber 55 = .ok (.aload_n 0, 1) := by decide +kernel
theorem dX8_takeNumber_56 : decode cX8_takeNumber 56 = .ok (.dup, 1) := by decide +kernel
theorem dX8_takeNumber_57 : decode cX8_takeNumber 57 = .ok (.getfield 38, 3) := by decide +kernel
theorem dX8_takeNumber_60 : decode cX8_takeNumber 60 = .ok (.iconst 1, 1) := by decide +kernel
theorem dX8_takeNumber_61 : decode cX8_takeNumber 61 = .ok (.iadd, 1) := by decide +kernel
theorem dX8_takeNumber_62 : decode cX8_takeNumber 62 = .ok (.putfield 38, 3) := by decide +kernel
theorem dX8_takeNumber_65 : decode cX8_takeNumber 65 = .ok (.goto (-60), 3) := by decide +kernel
theorem dX8_takeNumber_68 : decode cX8_takeNumber 68 = .ok (.aload_n 0, 1) := by decide +kernel
theorem dX8_takeNumber_69 : decode cX8_takeNumber 69 = .ok (.aload_n 0, 1) := by decide +kernel
theorem dX8_takeNumber_70 : decode cX8_takeNumber 70 = .ok (.getfield 38, 3) := by decide +kernel
theorem dX8_takeNumber_73 : decode cX8_takeNumber 73 = .ok (.aload_n 0, 1) := by decide +kernel
theorem dX8_takeNumber_74 : decode cX8_takeNumber 74 = .ok (.getfield 64, 3) := by decide +kernel
theorem dX8_takeNumber_77 : decode cX8_takeNumber 77 = .ok (.isub, 1) := by decide +kernel
theorem dX8_takeNumber_78 : decode cX8_takeNumber 78 = .ok (.iconst 4, 1) := by decide +kernel
theorem dX8_takeNumber_79 : decode cX8_takeNumber 79 = .ok (.if_icmp .le 8, 3) := by decide +kernel
theorem dX8_takeNumber_82 : decode cX8_takeNumber 82 = .ok (.bipush 34, 2) := by decide +kernel
theorem dX8_takeNumber_84 : decode cX8_takeNumber 84 = .ok (.goto 5, 3) := by decide +kernel
theorem dX8_takeNumber_87 : decode cX8_takeNumber 87 = .ok (.bipush 32, 2) := by decide +kernel
theorem dX8_takeNumber_89 : decode cX8_takeNumber 89 = .ok (.putfield 44, 3) := by decide +kernel
theorem dX8_takeNumber_92 : decode cX8_takeNumber 92 = .ok (.return_, 1) := by decide +kernel
theorem dX8_isLetter_0 : decode cX8_isLetter 0 = .ok (.iload_n 0, 1) := by decide +kernel
theorem dX8_isLetter_1 : decode cX8_isLetter 1 = .ok (.bipush 97, 2) := by decide +kernel
theorem dX8_isLetter_3 : decode cX8_isLetter 3 = .ok (.if_icmp .lt 13, 3) := by decide +kernel
theorem dX8_isLetter_6 : decode cX8_isLetter 6 = .ok (.iload_n 0, 1) := by decide +kernel
theorem dX8_isLetter_7 : decode cX8_isLetter 7 = .ok (.bipush 122, 2) := by decide +kernel
theorem dX8_isLetter_9 : decode cX8_isLetter 9 = .ok (.if_icmp .gt 7, 3) := by decide +kernel
theorem dX8_isLetter_12 : decode cX8_isLetter 12 = .ok (.iconst 1, 1) := by decide +kernel
theorem dX8_isLetter_13 : decode cX8_isLetter 13 = .ok (.goto 4, 3) := by decide +kernel
theorem dX8_isLetter_16 : decode cX8_isLetter 16 = .ok (.iconst 0, 1) := by decide +kernel
theorem dX8_isLetter_17 : decode cX8_isLetter 17 = .ok (.ireturn, 1) := by decide +kernel
theorem dX8_isDigit_0 : decode cX8_isDigit 0 = .ok (.iload_n 0, 1) := by decide +kernel
theorem dX8_isDigit_1 : decode cX8_isDigit 1 = .ok (.bipush 48, 2) := by decide +kernel
theorem dX8_isDigit_3 : decode cX8_isDigit 3 = .ok (.if_icmp .lt 13, 3) := by decide +kernel
theorem dX8_isDigit_6 : decode cX8_isDigit 6 = .ok (.iload_n 0, 1) := by decide +kernel
theorem dX8_isDigit_7 : decode cX8_isDigit 7 = .ok (.bipush 57, 2) := by decide +kernel
theorem dX8_isDigit_9 : decode cX8_isDigit 9 = .ok (.if_icmp .gt 7, 3) := by decide +kernel
theorem dX8_isDigit_12 : decode cX8_isDigit 12 = .ok (.iconst 1, 1) := by decide +kernel
theorem dX8_isDigit_13 : decode cX8_isDigit 13 = .ok (.goto 4, 3) := by decide +kernel
theorem dX8_isDigit_16 : decode cX8_isDigit 16 = .ok (.iconst 0, 1) := by decide +kernel
theorem dX8_isDigit_17 : decode cX8_isDigit 17 = .ok (.ireturn, 1) := by decide +kernel
theorem dX8_isSign_0 : decode cX8_isSign 0 = .ok (.iload_n 0, 1) := by decide +kernel
theorem dX8_isSign_1 : decode cX8_isSign 1 = .ok (.bipush 40, 2) := by decide +kernel
theorem dX8_isSign_3 : decode cX8_isSign 3 = .ok (.if_icmp .lt 9, 3) := by decide +kernel
theorem dX8_isSign_6 : decode cX8_isSign 6 = .ok (.iload_n 0, 1) := by decide +kernel
theorem dX8_isSign_7 : decode cX8_isSign 7 = .ok (.bipush 43, 2) := by decide +kernel
theorem dX8_isSign_9 : decode cX8_isSign 9 = .ok (.if_icmp .le 21, 3) := by decide +kernel
theorem dX8_isSign_12 : decode cX8_isSign 12 = .ok (.iload_n 0, 1) := by decide +kernel
theorem dX8_isSign_13 : decode cX8_isSign 13 = .ok (.bipush 45, 2) := by decide +kernel
theorem dX8_isSign_15 : decode cX8_isSign 15 = .ok (.if_icmp .eq 15, 3) := by decide +kernel
theorem dX8_isSign_18 : decode cX8_isSign 18 = .ok (.iload_n 0, 1) := by decide +kernel
theorem dX8_isSign_19 : decode cX8_isSign 19 = .ok (.bipush 59, 2) := by decide +kernel
theorem dX8_isSign_21 : decode cX8_isSign 21 = .ok (.if_icmp .lt 13, 3) := by decide +kernel
theorem dX8_isSign_24 : decode cX8_isSign 24 = .ok (.iload_n 0, 1) := by decide +kernel
theorem dX8_isSign_25 : decode cX8_isSign 25 = .ok (.bipush 61, 2) := by decide +kernel
theorem dX8_isSign_27 : decode cX8_isSign 27 = .ok (.if_icmp .gt 7, 3) := by decide +kernel
theorem dX8_isSign_30 : decode cX8_isSign 30 = .ok (.iconst 1, 1) := by decide +kernel
theorem dX8_isSign_31 : decode cX8_isSign 31 = .ok (.goto 4, 3) := by decide +kernel
theorem dX8_isSign_34 : decode cX8_isSign 34 = .ok (.iconst 0, 1) := by decide +kernel
theorem dX8_isSign_35 : decode cX8_isSign 35 = .ok (.ireturn, 1) := by decide +kernel
theorem dX8_want_0 : decode cX8_want 0 = .ok (.aload_n 0, 1) := by decide +kernel
theorem dX8_want_1 : decode cX8_want 1 = .ok (.getfield 44, 3) := by decide +kernel
theorem dX8_want_4 : decode cX8_want 4 = .ok (.iload_n 1, 1) := by decide +kernel
theorem dX8_want_5 : decode cX8_want 5 = .ok (.if_icmp .ne 10, 3) := by decide +kernel
theorem dX8_want_8 : decode cX8_want 8 = .ok (.aload_n 0, 1) := by decide +kernel
theorem dX8_want_9 : decode cX8_want 9 = .ok (.invokevirtual 41, 3) := by decide +kernel
theorem dX8_want_12 : decode cX8_want 12 = .ok (.goto 8, 3) := by decide +kernel
theorem dX8_want_15 : decode cX8_want 15 = .ok (.aload_n 0, 1) := by decide +kernel
theorem dX8_want_16 : decode cX8_want 16 = .ok (.iconst 1, 1) := by decide +kernel
theorem dX8_want_17 : decode cX8_want 17 = .ok (.invokevirtual 50, 3) := by decide +kernel
theorem dX8_want_20 : decode cX8_want 20 = .ok (.return_, 1) := by decide +kernel
theorem dX8_readPrice_0 : decode cX8_readPrice 0 = .ok (.aload_n 0, 1) := by decide +kernel
theorem dX8_readPrice_1 : decode cX8_readPrice 1 = .ok (.getfield 28, 3) := by decide +kernel
theorem dX8_readPrice_4 : decode cX8_readPrice 4 = .ok (.ifCond .eq 9, 3) := by decide +kernel
theorem dX8_readPrice_7 : decode cX8_readPrice 7 = .ok (.aload_n 0, 1) := by decide +kernel
theorem dX8_readPrice_8 : decode cX8_readPrice 8 = .ok (.iconst 3, 1) := by decide +kernel
theorem dX8_readPrice_9 : decode cX8_readPrice 9 = .ok (.invokevirtual 50, 3) := by decide +kernel
theorem dX8_readPrice_12 : decode cX8_readPrice 12 = .ok (.return_, 1) := by decide +kernel
theorem dX8_readPrice_13 : decode cX8_readPrice 13 = .ok (.aload_n 0, 1) := by decide +kernel
theorem dX8_readPrice_14 : decode cX8_readPrice 14 = .ok (.iconst 1, 1) := by decide +kernel
theorem dX8_readPrice_15 : decode cX8_readPrice 15 = .ok (.putfield 28, 3) := by decide +kernel
theorem dX8_readPrice_18 : decode cX8_readPrice 18 = .ok (.aload_n 0, 1) := by decide +kernel
theorem dX8_readPrice_19 : decode cX8_readPrice 19 = .ok (.invokevirtual 41, 3) := by decide +kernel
theorem dX8_readPrice_22 : decode cX8_readPrice 22 = .ok (.aload_n 0, 1) := by decide +kernel
theorem dX8_readPrice_23 : decode cX8_readPrice 23 = .ok (.getfield 19, 3) := by decide +kernel
theorem dX8_readPrice_26 : decode cX8_readPrice 26 = .ok (.aload_n 0, 1) := by decide +kernel
theorem dX8_readPrice_27 : decode cX8_readPrice 27 = .ok (.getfield 44, 3) := by decide +kernel
theorem dX8_readPrice_30 : decode cX8_readPrice 30 = .ok (.iconst 2, 1) := by decide +kernel
theorem dX8_readPrice_31 : decode cX8_readPrice 31 = .ok (.if_icmp .ne 7, 3) := by decide +kernel
theorem dX8_readPrice_34 : decode cX8_readPrice 34 = .ok (.iconst 1, 1) := by decide +kernel
theorem dX8_readPrice_35 : decode cX8_readPrice 35 = .ok (.goto 4, 3) := by decide +kernel
theorem dX8_readPrice_38 : decode cX8_readPrice 38 = .ok (.iconst 0, 1) := by decide +kernel
theorem dX8_readPrice_39 : decode cX8_readPrice 39 = .ok (.putfield 97, 3) := by decide +kernel
theorem dX8_readPrice_42 : decode cX8_readPrice 42 = .ok (.aload_n 0, 1) := by decide +kernel
theorem dX8_readPrice_43 : decode cX8_readPrice 43 = .ok (.aload_n 0, 1) := by decide +kernel
theorem dX8_readPrice_44 : decode cX8_readPrice 44 = .ok (.getfield 19, 3) := by decide +kernel
theorem dX8_readPrice_47 : decode cX8_readPrice 47 = .ok (.getfield 97, 3) := by decide +kernel
theorem dX8_readPrice_50 : decode cX8_readPrice 50 = .ok (.ifCond .eq 7, 3) := by decide +kernel
theorem dX8_readPrice_53 : decode cX8_readPrice 53 = .ok (.iconst 2, 1) := by decide +kernel
theorem dX8_readPrice_54 : decode cX8_readPrice 54 = .ok (.goto 5, 3) := by decide +kernel
theorem dX8_readPrice_57 : decode cX8_readPrice 57 = .ok (.bipush 25, 2) := by decide +kernel
theorem dX8_readPrice_59 : decode cX8_readPrice 59 = .ok (.invokevirtual 100, 3) := by decide +kernel
theorem dX8_readPrice_62 : decode cX8_readPrice 62 = .ok (.aload_n 0, 1) := by decide +kernel
theorem dX8_readPrice_63 : decode cX8_readPrice 63 = .ok (.bipush 59, 2) := by decide +kernel
theorem dX8_readPrice_65 : decode cX8_readPrice 65 = .ok (.invokevirtual 100, 3) := by decide +kernel
theorem dX8_readPrice_68 : decode cX8_readPrice 68 = .ok (.return_, 1) := by decide +kernel
theorem dX8_readParts_0 : decode cX8_readParts 0 = .ok (.aload_n 0, 1) := by decide +kernel
theorem dX8_readParts_1 : decode cX8_readParts 1 = .ok (.getfield 32, 3) := by decide +kernel
theorem dX8_readParts_4 : decode cX8_readParts 4 = .ok (.ifCond .eq 9, 3) := by decide +kernel
theorem dX8_readParts_7 : decode cX8_readParts 7 = .ok (.aload_n 0, 1) := by decide +kernel
theorem dX8_readParts_8 : decode cX8_readParts 8 = .ok (.iconst 3, 1) := by decide +kernel
theorem dX8_readParts_9 : decode cX8_readParts 9 = .ok (.invokevirtual 50, 3) := by decide +kernel
theorem dX8_readParts_12 : decode cX8_readParts 12 = .ok (.return_, 1) := by decide +kernel
theorem dX8_readParts_13 : decode cX8_readParts 13 = .ok (.aload_n 0, 1) := by decide +kernel
theorem dX8_readParts_14 : decode cX8_readParts 14 = .ok (.iconst 1, 1) := by decide +kernel
theorem dX8_readParts_15 : decode cX8_readParts 15 = .ok (.putfield 32, 3) := by decide +kernel
theorem dX8_readParts_18 : decode cX8_readParts 18 = .ok (.aload_n 0, 1) := by decide +kernel
theorem dX8_readParts_19 : decode cX8_readParts 19 = .ok (.invokevirtual 41, 3) := by decide +kernel
theorem dX8_readParts_22 : decode cX8_readParts 22 = .ok (.aload_n 0, 1) := by decide +kernel
theorem dX8_readParts_23 : decode cX8_readParts 23 = .ok (.getfield 19, 3) := by decide +kernel
theorem dX8_readParts_26 : decode cX8_readParts 26 = .ok (.aload_n 0, 1) := by decide +kernel
theorem dX8_readParts_27 : decode cX8_readParts 27 = .ok (.getfield 44, 3) := by decide +kernel
theorem dX8_readParts_30 : decode cX8_readParts 30 = .ok (.bipush 27, 2) := by decide +kernel
theorem dX8_readParts_32 : decode cX8_readParts 32 = .ok (.if_icmp .ne 7, 3) := by decide +kernel
theorem dX8_readParts_35 : decode cX8_readParts 35 = .ok (.iconst 1, 1) := by decide +kernel
theorem dX8_readParts_36 : decode cX8_readParts 36 = .ok (.goto 4, 3) := by decide +kernel
theorem dX8_readParts_39 : decode cX8_readParts 39 = .ok (.iconst 0, 1) := by decide +kernel
theorem dX8_readParts_40 : decode cX8_readParts 40 = .ok (.putfield 103, 3) := by decide +kernel
theorem dX8_readParts_43 : decode cX8_readParts 43 = .ok (.aload_n 0, 1) := by decide +kernel
theorem dX8_readParts_44 : decode cX8_readParts 44 = .ok (.aload_n 0, 1) := by decide +kernel
theorem dX8_readParts_45 : decode cX8_readParts 45 = .ok (.getfield 19, 3) := by decide +kernel
theorem dX8_readParts_48 : decode cX8_readParts 48 = .ok (.getfield 103, 3) := by decide +kernel
theorem dX8_readParts_51 : decode cX8_readParts 51 = .ok (.ifCond .eq 8, 3) := by decide +kernel
theorem dX8_readParts_54 : decode cX8_readParts 54 = .ok (.bipush 27, 2) := by decide +kernel
theorem dX8_readParts_56 : decode cX8_readParts 56 = .ok (.goto 5, 3) := by decide +kernel
theorem dX8_readParts_59 : decode cX8_readParts 59 = .ok (.bipush 26, 2) := by decide +kernel
theorem dX8_readParts_61 : decode cX8_readParts 61 = .ok (.invokevirtual 100, 3) := by decide +kernel
theorem dX8_readParts_64 : decode cX8_readParts 64 = .ok (.aload_n 0, 1) := by decide +kernel
theorem dX8_readParts_65 : decode cX8_readParts 65 = .ok (.bipush 59, 2) := by decide +kernel
theorem dX8_readParts_67 : decode cX8_readParts 67 = .ok (.invokevirtual 100, 3) := by decide +kernel
theorem dX8_readParts_70 : decode cX8_readParts 70 = .ok (.return_, 1) := by decide +kernel
theorem dX8_readRule_0 : decode cX8_readRule 0 = .ok (.iload_n 1, 1) := by decide +kernel
theorem dX8_readRule_1 : decode cX8_readRule 1 = .ok (.ifCond .ne 21, 3) := by decide +kernel
theorem dX8_readRule_4 : decode cX8_readRule 4 = .ok (.aload_n 0, 1) := by decide +kernel
theorem dX8_readRule_5 : decode cX8_readRule 5 = .ok (.getfield 19, 3) := by decide +kernel
theorem dX8_readRule_8 : decode cX8_readRule 8 = .ok (.getfield 106, 3) := by decide +kernel
theorem dX8_readRule_11 : decode cX8_readRule 11 = .ok (.bipush 12, 2) := by decide +kernel
theorem dX8_readRule_13 : decode cX8_readRule 13 = .ok (.if_icmp .lt 9, 3) := by decide +kernel
theorem dX8_readRule_16 : decode cX8_readRule 16 = .ok (.aload_n 0, 1) := by decide +kernel
theorem dX8_readRule_17 : decode cX8_readRule 17 = .ok (.iconst 5, 1) := by decide +kernel
theorem dX8_readRule_18 : decode cX8_readRule 18 = .ok (.invokevirtual 50, 3) := by decide +kernel
theorem dX8_readRule_21 : decode cX8_readRule 21 = .ok (.return_, 1) := by decide +kernel
theorem dX8_readRule_22 : decode cX8_readRule 22 = .ok (.aload_n 0, 1) := by decide +kernel
theorem dX8_readRule_23 : decode cX8_readRule 23 = .ok (.getfield 44, 3) := by decide +kernel
theorem dX8_readRule_26 : decode cX8_readRule 26 = .ok (.bipush 18, 2) := by decide +kernel
theorem dX8_readRule_28 : decode cX8_readRule 28 = .ok (.if_icmp .ne 7, 3) := by decide +kernel
theorem dX8_readRule_31 : decode cX8_readRule 31 = .ok (.iconst 1, 1) := by decide +kernel
theorem dX8_readRule_32 : decode cX8_readRule 32 = .ok (.goto 4, 3) := by decide +kernel
theorem dX8_readRule_35 : decode cX8_readRule 35 = .ok (.iconst 0, 1) := by decide +kernel
theorem dX8_readRule_36 : decode cX8_readRule 36 = .ok (.istore_n 2, 1) := by decide +kernel
theorem dX8_readRule_37 : decode cX8_readRule 37 = .ok (.aload_n 0, 1) := by decide +kernel
theorem dX8_readRule_38 : decode cX8_readRule 38 = .ok (.getfield 19, 3) := by decide +kernel
theorem dX8_readRule_41 : decode cX8_readRule 41 = .ok (.iload_n 2, 1) := by decide +kernel
theorem dX8_readRule_42 : decode cX8_readRule 42 = .ok (.iload_n 1, 1) := by decide +kernel
theorem dX8_readRule_43 : decode cX8_readRule 43 = .ok (.invokevirtual 109, 3) := by decide +kernel
theorem dX8_readRule_46 : decode cX8_readRule 46 = .ok (.istore_n 3, 1) := by decide +kernel
theorem dX8_readRule_47 : decode cX8_readRule 47 = .ok (.aload_n 0, 1) := by decide +kernel
theorem dX8_readRule_48 : decode cX8_readRule 48 = .ok (.invokevirtual 41, 3) := by decide +kernel
theorem dX8_readRule_51 : decode cX8_readRule 51 = .ok (.iload_n 2, 1) := by decide +kernel
theorem dX8_readRule_52 : decode cX8_readRule 52 = .ok (.ifCond .eq 30, 3) := by decide +kernel
theorem dX8_readRule_55 : decode cX8_readRule 55 = .ok (.aload_n 0, 1) := by decide +kernel
theorem dX8_readRule_56 : decode cX8_readRule 56 = .ok (.iload_n 3, 1) := by decide +kernel
theorem dX8_readRule_57 : decode cX8_readRule 57 = .ok (.invokevirtual 113, 3) := by decide +kernel
theorem dX8_readRule_60 : decode cX8_readRule 60 = .ok (.aload_n 0, 1) := by decide +kernel
theorem dX8_readRule_61 : decode cX8_readRule 61 = .ok (.bipush 22, 2) := by decide +kernel
theorem dX8_readRule_63 : decode cX8_readRule 63 = .ok (.invokevirtual 100, 3) := by decide +kernel
theorem dX8_readRule_66 : decode cX8_readRule 66 = .ok (.aload_n 0, 1) := by decide +kernel
theorem dX8_readRule_67 : decode cX8_readRule 67 = .ok (.iload_n 3, 1) := by decide +kernel
theorem dX8_readRule_68 : decode cX8_readRule 68 = .ok (.invokevirtual 116, 3) := by decide +kernel
theorem dX8_readRule_71 : decode cX8_readRule 71 = .ok (.aload_n 0, 1) := by decide +kernel
theorem dX8_readRule_72 : decode cX8_readRule 72 = .ok (.bipush 23, 2) := by decide +kernel
theorem dX8_readRule_74 : decode cX8_readRule 74 = .ok (.invokevirtual 100, 3) := by decide +kernel
theorem dX8_readRule_77 : decode cX8_readRule 77 = .ok (.aload_n 0, 1) := by decide +kernel
theorem dX8_readRule_78 : decode cX8_readRule 78 = .ok (.iload_n 3, 1) := by decide +kernel
theorem dX8_readRule_79 : decode cX8_readRule 79 = .ok (.invokevirtual 119, 3) := by decide +kernel
theorem dX8_readRule_82 : decode cX8_readRule 82 = .ok (.iload_n 2, 1) := by decide +kernel
theorem dX8_readRule_83 : decode cX8_readRule 83 = .ok (.ifCond .eq 12, 3) := by decide +kernel
theorem dX8_readRule_86 : decode cX8_readRule 86 = .ok (.aload_n 0, 1) := by decide +kernel
theorem dX8_readRule_87 : decode cX8_readRule 87 = .ok (.getfield 44, 3) := by decide +kernel
theorem dX8_readRule_90 : decode cX8_readRule 90 = .ok (.bipush 24, 2) := by decide +kernel
theorem dX8_readRule_92 : decode cX8_readRule 92 = .ok (.if_icmp .ne 23, 3) := by decide +kernel
theorem dX8_readRule_95 : decode cX8_readRule 95 = .ok (.aload_n 0, 1) := by decide +kernel
theorem dX8_readRule_96 : decode cX8_readRule 96 = .ok (.bipush 24, 2) := by decide +kernel
theorem dX8_readRule_98 : decode cX8_readRule 98 = .ok (.invokevirtual 100, 3) := by decide +kernel
theorem dX8_readRule_101 : decode cX8_readRule 101 = .ok (.aload_n 0, 1) := by decide +kernel
theorem dX8_readRule_102 : decode cX8_readRule 102 = .ok (.iconst 0, 1) := by decide +kernel
theorem dX8_readRule_103 : decode cX8_readRule 103 = .ok (.iconst 0, 1) := by decide +kernel
theorem dX8_readRule_104 : decode cX8_readRule 104 = .ok (.invokevirtual 122, 3) := by decide +kernel
theorem dX8_readRule_107 : decode cX8_readRule 107 = .ok (.aload_n 0, 1) := by decide +kernel
theorem dX8_readRule_108 : decode cX8_readRule 108 = .ok (.getfield 19, 3) := by decide +kernel
theorem dX8_readRule_111 : decode cX8_readRule 111 = .ok (.iload_n 3, 1) := by decide +kernel
theorem dX8_readRule_112 : decode cX8_readRule 112 = .ok (.invokevirtual 126, 3) := by decide +kernel
theorem dX8_readRule_115 : decode cX8_readRule 115 = .ok (.aload_n 0, 1) := by decide +kernel
theorem dX8_readRule_116 : decode cX8_readRule 116 = .ok (.bipush 59, 2) := by decide +kernel
theorem dX8_readRule_118 : decode cX8_readRule 118 = .ok (.invokevirtual 100, 3) := by decide +kernel
theorem dX8_readRule_121 : decode cX8_readRule 121 = .ok (.return_, 1) := by decide +kernel
theorem dX8_readWho_0 : decode cX8_readWho 0 = .ok (.aload_n 0, 1) := by decide +kernel
theorem dX8_readWho_1 : decode cX8_readWho 1 = .ok (.getfield 44, 3) := by decide +kernel
theorem dX8_readWho_4 : decode cX8_readWho 4 = .ok (.bipush 14, 2) := by decide +kernel
theorem dX8_readWho_6 : decode cX8_readWho 6 = .ok (.isub, 1) := by decide +kernel
theorem dX8_readWho_7 : decode cX8_readWho 7 = .ok (.istore_n 2, 1) := by decide +kernel
theorem dX8_readWho_8 : decode cX8_readWho 8 = .ok (.iload_n 2, 1) := by decide +kernel
theorem dX8_readWho_9 : decode cX8_readWho 9 = .ok (.ifCond .lt 8, 3) := by decide +kernel
theorem dX8_readWho_12 : decode cX8_readWho 12 = .ok (.iload_n 2, 1) := by decide +kernel
theorem dX8_readWho_13 : decode cX8_readWho 13 = .ok (.iconst 4, 1) := by decide +kernel
theorem dX8_readWho_14 : decode cX8_readWho 14 = .ok (.if_icmp .lt 9, 3) := by decide +kernel
theorem dX8_readWho_17 : decode cX8_readWho 17 = .ok (.aload_n 0, 1) := by decide +kernel
theorem dX8_readWho_18 : decode cX8_readWho 18 = .ok (.iconst 1, 1) := by decide +kernel
theorem dX8_readWho_19 : decode cX8_readWho 19 = .ok (.invokevirtual 50, 3) := by decide +kernel
theorem dX8_readWho_22 : decode cX8_readWho 22 = .ok (.return_, 1) := by decide +kernel
theorem dX8_readWho_23 : decode cX8_readWho 23 = .ok (.aload_n 0, 1) := by decide +kernel
theorem dX8_readWho_24 : decode cX8_readWho 24 = .ok (.getfield 19, 3) := by decide +kernel
theorem dX8_readWho_27 : decode cX8_readWho 27 = .ok (.getfield 129, 3) := by decide +kernel
theorem dX8_readWho_30 : decode cX8_readWho 30 = .ok (.iload_n 1, 1) := by decide +kernel
theorem dX8_readWho_31 : decode cX8_readWho 31 = .ok (.iload_n 2, 1) := by decide +kernel
theorem dX8_readWho_32 : decode cX8_readWho 32 = .ok (.iastore, 1) := by decide +kernel
theorem dX8_readWho_33 : decode cX8_readWho 33 = .ok (.aload_n 0, 1) := by decide +kernel
theorem dX8_readWho_34 : decode cX8_readWho 34 = .ok (.invokevirtual 41, 3) := by decide +kernel
theorem dX8_readWho_37 : decode cX8_readWho 37 = .ok (.return_, 1) := by decide +kernel
theorem dX8_readForms_0 : decode cX8_readForms 0 = .ok (.aload_n 0, 1) := by decide +kernel
theorem dX8_readForms_1 : decode cX8_readForms 1 = .ok (.getfield 44, 3) := by decide +kernel
theorem dX8_readForms_4 : decode cX8_readForms 4 = .ok (.bipush 6, 2) := by decide +kernel
theorem dX8_readForms_6 : decode cX8_readForms 6 = .ok (.isub, 1) := by decide +kernel
theorem dX8_readForms_7 : decode cX8_readForms 7 = .ok (.istore_n 2, 1) := by decide +kernel
theorem dX8_readForms_8 : decode cX8_readForms 8 = .ok (.iload_n 2, 1) := by decide +kernel
theorem dX8_readForms_9 : decode cX8_readForms 9 = .ok (.ifCond .lt 8, 3) := by decide +kernel
theorem dX8_readForms_12 : decode cX8_readForms 12 = .ok (.iload_n 2, 1) := by decide +kernel
theorem dX8_readForms_13 : decode cX8_readForms 13 = .ok (.iconst 3, 1) := by decide +kernel
theorem dX8_readForms_14 : decode cX8_readForms 14 = .ok (.if_icmp .lt 8, 3) := by decide +kernel
theorem dX8_readForms_17 : decode cX8_readForms 17 = .ok (.aload_n 0, 1) := by decide +kernel
theorem dX8_readForms_18 : decode cX8_readForms 18 = .ok (.iconst 1, 1) := by decide +kernel
theorem dX8_readForms_19 : decode cX8_readForms 19 = .ok (.invokevirtual 50, 3) := by decide +kernel
theorem dX8_readForms_22 : decode cX8_readForms 22 = .ok (.iconst 0, 1) := by decide +kernel
theorem dX8_readForms_23 : decode cX8_readForms 23 = .ok (.istore_n 3, 1) := by decide +kernel
theorem dX8_readForms_24 : decode cX8_readForms 24 = .ok (.iload_n 3, 1) := by decide +kernel
theorem dX8_readForms_25 : decode cX8_readForms 25 = .ok (.iconst 3, 1) := by decide +kernel
theorem dX8_readForms_26 : decode cX8_readForms 26 = .ok (.if_icmp .gt 67, 3) := by decide +kernel
theorem dX8_readForms_29 : decode cX8_readForms 29 = .ok (.iload_n 2, 1) := by decide +kernel
theorem dX8_readForms_30 : decode cX8_readForms 30 = .ok (.ifCond .lt 63, 3) := by decide +kernel
theorem dX8_readForms_33 : decode cX8_readForms 33 = .ok (.iload_n 2, 1) := by decide +kernel
theorem dX8_readForms_34 : decode cX8_readForms 34 = .ok (.iconst 3, 1) := by decide +kernel
theorem dX8_readForms_35 : decode cX8_readForms 35 = .ok (.if_icmp .ge 58, 3) := by decide +kernel
theorem dX8_readForms_38 : decode cX8_readForms 38 = .ok (.aload_n 0, 1) := by decide +kernel
theorem dX8_readForms_39 : decode cX8_readForms 39 = .ok (.getfield 19, 3) := by decide +kernel
theorem dX8_readForms_42 : decode cX8_readForms 42 = .ok (.getfield 133, 3) := by decide +kernel
theorem dX8_readForms_45 : decode cX8_readForms 45 = .ok (.iload_n 1, 1) := by decide +kernel
theorem dX8_readForms_46 : decode cX8_readForms 46 = .ok (.iaload, 1) := by decide +kernel
theorem dX8_readForms_47 : decode cX8_readForms 47 = .ok (.iload_n 2, 1) := by decide +kernel
theorem dX8_readForms_48 : decode cX8_readForms 48 = .ok (.ishr, 1) := by decide +kernel
theorem dX8_readForms_49 : decode cX8_readForms 49 = .ok (.iconst 1, 1) := by decide +kernel
theorem dX8_readForms_50 : decode cX8_readForms 50 = .ok (.iand, 1) := by decide +kernel
theorem dX8_readForms_51 : decode cX8_readForms 51 = .ok (.ifCond .eq 9, 3) := by decide +kernel
theorem dX8_readForms_54 : decode cX8_readForms 54 = .ok (.aload_n 0, 1) := by decide +kernel
theorem dX8_readForms_55 : decode cX8_readForms 55 = .ok (.iconst 3, 1) := by decide +kernel
theorem dX8_readForms_56 : decode cX8_readForms 56 = .ok (.invokevirtual 50, 3) := by decide +kernel
theorem dX8_readForms_59 : decode cX8_readForms 59 = .ok (.return_, 1) := by decide +kernel
theorem dX8_readForms_60 : decode cX8_readForms 60 = .ok (.aload_n 0, 1) := by decide +kernel
theorem dX8_readForms_61 : decode cX8_readForms 61 = .ok (.getfield 19, 3) := by decide +kernel
theorem dX8_readForms_64 : decode cX8_readForms 64 = .ok (.getfield 133, 3) := by decide +kernel
theorem dX8_readForms_67 : decode cX8_readForms 67 = .ok (.iload_n 1, 1) := by decide +kernel
theorem dX8_readForms_68 : decode cX8_readForms 68 = .ok (.dup2, 1) := by decide +kernel
theorem dX8_readForms_69 : decode cX8_readForms 69 = .ok (.iaload, 1) := by decide +kernel
theorem dX8_readForms_70 : decode cX8_readForms 70 = .ok (.iconst 1, 1) := by decide +kernel
theorem dX8_readForms_71 : decode cX8_readForms 71 = .ok (.iload_n 2, 1) := by decide +kernel
theorem dX8_readForms_72 : decode cX8_readForms 72 = .ok (.ishl, 1) := by decide +kernel
theorem dX8_readForms_73 : decode cX8_readForms 73 = .ok (.ior, 1) := by decide +kernel
theorem dX8_readForms_74 : decode cX8_readForms 74 = .ok (.iastore, 1) := by decide +kernel
theorem dX8_readForms_75 : decode cX8_readForms 75 = .ok (.aload_n 0, 1) := by decide +kernel
theorem dX8_readForms_76 : decode cX8_readForms 76 = .ok (.invokevirtual 41, 3) := by decide +kernel
theorem dX8_readForms_79 : decode cX8_readForms 79 = .ok (.aload_n 0, 1) := by decide +kernel
theorem dX8_readForms_80 : decode cX8_readForms 80 = .ok (.getfield 44, 3) := by decide +kernel
theorem dX8_readForms_83 : decode cX8_readForms 83 = .ok (.bipush 6, 2) := by decide +kernel
theorem dX8_readForms_85 : decode cX8_readForms 85 = .ok (.isub, 1) := by decide +kernel
theorem dX8_readForms_86 : decode cX8_readForms 86 = .ok (.istore_n 2, 1) := by decide +kernel
theorem dX8_readForms_87 : decode cX8_readForms 87 = .ok (.iinc 3 1, 3) := by decide +kernel
theorem dX8_readForms_90 : decode cX8_readForms 90 = .ok (.goto (-66), 3) := by decide +kernel
theorem dX8_readForms_93 : decode cX8_readForms 93 = .ok (.return_, 1) := by decide +kernel
theorem dX8_readWithin_0 : decode cX8_readWithin 0 = .ok (.aload_n 0, 1) := by decide +kernel
theorem dX8_readWithin_1 : decode cX8_readWithin 1 = .ok (.getfield 44, 3) := by decide +kernel
theorem dX8_readWithin_4 : decode cX8_readWithin 4 = .ok (.bipush 32, 2) := by decide +kernel
theorem dX8_readWithin_6 : decode cX8_readWithin 6 = .ok (.if_icmp .ne 19, 3) := by decide +kernel
theorem dX8_readWithin_9 : decode cX8_readWithin 9 = .ok (.aload_n 0, 1) := by decide +kernel
theorem dX8_readWithin_10 : decode cX8_readWithin 10 = .ok (.getfield 94, 3) := by decide +kernel
theorem dX8_readWithin_13 : decode cX8_readWithin 13 = .ok (.sipush 999, 3) := by decide +kernel
theorem dX8_readWithin_16 : decode cX8_readWithin 16 = .ok (.if_icmp .le 9, 3) := by decide +kernel
theorem dX8_readWithin_19 : decode cX8_readWithin 19 = .ok (.aload_n 0, 1) := by decide +kernel
theorem dX8_readWithin_20 : decode cX8_readWithin 20 = .ok (.iconst 4, 1) := by decide +kernel
theorem dX8_readWithin_21 : decode cX8_readWithin 21 = .ok (.invokevirtual 50, 3) := by decide +kernel
theorem dX8_readWithin_24 : decode cX8_readWithin 24 = .ok (.return_, 1) := by decide +kernel
theorem dX8_readWithin_25 : decode cX8_readWithin 25 = .ok (.aload_n 0, 1) := by decide +kernel
theorem dX8_readWithin_26 : decode cX8_readWithin 26 = .ok (.getfield 19, 3) := by decide +kernel
theorem dX8_readWithin_29 : decode cX8_readWithin 29 = .ok (.getfield 136, 3) := by decide +kernel
theorem dX8_readWithin_32 : decode cX8_readWithin 32 = .ok (.iload_n 1, 1) := by decide +kernel
theorem dX8_readWithin_33 : decode cX8_readWithin 33 = .ok (.aload_n 0, 1) := by decide +kernel
theorem dX8_readWithin_34 : decode cX8_readWithin 34 = .ok (.getfield 94, 3) := by decide +kernel
theorem dX8_readWithin_37 : decode cX8_readWithin 37 = .ok (.iastore, 1) := by decide +kernel
theorem dX8_readWithin_38 : decode cX8_readWithin 38 = .ok (.aload_n 0, 1) := by decide +kernel
theorem dX8_readWithin_39 : decode cX8_readWithin 39 = .ok (.bipush 32, 2) := by decide +kernel
theorem dX8_readWithin_41 : decode cX8_readWithin 41 = .ok (.invokevirtual 100, 3) := by decide +kernel
theorem dX8_readWithin_44 : decode cX8_readWithin 44 = .ok (.return_, 1) := by decide +kernel
theorem dX8_readLevel_0 : decode cX8_readLevel 0 = .ok (.iload_n 1, 1) := by decide +kernel
theorem dX8_readLevel_1 : decode cX8_readLevel 1 = .ok (.iconst 4, 1) := by decide +kernel
theorem dX8_readLevel_2 : decode cX8_readLevel 2 = .ok (.if_icmp .lt 9, 3) := by decide +kernel
theorem dX8_readLevel_5 : decode cX8_readLevel 5 = .ok (.aload_n 0, 1) := by decide +kernel
theorem dX8_readLevel_6 : decode cX8_readLevel 6 = .ok (.iload_n 2, 1) := by decide +kernel
theorem dX8_readLevel_7 : decode cX8_readLevel 7 = .ok (.invokevirtual 139, 3) := by decide +kernel
theorem dX8_readLevel_10 : decode cX8_readLevel 10 = .ok (.return_, 1) := by decide +kernel
theorem dX8_readLevel_11 : decode cX8_readLevel 11 = .ok (.aload_n 0, 1) := by decide +kernel
theorem dX8_readLevel_12 : decode cX8_readLevel 12 = .ok (.iload_n 1, 1) := by decide +kernel
theorem dX8_readLevel_13 : decode cX8_readLevel 13 = .ok (.iconst 1, 1) := by decide +kernel
theorem dX8_readLevel_14 : decode cX8_readLevel 14 = .ok (.iadd, 1) := by decide +kernel
theorem dX8_readLevel_15 : decode cX8_readLevel 15 = .ok (.iload_n 2, 1) := by decide +kernel
theorem dX8_readLevel_16 : decode cX8_readLevel 16 = .ok (.invokevirtual 122, 3) := by decide +kernel
theorem dX8_readLevel_19 : decode cX8_readLevel 19 = .ok (.iload_n 1, 1) := by decide +kernel
theorem dX8_readLevel_20 : decode cX8_readLevel 20 = .ok (.iconst 1, 1) := by decide +kernel
theorem dX8_readLevel_21 : decode cX8_readLevel 21 = .ok (.if_icmp .ne 7, 3) := by decide +kernel
theorem dX8_readLevel_24 : decode cX8_readLevel 24 = .ok (.iconst 1, 1) := by decide +kernel
theorem dX8_readLevel_25 : decode cX8_readLevel 25 = .ok (.goto 6, 3) := by decide +kernel
theorem dX8_readLevel_28 : decode cX8_readLevel 28 = .ok (.sipush 1000, 3) := by decide +kernel
theorem dX8_readLevel_31 : decode cX8_readLevel 31 = .ok (.istore_n 3, 1) := by decide +kernel
theorem dX8_readLevel_32 : decode cX8_readLevel 32 = .ok (.iconst 0, 1) := by decide +kernel
theorem dX8_readLevel_33 : decode cX8_readLevel 33 = .ok (.istore 4, 2) := by decide +kernel
theorem dX8_readLevel_35 : decode cX8_readLevel 35 = .ok (.iload 4, 2) := by decide +kernel
theorem dX8_readLevel_37 : decode cX8_readLevel 37 = .ok (.iload_n 3, 1) := by decide +kernel
theorem dX8_readLevel_38 : decode cX8_readLevel 38 = .ok (.if_icmp .ge 51, 3) := by decide +kernel
theorem dX8_readLevel_41 : decode cX8_readLevel 41 = .ok (.aload_n 0, 1) := by decide +kernel
theorem dX8_readLevel_42 : decode cX8_readLevel 42 = .ok (.getfield 44, 3) := by decide +kernel
theorem dX8_readLevel_45 : decode cX8_readLevel 45 = .ok (.invokestatic 142, 3) := by decide +kernel
theorem dX8_readLevel_48 : decode cX8_readLevel 48 = .ok (.iload_n 1, 1) := by decide +kernel
theorem dX8_readLevel_49 : decode cX8_readLevel 49 = .ok (.if_icmp .ne 40, 3) := by decide +kernel
theorem dX8_readLevel_52 : decode cX8_readLevel 52 = .ok (.aload_n 0, 1) := by decide +kernel
theorem dX8_readLevel_53 : decode cX8_readLevel 53 = .ok (.getfield 44, 3) := by decide +kernel
theorem dX8_readLevel_56 : decode cX8_readLevel 56 = .ok (.istore 5, 2) := by decide +kernel
theorem dX8_readLevel_58 : decode cX8_readLevel 58 = .ok (.aload_n 0, 1) := by decide +kernel
theorem dX8_readLevel_59 : decode cX8_readLevel 59 = .ok (.invokevirtual 41, 3) := by decide +kernel
theorem dX8_readLevel_62 : decode cX8_readLevel 62 = .ok (.aload_n 0, 1) := by decide +kernel
theorem dX8_readLevel_63 : decode cX8_readLevel 63 = .ok (.iload_n 1, 1) := by decide +kernel
theorem dX8_readLevel_64 : decode cX8_readLevel 64 = .ok (.iconst 1, 1) := by decide +kernel
theorem dX8_readLevel_65 : decode cX8_readLevel 65 = .ok (.iadd, 1) := by decide +kernel
theorem dX8_readLevel_66 : decode cX8_readLevel 66 = .ok (.iload_n 2, 1) := by decide +kernel
theorem dX8_readLevel_67 : decode cX8_readLevel 67 = .ok (.invokevirtual 122, 3) := by decide +kernel
theorem dX8_readLevel_70 : decode cX8_readLevel 70 = .ok (.aload_n 0, 1) := by decide +kernel
theorem dX8_readLevel_71 : decode cX8_readLevel 71 = .ok (.getfield 19, 3) := by decide +kernel
theorem dX8_readLevel_74 : decode cX8_readLevel 74 = .ok (.sipush 20000, 3) := by decide +kernel
theorem dX8_readLevel_77 : decode cX8_readLevel 77 = .ok (.iload 5, 2) := by decide +kernel
theorem dX8_readLevel_79 : decode cX8_readLevel 79 = .ok (.iadd, 1) := by decide +kernel
theorem dX8_readLevel_80 : decode cX8_readLevel 80 = .ok (.invokevirtual 146, 3) := by decide +kernel
theorem dX8_readLevel_83 : decode cX8_readLevel 83 = .ok (.iinc 4 1, 3) := by decide +kernel
theorem dX8_readLevel_86 : decode cX8_readLevel 86 = .ok (.goto (-51), 3) := by decide +kernel
theorem dX8_readLevel_89 : decode cX8_readLevel 89 = .ok (.return_, 1) := by decide +kernel
theorem dX8_levelOf_0 : decode cX8_levelOf 0 = .ok (.iload_n 0, 1) := by decide +kernel
theorem dX8_levelOf_1 : decode cX8_levelOf 1 = .ok (.lookupswitch 75 #[(28, 67), (29, 67), (42, 73), (43, 71), (45, 71), (60, 69), (61, 69)], 67) := by decide +kernel
theorem dX8_levelOf_68 : decode cX8_levelOf 68 = .ok (.iconst 0, 1) := by decide +kernel
theorem dX8_levelOf_69 : decode cX8_levelOf 69 = .ok (.ireturn, 1) := by decide +kernel
theorem dX8_levelOf_70 : decode cX8_levelOf 70 = .ok (.iconst 1, 1) := by decide +kernel
theorem dX8_levelOf_71 : decode cX8_levelOf 71 = .ok (.ireturn, 1) := by decide +kernel
theorem dX8_levelOf_72 : decode cX8_levelOf 72 = .ok (.iconst 2, 1) := by decide +kernel
theorem dX8_levelOf_73 : decode cX8_levelOf 73 = .ok (.ireturn, 1) := by decide +kernel
theorem dX8_levelOf_74 : decode cX8_levelOf 74 = .ok (.iconst 3, 1) := by decide +kernel
theorem dX8_levelOf_75 : decode cX8_levelOf 75 = .ok (.ireturn, 1) := by decide +kernel
theorem dX8_levelOf_76 : decode cX8_levelOf 76 = .ok (.iconst 4, 1) := by decide +kernel
theorem dX8_levelOf_77 : decode cX8_levelOf 77 = .ok (.ireturn, 1) := by decide +kernel
theorem dX8_readPiece_0 : decode cX8_readPiece 0 = .ok (.aload_n 0, 1) := by decide +kernel
theorem dX8_readPiece_1 : decode cX8_readPiece 1 = .ok (.getfield 44, 3) := by decide +kernel
theorem dX8_readPiece_4 : decode cX8_readPiece 4 = .ok (.bipush 32, 2) := by decide +kernel
theorem dX8_readPiece_6 : decode cX8_readPiece 6 = .ok (.if_icmp .eq 12, 3) := by decide +kernel
theorem dX8_readPiece_9 : decode cX8_readPiece 9 = .ok (.aload_n 0, 1) := by decide +kernel
theorem dX8_readPiece_10 : decode cX8_readPiece 10 = .ok (.getfield 44, 3) := by decide +kernel
theorem dX8_readPiece_13 : decode cX8_readPiece 13 = .ok (.bipush 14, 2) := by decide +kernel
theorem dX8_readPiece_15 : decode cX8_readPiece 15 = .ok (.if_icmp .ge 7, 3) := by decide +kernel
theorem dX8_readPiece_18 : decode cX8_readPiece 18 = .ok (.iconst 1, 1) := by decide +kernel
theorem dX8_readPiece_19 : decode cX8_readPiece 19 = .ok (.goto 4, 3) := by decide +kernel
theorem dX8_readPiece_22 : decode cX8_readPiece 22 = .ok (.iconst 0, 1) := by decide +kernel
theorem dX8_readPiece_23 : decode cX8_readPiece 23 = .ok (.istore_n 2, 1) := by decide +kernel
theorem dX8_readPiece_24 : decode cX8_readPiece 24 = .ok (.iload_n 2, 1) := by decide +kernel
theorem dX8_readPiece_25 : decode cX8_readPiece 25 = .ok (.ifCond .ne 29, 3) := by decide +kernel
theorem dX8_readPiece_28 : decode cX8_readPiece 28 = .ok (.aload_n 0, 1) := by decide +kernel
theorem dX8_readPiece_29 : decode cX8_readPiece 29 = .ok (.getfield 44, 3) := by decide +kernel
theorem dX8_readPiece_32 : decode cX8_readPiece 32 = .ok (.bipush 30, 2) := by decide +kernel
theorem dX8_readPiece_34 : decode cX8_readPiece 34 = .ok (.if_icmp .eq 20, 3) := by decide +kernel
theorem dX8_readPiece_37 : decode cX8_readPiece 37 = .ok (.aload_n 0, 1) := by decide +kernel
theorem dX8_readPiece_38 : decode cX8_readPiece 38 = .ok (.getfield 44, 3) := by decide +kernel
theorem dX8_readPiece_41 : decode cX8_readPiece 41 = .ok (.bipush 40, 2) := by decide +kernel
theorem dX8_readPiece_43 : decode cX8_readPiece 43 = .ok (.if_icmp .eq 11, 3) := by decide +kernel
theorem dX8_readPiece_46 : decode cX8_readPiece 46 = .ok (.aload_n 0, 1) := by decide +kernel
theorem dX8_readPiece_47 : decode cX8_readPiece 47 = .ok (.iconst 1, 1) := by decide +kernel
theorem dX8_readPiece_48 : decode cX8_readPiece 48 = .ok (.invokevirtual 50, 3) := by decide +kernel
theorem dX8_readPiece_51 : decode cX8_readPiece 51 = .ok (.goto 109, 3) := by decide +kernel
theorem dX8_readPiece_54 : decode cX8_readPiece 54 = .ok (.iload_n 1, 1) := by decide +kernel
theorem dX8_readPiece_55 : decode cX8_readPiece 55 = .ok (.iconst 5, 1) := by decide +kernel
theorem dX8_readPiece_56 : decode cX8_readPiece 56 = .ok (.if_icmp .lt 11, 3) := by decide +kernel
theorem dX8_readPiece_59 : decode cX8_readPiece 59 = .ok (.aload_n 0, 1) := by decide +kernel
theorem dX8_readPiece_60 : decode cX8_readPiece 60 = .ok (.iconst 5, 1) := by decide +kernel
theorem dX8_readPiece_61 : decode cX8_readPiece 61 = .ok (.invokevirtual 50, 3) := by decide +kernel
theorem dX8_readPiece_64 : decode cX8_readPiece 64 = .ok (.goto 96, 3) := by decide +kernel
theorem dX8_readPiece_67 : decode cX8_readPiece 67 = .ok (.iload_n 2, 1) := by decide +kernel
theorem dX8_readPiece_68 : decode cX8_readPiece 68 = .ok (.ifCond .eq 41, 3) := by decide +kernel
theorem dX8_readPiece_71 : decode cX8_readPiece 71 = .ok (.aload_n 0, 1) := by decide +kernel
theorem dX8_readPiece_72 : decode cX8_readPiece 72 = .ok (.getfield 19, 3) := by decide +kernel
theorem dX8_readPiece_75 : decode cX8_readPiece 75 = .ok (.aload_n 0, 1) := by decide +kernel
theorem dX8_readPiece_76 : decode cX8_readPiece 76 = .ok (.getfield 44, 3) := by decide +kernel
theorem dX8_readPiece_79 : decode cX8_readPiece 79 = .ok (.bipush 32, 2) := by decide +kernel
theorem dX8_readPiece_81 : decode cX8_readPiece 81 = .ok (.if_icmp .ne 10, 3) := by decide +kernel
theorem dX8_readPiece_84 : decode cX8_readPiece 84 = .ok (.aload_n 0, 1) := by decide +kernel
theorem dX8_readPiece_85 : decode cX8_readPiece 85 = .ok (.getfield 94, 3) := by decide +kernel
theorem dX8_readPiece_88 : decode cX8_readPiece 88 = .ok (.goto 11, 3) := by decide +kernel
theorem dX8_readPiece_91 : decode cX8_readPiece 91 = .ok (.sipush 10000, 3) := by decide +kernel
theorem dX8_readPiece_94 : decode cX8_readPiece 94 = .ok (.aload_n 0, 1) := by decide +kernel
theorem dX8_readPiece_95 : decode cX8_readPiece 95 = .ok (.getfield 44, 3) := by decide +kernel
theorem dX8_readPiece_98 : decode cX8_readPiece 98 = .ok (.iadd, 1) := by decide +kernel
theorem dX8_readPiece_99 : decode cX8_readPiece 99 = .ok (.invokevirtual 146, 3) := by decide +kernel
theorem dX8_readPiece_102 : decode cX8_readPiece 102 = .ok (.aload_n 0, 1) := by decide +kernel
theorem dX8_readPiece_103 : decode cX8_readPiece 103 = .ok (.invokevirtual 41, 3) := by decide +kernel
theorem dX8_readPiece_106 : decode cX8_readPiece 106 = .ok (.goto 54, 3) := by decide +kernel
theorem dX8_readPiece_109 : decode cX8_readPiece 109 = .ok (.aload_n 0, 1) := by decide +kernel
theorem dX8_readPiece_110 : decode cX8_readPiece 110 = .ok (.getfield 44, 3) := by decide +kernel
theorem dX8_readPiece_113 : decode cX8_readPiece 113 = .ok (.bipush 30, 2) := by decide +kernel
theorem dX8_readPiece_115 : decode cX8_readPiece 115 = .ok (.if_icmp .ne 27, 3) := by decide +kernel
theorem dX8_readPiece_118 : decode cX8_readPiece 118 = .ok (.aload_n 0, 1) := by decide +kernel
theorem dX8_readPiece_119 : decode cX8_readPiece 119 = .ok (.invokevirtual 41, 3) := by decide +kernel
theorem dX8_readPiece_122 : decode cX8_readPiece 122 = .ok (.aload_n 0, 1) := by decide +kernel
theorem dX8_readPiece_123 : decode cX8_readPiece 123 = .ok (.iload_n 1, 1) := by decide +kernel
theorem dX8_readPiece_124 : decode cX8_readPiece 124 = .ok (.iconst 1, 1) := by decide +kernel
theorem dX8_readPiece_125 : decode cX8_readPiece 125 = .ok (.iadd, 1) := by decide +kernel
theorem dX8_readPiece_126 : decode cX8_readPiece 126 = .ok (.invokevirtual 139, 3) := by decide +kernel
theorem dX8_readPiece_129 : decode cX8_readPiece 129 = .ok (.aload_n 0, 1) := by decide +kernel
theorem dX8_readPiece_130 : decode cX8_readPiece 130 = .ok (.getfield 19, 3) := by decide +kernel
theorem dX8_readPiece_133 : decode cX8_readPiece 133 = .ok (.sipush 20030, 3) := by decide +kernel
theorem dX8_readPiece_136 : decode cX8_readPiece 136 = .ok (.invokevirtual 146, 3) := by decide +kernel
theorem dX8_readPiece_139 : decode cX8_readPiece 139 = .ok (.goto 21, 3) := by decide +kernel
theorem dX8_readPiece_142 : decode cX8_readPiece 142 = .ok (.aload_n 0, 1) := by decide +kernel
theorem dX8_readPiece_143 : decode cX8_readPiece 143 = .ok (.invokevirtual 41, 3) := by decide +kernel
theorem dX8_readPiece_146 : decode cX8_readPiece 146 = .ok (.aload_n 0, 1) := by decide +kernel
theorem dX8_readPiece_147 : decode cX8_readPiece 147 = .ok (.iconst 0, 1) := by decide +kernel
theorem dX8_readPiece_148 : decode cX8_readPiece 148 = .ok (.iload_n 1, 1) := by decide +kernel
theorem dX8_readPiece_149 : decode cX8_readPiece 149 = .ok (.iconst 1, 1) := by decide +kernel
theorem dX8_readPiece_150 : decode cX8_readPiece 150 = .ok (.iadd, 1) := by decide +kernel
theorem dX8_readPiece_151 : decode cX8_readPiece 151 = .ok (.invokevirtual 122, 3) := by decide +kernel
theorem dX8_readPiece_154 : decode cX8_readPiece 154 = .ok (.aload_n 0, 1) := by decide +kernel
theorem dX8_readPiece_155 : decode cX8_readPiece 155 = .ok (.bipush 41, 2) := by decide +kernel
theorem dX8_readPiece_157 : decode cX8_readPiece 157 = .ok (.invokevirtual 100, 3) := by decide +kernel
theorem dX8_readPiece_160 : decode cX8_readPiece 160 = .ok (.return_, 1) := by decide +kernel
theorem dX9_init_0 : decode cX9_init 0 = .ok (.aload_n 0, 1) := by decide +kernel
theorem dX9_init_1 : decode cX9_init 1 = .ok (.invokespecial 3, 3) := by decide +kernel
theorem dX9_init_4 : decode cX9_init 4 = .ok (.aload_n 0, 1) := by decide +kernel
theorem dX9_init_5 : decode cX9_init 5 = .ok (.bipush 48, 2) := by decide +kernel
theorem dX9_init_7 : decode cX9_init 7 = .ok (.newarray .int, 2) := by decide +kernel
theorem dX9_init_9 : decode cX9_init 9 = .ok (.putfield 9, 3) := by decide +kernel
theorem dX9_init_12 : decode cX9_init 12 = .ok (.aload_n 0, 1) := by decide +kernel
theorem dX9_init_13 : decode cX9_init 13 = .ok (.bipush 12, 2) := by decide +kernel
theorem dX9_init_15 : decode cX9_init 15 = .ok (.newarray .int, 2) := by decide +kernel
theorem dX9_init_17 : decode cX9_init 17 = .ok (.putfield 15, 3) := by decide +kernel
theorem dX9_init_20 : decode cX9_init 20 = .ok (.aload_n 0, 1) := by decide +kernel
theorem dX9_init_21 : decode cX9_init 21 = .ok (.bipush 12, 2) := by decide +kernel
theorem dX9_init_23 : decode cX9_init 23 = .ok (.newarray .int, 2) := by decide +kernel
theorem dX9_init_25 : decode cX9_init 25 = .ok (.putfield 18, 3) := by decide +kernel
theorem dX9_init_28 : decode cX9_init 28 = .ok (.aload_n 0, 1) := by decide +kernel
theorem dX9_init_29 : decode cX9_init 29 = .ok (.sipush 256, 3) := by decide +kernel
theorem dX9_init_32 : decode cX9_init 32 = .ok (.newarray .int, 2) := by decide +kernel
theorem dX9_init_34 : decode cX9_init 34 = .ok (.putfield 21, 3) := by decide +kernel
theorem dX9_init_37 : decode cX9_init 37 = .ok (.aload_n 0, 1) := by decide +kernel
theorem dX9_init_38 : decode cX9_init 38 = .ok (.bipush 16, 2) := by decide +kernel
theorem dX9_init_40 : decode cX9_init 40 = .ok (.newarray .int, 2) := by decide +kernel
theorem dX9_init_42 : decode cX9_init 42 = .ok (.putfield 24, 3) := by decide +kernel
theorem dX9_init_45 : decode cX9_init 45 = .ok (.aload_n 0, 1) := by decide +kernel
theorem dX9_init_46 : decode cX9_init 46 = .ok (.ldc 27, 2) := by decide +kernel
theorem dX9_init_48 : decode cX9_init 48 = .ok (.putfield 28, 3) := by decide +kernel
theorem dX9_init_51 : decode cX9_init 51 = .ok (.return_, 1) := by decide +kernel
theorem dX9_isTold_0 : decode cX9_isTold 0 = .ok (.iload_n 1, 1) := by decide +kernel
theorem dX9_isTold_1 : decode cX9_isTold 1 = .ok (.ifCond .lt 24, 3) := by decide +kernel
theorem dX9_isTold_4 : decode cX9_isTold 4 = .ok (.iload_n 1, 1) := by decide +kernel
theorem dX9_isTold_5 : decode cX9_isTold 5 = .ok (.bipush 12, 2) := by decide +kernel
theorem dX9_isTold_7 : decode cX9_isTold 7 = .ok (.if_icmp .ge 18, 3) := by decide +kernel
theorem dX9_isTold_10 : decode cX9_isTold 10 = .ok (.aload_n 0, 1) := by decide +kernel
theorem dX9_isTold_11 : decode cX9_isTold 11 = .ok (.getfield 32, 3) := by decide +kernel
theorem dX9_isTold_14 : decode cX9_isTold 14 = .ok (.iload_n 1, 1) := by decide +kernel
theorem dX9_isTold_15 : decode cX9_isTold 15 = .ok (.ishr, 1) := by decide +kernel
theorem dX9_isTold_16 : decode cX9_isTold 16 = .ok (.iconst 1, 1) := by decide +kernel
theorem dX9_isTold_17 : decode cX9_isTold 17 = .ok (.iand, 1) := by decide +kernel
theorem dX9_isTold_18 : decode cX9_isTold 18 = .ok (.ifCond .eq 7, 3) := by decide +kernel
theorem dX9_isTold_21 : decode cX9_isTold 21 = .ok (.iconst 1, 1) := by decide +kernel
theorem dX9_isTold_22 : decode cX9_isTold 22 = .ok (.goto 4, 3) := by decide +kernel
theorem dX9_isTold_25 : decode cX9_isTold 25 = .ok (.iconst 0, 1) := by decide +kernel
theorem dX9_isTold_26 : decode cX9_isTold 26 = .ok (.ireturn, 1) := by decide +kernel
theorem dX9_areTwoTold_0 : decode cX9_areTwoTold 0 = .ok (.aload_n 0, 1) := by decide +kernel
theorem dX9_areTwoTold_1 : decode cX9_areTwoTold 1 = .ok (.iload_n 1, 1) := by decide +kernel
theorem dX9_areTwoTold_2 : decode cX9_areTwoTold 2 = .ok (.invokevirtual 35, 3) := by decide +kernel
theorem dX9_areTwoTold_5 : decode cX9_areTwoTold 5 = .ok (.ifCond .eq 20, 3) := by decide +kernel
theorem dX9_areTwoTold_8 : decode cX9_areTwoTold 8 = .ok (.aload_n 0, 1) := by decide +kernel
theorem dX9_areTwoTold_9 : decode cX9_areTwoTold 9 = .ok (.iload_n 2, 1) := by decide +kernel
theorem dX9_areTwoTold_10 : decode cX9_areTwoTold 10 = .ok (.invokevirtual 35, 3) := by decide +kernel
theorem dX9_areTwoTold_13 : decode cX9_areTwoTold 13 = .ok (.ifCond .eq 12, 3) := by decide +kernel
theorem dX9_areTwoTold_16 : decode cX9_areTwoTold 16 = .ok (.iload_n 1, 1) := by decide +kernel
theorem dX9_areTwoTold_17 : decode cX9_areTwoTold 17 = .ok (.iload_n 2, 1) := by decide +kernel
theorem dX9_areTwoTold_18 : decode cX9_areTwoTold 18 = .ok (.if_icmp .eq 7, 3) := by decide +kernel
theorem dX9_areTwoTold_21 : decode cX9_areTwoTold 21 = .ok (.iconst 1, 1) := by decide +kernel
theorem dX9_areTwoTold_22 : decode cX9_areTwoTold 22 = .ok (.goto 4, 3) := by decide +kernel
theorem dX9_areTwoTold_25 : decode cX9_areTwoTold 25 = .ok (.iconst 0, 1) := by decide +kernel
theorem dX9_areTwoTold_26 : decode cX9_areTwoTold 26 = .ok (.ireturn, 1) := by decide +kernel
theorem dX9_layAt_0 : decode cX9_layAt 0 = .ok (.aload_n 0, 1) := by decide +kernel
theorem dX9_layAt_1 : decode cX9_layAt 1 = .ok (.getfield 9, 3) := by decide +kernel
theorem dX9_layAt_4 : decode cX9_layAt 4 = .ok (.iload_n 1, 1) := by decide +kernel
theorem dX9_layAt_5 : decode cX9_layAt 5 = .ok (.iconst 4, 1) := by decide +kernel
theorem dX9_layAt_6 : decode cX9_layAt 6 = .ok (.imul, 1) := by decide +kernel
theorem dX9_layAt_7 : decode cX9_layAt 7 = .ok (.iload_n 3, 1) := by decide +kernel
theorem dX9_layAt_8 : decode cX9_layAt 8 = .ok (.iadd, 1) := by decide +kernel
theorem dX9_layAt_9 : decode cX9_layAt 9 = .ok (.dup2, 1) := by decide +kernel
theorem dX9_layAt_10 : decode cX9_layAt 10 = .ok (.iaload, 1) := by decide +kernel
theorem dX9_layAt_11 : decode cX9_layAt 11 = .ok (.iconst 1, 1) := by decide +kernel
theorem dX9_layAt_12 : decode cX9_layAt 12 = .ok (.iload_n 2, 1) := by decide +kernel
theorem dX9_layAt_13 : decode cX9_layAt 13 = .ok (.ishl, 1) := by decide +kernel
theorem dX9_layAt_14 : decode cX9_layAt 14 = .ok (.ior, 1) := by decide +kernel
theorem dX9_layAt_15 : decode cX9_layAt 15 = .ok (.iastore, 1) := by decide +kernel
theorem dX9_layAt_16 : decode cX9_layAt 16 = .ok (.aload_n 0, 1) := by decide +kernel
theorem dX9_layAt_17 : decode cX9_layAt 17 = .ok (.getfield 15, 3) := by decide +kernel
theorem dX9_layAt_20 : decode cX9_layAt 20 = .ok (.iload_n 1, 1) := by decide +kernel
theorem dX9_layAt_21 : decode cX9_layAt 21 = .ok (.dup2, 1) := by decide +kernel
theorem dX9_layAt_22 : decode cX9_layAt 22 = .ok (.iaload, 1) := by decide +kernel
theorem dX9_layAt_23 : decode cX9_layAt 23 = .ok (.iconst 1, 1) := by decide +kernel
theorem dX9_layAt_24 : decode cX9_layAt 24 = .ok (.iload_n 2, 1) := by decide +kernel
theorem dX9_layAt_25 : decode cX9_layAt 25 = .ok (.ishl, 1) := by decide +kernel
theorem dX9_layAt_26 : decode cX9_layAt 26 = .ok (.ior, 1) := by decide +kernel
theorem dX9_layAt_27 : decode cX9_layAt 27 = .ok (.iastore, 1) := by decide +kernel
theorem dX9_layAt_28 : decode cX9_layAt 28 = .ok (.return_, 1) := by decide +kernel
theorem dX9_makeKin_0 : decode cX9_makeKin 0 = .ok (.aload_n 0, 1) := by decide +kernel
theorem dX9_makeKin_1 : decode cX9_makeKin 1 = .ok (.getfield 21, 3) := by decide +kernel
theorem dX9_makeKin_4 : decode cX9_makeKin 4 = .ok (.iload_n 1, 1) := by decide +kernel
theorem dX9_makeKin_5 : decode cX9_makeKin 5 = .ok (.bipush 16, 2) := by decide +kernel
theorem dX9_makeKin_7 : decode cX9_makeKin 7 = .ok (.imul, 1) := by decide +kernel
theorem dX9_makeKin_8 : decode cX9_makeKin 8 = .ok (.iload_n 2, 1) := by decide +kernel
theorem dX9_makeKin_9 : decode cX9_makeKin 9 = .ok (.iadd, 1) := by decide +kernel
theorem dX9_makeKin_10 : decode cX9_makeKin 10 = .ok (.iload_n 3, 1) := by decide +kernel
theorem dX9_makeKin_11 : decode cX9_makeKin 11 = .ok (.iastore, 1) := by decide +kernel
theorem dX9_makeKin_12 : decode cX9_makeKin 12 = .ok (.aload_n 0, 1) := by decide +kernel
theorem dX9_makeKin_13 : decode cX9_makeKin 13 = .ok (.getfield 24, 3) := by decide +kernel
theorem dX9_makeKin_16 : decode cX9_makeKin 16 = .ok (.iload_n 1, 1) := by decide +kernel
theorem dX9_makeKin_17 : decode cX9_makeKin 17 = .ok (.aload_n 0, 1) := by decide +kernel
theorem dX9_makeKin_18 : decode cX9_makeKin 18 = .ok (.getfield 24, 3) := by decide +kernel
theorem dX9_makeKin_21 : decode cX9_makeKin 21 = .ok (.iload_n 1, 1) := by decide +kernel
theorem dX9_makeKin_22 : decode cX9_makeKin 22 = .ok (.iaload, 1) := by decide +kernel
theorem dX9_makeKin_23 : decode cX9_makeKin 23 = .ok (.iload_n 2, 1) := by decide +kernel
theorem dX9_makeKin_24 : decode cX9_makeKin 24 = .ok (.iload_n 3, 1) := by decide +kernel
theorem dX9_makeKin_25 : decode cX9_makeKin 25 = .ok (.ifCond .eq 7, 3) := by decide +kernel
theorem dX9_makeKin_28 : decode cX9_makeKin 28 = .ok (.iconst 1, 1) := by decide +kernel
theorem dX9_makeKin_29 : decode cX9_makeKin 29 = .ok (.goto 4, 3) := by decide +kernel
theorem dX9_makeKin_32 : decode cX9_makeKin 32 = .ok (.iconst 0, 1) := by decide +kernel
theorem dX9_makeKin_33 : decode cX9_makeKin 33 = .ok (.invokestatic 39, 3) := by decide +kernel
theorem dX9_makeKin_36 : decode cX9_makeKin 36 = .ok (.iastore, 1) := by decide +kernel
theorem dX9_makeKin_37 : decode cX9_makeKin 37 = .ok (.return_, 1) := by decide +kernel
theorem dX9_standing_0 : decode cX9_standing 0 = .ok (.iload_n 1, 1) := by decide +kernel
theorem dX9_standing_1 : decode cX9_standing 1 = .ok (.tableswitch 68 0 3 #[31, 39, 46, 57], 31) := by decide +kernel
theorem dX9_standing_32 : decode cX9_standing 32 = .ok (.aload_n 0, 1) := by decide +kernel
theorem dX9_standing_33 : decode cX9_standing 33 = .ok (.getfield 24, 3) := by decide +kernel
theorem dX9_standing_36 : decode cX9_standing 36 = .ok (.iload 4, 2) := by decide +kernel
theorem dX9_standing_38 : decode cX9_standing 38 = .ok (.iaload, 1) := by decide +kernel
theorem dX9_standing_39 : decode cX9_standing 39 = .ok (.ireturn, 1) := by decide +kernel
theorem dX9_standing_40 : decode cX9_standing 40 = .ok (.aload_n 2, 1) := by decide +kernel
theorem dX9_standing_41 : decode cX9_standing 41 = .ok (.getfield 43, 3) := by decide +kernel
theorem dX9_standing_44 : decode cX9_standing 44 = .ok (.iload_n 3, 1) := by decide +kernel
theorem dX9_standing_45 : decode cX9_standing 45 = .ok (.iaload, 1) := by decide +kernel
theorem dX9_standing_46 : decode cX9_standing 46 = .ok (.ireturn, 1) := by decide +kernel
theorem dX9_standing_47 : decode cX9_standing 47 = .ok (.aload_n 2, 1) := by decide +kernel
theorem dX9_standing_48 : decode cX9_standing 48 = .ok (.aload_n 0, 1) := by decide +kernel
theorem dX9_standing_49 : decode cX9_standing 49 = .ok (.getfield 15, 3) := by decide +kernel
theorem dX9_standing_52 : decode cX9_standing 52 = .ok (.iload_n 3, 1) := by decide +kernel
theorem dX9_standing_53 : decode cX9_standing 53 = .ok (.iaload, 1) := by decide +kernel
theorem dX9_standing_54 : decode cX9_standing 54 = .ok (.invokevirtual 48, 3) := by decide +kernel
theorem dX9_standing_57 : decode cX9_standing 57 = .ok (.ireturn, 1) := by decide +kernel
theorem dX9_standing_58 : decode cX9_standing 58 = .ok (.aload_n 2, 1) := by decide +kernel
theorem dX9_standing_59 : decode cX9_standing 59 = .ok (.aload_n 0, 1) := by decide +kernel
theorem dX9_standing_60 : decode cX9_standing 60 = .ok (.getfield 18, 3) := by decide +kernel
theorem dX9_standing_63 : decode cX9_standing 63 = .ok (.iload_n 3, 1) := by decide +kernel
theorem dX9_standing_64 : decode cX9_standing 64 = .ok (.iaload, 1) := by decide +kernel
theorem dX9_standing_65 : decode cX9_standing 65 = .ok (.invokevirtual 48, 3) := by decide +kernel
theorem dX9_standing_68 : decode cX9_standing 68 = .ok (.ireturn, 1) := by decide +kernel
theorem dX9_standing_69 : decode cX9_standing 69 = .ok (.iconst 0, 1) := by decide +kernel
theorem dX9_standing_70 : decode cX9_standing 70 = .ok (.ireturn, 1) := by decide +kernel
theorem dX9_shareOf_0 : decode cX9_shareOf 0 = .ok (.iload_n 1, 1) := by decide +kernel
theorem dX9_shareOf_1 : decode cX9_shareOf 1 = .ok (.tableswitch 67 0 3 #[31, 33, 41, 54], 31) := by decide +kernel
theorem dX9_shareOf_32 : decode cX9_shareOf 32 = .ok (.iconst 1, 1) := by decide +kernel
theorem dX9_shareOf_33 : decode cX9_shareOf 33 = .ok (.ireturn, 1) := by decide +kernel
theorem dX9_shareOf_34 : decode cX9_shareOf 34 = .ok (.aload_n 2, 1) := by decide +kernel
theorem dX9_shareOf_35 : decode cX9_shareOf 35 = .ok (.iload_n 3, 1) := by decide +kernel
theorem dX9_shareOf_36 : decode cX9_shareOf 36 = .ok (.iload 4, 2) := by decide +kernel
theorem dX9_shareOf_38 : decode cX9_shareOf 38 = .ok (.invokevirtual 52, 3) := by decide +kernel
theorem dX9_shareOf_41 : decode cX9_shareOf 41 = .ok (.ireturn, 1) := by decide +kernel
theorem dX9_shareOf_42 : decode cX9_shareOf 42 = .ok (.aload_n 2, 1) := by decide +kernel
theorem dX9_shareOf_43 : decode cX9_shareOf 43 = .ok (.aload_n 0, 1) := by decide +kernel
theorem dX9_shareOf_44 : decode cX9_shareOf 44 = .ok (.getfield 15, 3) := by decide +kernel
theorem dX9_shareOf_47 : decode cX9_shareOf 47 = .ok (.iload_n 3, 1) := by decide +kernel
theorem dX9_shareOf_48 : decode cX9_shareOf 48 = .ok (.iaload, 1) := by decide +kernel
theorem dX9_shareOf_49 : decode cX9_shareOf 49 = .ok (.iload 4, 2) := by decide +kernel
theorem dX9_shareOf_51 : decode cX9_shareOf 51 = .ok (.invokevirtual 56, 3) := by decide +kernel
theorem dX9_shareOf_54 : decode cX9_shareOf 54 = .ok (.ireturn, 1) := by decide +kernel
theorem dX9_shareOf_55 : decode cX9_shareOf 55 = .ok (.aload_n 2, 1) := by decide +kernel
theorem dX9_shareOf_56 : decode cX9_shareOf 56 = .ok (.aload_n 0, 1) := by decide +kernel
theorem dX9_shareOf_57 : decode cX9_shareOf 57 = .ok (.getfield 18, 3) := by decide +kernel
theorem dX9_shareOf_60 : decode cX9_shareOf 60 = .ok (.iload_n 3, 1) := by decide +kernel
theorem dX9_shareOf_61 : decode cX9_shareOf 61 = .ok (.iaload, 1) := by decide +kernel
theorem dX9_shareOf_62 : decode cX9_shareOf 62 = .ok (.iload 4, 2) := by decide +kernel
theorem dX9_shareOf_64 : decode cX9_shareOf 64 = .ok (.invokevirtual 56, 3) := by decide +kernel
theorem dX9_shareOf_67 : decode cX9_shareOf 67 = .ok (.ireturn, 1) := by decide +kernel
theorem dX9_shareOf_68 : decode cX9_shareOf 68 = .ok (.iconst 0, 1) := by decide +kernel
theorem dX9_shareOf_69 : decode cX9_shareOf 69 = .ok (.ireturn, 1) := by decide +kernel
theorem dX10_init_0 : decode cX10_init 0 = .ok (.aload_n 0, 1) := by decide +kernel
theorem dX10_init_1 : decode cX10_init 1 = .ok (.invokespecial 3, 3) := by decide +kernel
theorem dX10_init_4 : decode cX10_init 4 = .ok (.aload_n 0, 1) := by decide +kernel
theorem dX10_init_5 : decode cX10_init 5 = .ok (.new 9, 3) := by decide +kernel
theorem dX10_init_8 : decode cX10_init 8 = .ok (.dup, 1) := by decide +kernel
theorem dX10_init_9 : decode cX10_init 9 = .ok (.invokespecial 11, 3) := by decide +kernel
theorem dX10_init_12 : decode cX10_init 12 = .ok (.putfield 12, 3) := by decide +kernel
theorem dX10_init_15 : decode cX10_init 15 = .ok (.aload_n 0, 1) := by decide +kernel
theorem dX10_init_16 : decode cX10_init 16 = .ok (.new 18, 3) := by decide +kernel
theorem dX10_init_19 : decode cX10_init 19 = .ok (.dup, 1) := by decide +kernel
theorem dX10_init_20 : decode cX10_init 20 = .ok (.invokespecial 20, 3) := by decide +kernel
theorem dX10_init_23 : decode cX10_init 23 = .ok (.putfield 21, 3) := by decide +kernel
theorem dX10_init_26 : decode cX10_init 26 = .ok (.aload_n 0, 1) := by decide +kernel
theorem dX10_init_27 : decode cX10_init 27 = .ok (.sipush 169, 3) := by decide +kernel
theorem dX10_init_30 : decode cX10_init 30 = .ok (.newarray .int, 2) := by decide +kernel
theorem dX10_init_32 : decode cX10_init 32 = .ok (.putfield 25, 3) := by decide +kernel
theorem dX10_init_35 : decode cX10_init 35 = .ok (.aload_n 0, 1) := by decide +kernel
theorem dX10_init_36 : decode cX10_init 36 = .ok (.sipush 169, 3) := by decide +kernel
theorem dX10_init_39 : decode cX10_init 39 = .ok (.newarray .int, 2) := by decide +kernel
theorem dX10_init_41 : decode cX10_init 41 = .ok (.putfield 29, 3) := by decide +kernel
theorem dX10_init_44 : decode cX10_init 44 = .ok (.aload_n 0, 1) := by decide +kernel
theorem dX10_init_45 : decode cX10_init 45 = .ok (.sipush 169, 3) := by decide +kernel
theorem dX10_init_48 : decode cX10_init 48 = .ok (.newarray .int, 2) := by decide +kernel
theorem dX10_init_50 : decode cX10_init 50 = .ok (.putfield 32, 3) := by decide +kernel
theorem dX10_init_53 : decode cX10_init 53 = .ok (.aload_n 0, 1) := by decide +kernel
theorem dX10_init_54 : decode cX10_init 54 = .ok (.iconst (-1), 1) := by decide +kernel
theorem dX10_init_55 : decode cX10_init 55 = .ok (.putfield 35, 3) := by decide +kernel
theorem dX10_init_58 : decode cX10_init 58 = .ok (.aload_n 0, 1) := by decide +kernel
theorem dX10_init_59 : decode cX10_init 59 = .ok (.aload_n 1, 1) := by decide +kernel
theorem dX10_init_60 : decode cX10_init 60 = .ok (.putfield 39, 3) := by decide +kernel
theorem dX10_init_63 : decode cX10_init 63 = .ok (.aload_n 0, 1) := by decide +kernel
theorem dX10_init_64 : decode cX10_init 64 = .ok (.aload_n 2, 1) := by decide +kernel
theorem dX10_init_65 : decode cX10_init 65 = .ok (.putfield 43, 3) := by decide +kernel
theorem dX10_init_68 : decode cX10_init 68 = .ok (.aload_n 0, 1) := by decide +kernel
theorem dX10_init_69 : decode cX10_init 69 = .ok (.aload_n 3, 1) := by decide +kernel
theorem dX10_init_70 : decode cX10_init 70 = .ok (.putfield 46, 3) := by decide +kernel
theorem dX10_init_73 : decode cX10_init 73 = .ok (.return_, 1) := by decide +kernel
theorem dX10_begin_0 : decode cX10_begin 0 = .ok (.aload_n 0, 1) := by decide +kernel
theorem dX10_begin_1 : decode cX10_begin 1 = .ok (.iload_n 1, 1) := by decide +kernel
theorem dX10_begin_2 : decode cX10_begin 2 = .ok (.putfield 50, 3) := by decide +kernel
theorem dX10_begin_5 : decode cX10_begin 5 = .ok (.aload_n 0, 1) := by decide +kernel
theorem dX10_begin_6 : decode cX10_begin 6 = .ok (.iload_n 2, 1) := by decide +kernel
theorem dX10_begin_7 : decode cX10_begin 7 = .ok (.putfield 53, 3) := by decide +kernel
theorem dX10_begin_10 : decode cX10_begin 10 = .ok (.aload_n 0, 1) := by decide +kernel
theorem dX10_begin_11 : decode cX10_begin 11 = .ok (.iload_n 3, 1) := by decide +kernel
theorem dX10_begin_12 : decode cX10_begin 12 = .ok (.putfield 56, 3) := by decide +kernel
theorem dX10_begin_15 : decode cX10_begin 15 = .ok (.aload_n 0, 1) := by decide +kernel
theorem dX10_begin_16 : decode cX10_begin 16 = .ok (.iload 4, 2) := by decide +kernel
theorem dX10_begin_18 : decode cX10_begin 18 = .ok (.putfield 59, 3) := by decide +kernel
theorem dX10_begin_21 : decode cX10_begin 21 = .ok (.aload_n 0, 1) := by decide +kernel
theorem dX10_begin_22 : decode cX10_begin 22 = .ok (.iconst (-1), 1) := by decide +kernel
theorem dX10_begin_23 : decode cX10_begin 23 = .ok (.putfield 62, 3) := by decide +kernel
theorem dX10_begin_26 : decode cX10_begin 26 = .ok (.bipush 11, 2) := by decide +kernel
theorem dX10_begin_28 : decode cX10_begin 28 = .ok (.istore 5, 2) := by decide +kernel
theorem dX10_begin_30 : decode cX10_begin 30 = .ok (.iload 5, 2) := by decide +kernel
theorem dX10_begin_32 : decode cX10_begin 32 = .ok (.ifCond .lt 40, 3) := by decide +kernel
theorem dX10_begin_35 : decode cX10_begin 35 = .ok (.iload 5, 2) := by decide +kernel
theorem dX10_begin_37 : decode cX10_begin 37 = .ok (.aload_n 0, 1) := by decide +kernel
theorem dX10_begin_38 : decode cX10_begin 38 = .ok (.getfield 50, 3) := by decide +kernel
theorem dX10_begin_41 : decode cX10_begin 41 = .ok (.if_icmp .eq 25, 3) := by decide +kernel
theorem dX10_begin_44 : decode cX10_begin 44 = .ok (.aload_n 0, 1) := by decide +kernel
theorem dX10_begin_45 : decode cX10_begin 45 = .ok (.getfield 43, 3) := by decide +kernel
theorem dX10_begin_48 : decode cX10_begin 48 = .ok (.iload 5, 2) := by decide +kernel
theorem dX10_begin_50 : decode cX10_begin 50 = .ok (.aload_n 0, 1) := by decide +kernel
theorem dX10_begin_51 : decode cX10_begin 51 = .ok (.getfield 53, 3) := by decide +kernel
theorem dX10_begin_54 : decode cX10_begin 54 = .ok (.invokevirtual 65, 3) := by decide +kernel
theorem dX10_begin_57 : decode cX10_begin 57 = .ok (.ifCond .le 9, 3) := by decide +kernel
theorem dX10_begin_60 : decode cX10_begin 60 = .ok (.aload_n 0, 1) := by decide +kernel
theorem dX10_begin_61 : decode cX10_begin 61 = .ok (.iload 5, 2) := by decide +kernel
theorem dX10_begin_63 : decode cX10_begin 63 = .ok (.putfield 62, 3) := by decide +kernel
theorem dX10_begin_66 : decode cX10_begin 66 = .ok (.iinc 5 (-1), 3) := by decide +kernel
theorem dX10_begin_69 : decode cX10_begin 69 = .ok (.goto (-39), 3) := by decide +kernel
theorem dX10_begin_72 : decode cX10_begin 72 = .ok (.aload_n 0, 1) := by decide +kernel
theorem dX10_begin_73 : decode cX10_begin 73 = .ok (.aload_n 0, 1) := by decide +kernel
theorem dX10_begin_74 : decode cX10_begin 74 = .ok (.getfield 43, 3) := by decide +kernel
theorem dX10_begin_77 : decode cX10_begin 77 = .ok (.aload_n 0, 1) := by decide +kernel
theorem dX10_begin_78 : decode cX10_begin 78 = .ok (.getfield 50, 3) := by decide +kernel
theorem dX10_begin_81 : decode cX10_begin 81 = .ok (.aload_n 0, 1) := by decide +kernel
theorem dX10_begin_82 : decode cX10_begin 82 = .ok (.getfield 53, 3) := by decide +kernel
theorem dX10_begin_85 : decode cX10_begin 85 = .ok (.invokevirtual 65, 3) := by decide +kernel
theorem dX10_begin_88 : decode cX10_begin 88 = .ok (.bipush 13, 2) := by decide +kernel
theorem dX10_begin_90 : decode cX10_begin 90 = .ok (.imul, 1) := by decide +kernel
theorem dX10_begin_91 : decode cX10_begin 91 = .ok (.aload_n 0, 1) := by decide +kernel
theorem dX10_begin_92 : decode cX10_begin 92 = .ok (.getfield 62, 3) := by decide +kernel
theorem dX10_begin_95 : decode cX10_begin 95 = .ok (.iconst (-1), 1) := by decide +kernel
theorem dX10_begin_96 : decode cX10_begin 96 = .ok (.if_icmp .ne 7, 3) := by decide +kernel
theorem dX10_begin_99 : decode cX10_begin 99 = .ok (.iconst 0, 1) := by decide +kernel
theorem dX10_begin_100 : decode cX10_begin 100 = .ok (.goto 18, 3) := by decide +kernel
theorem dX10_begin_103 : decode cX10_begin 103 = .ok (.aload_n 0, 1) := by decide +kernel
theorem dX10_begin_104 : decode cX10_begin 104 = .ok (.getfield 43, 3) := by decide +kernel
theorem dX10_begin_107 : decode cX10_begin 107 = .ok (.aload_n 0, 1) := by decide +kernel
theorem dX10_begin_108 : decode cX10_begin 108 = .ok (.getfield 62, 3) := by decide +kernel
theorem dX10_begin_111 : decode cX10_begin 111 = .ok (.aload_n 0, 1) := by decide +kernel
theorem dX10_begin_112 : decode cX10_begin 112 = .ok (.getfield 53, 3) := by decide +kernel
theorem dX10_begin_115 : decode cX10_begin 115 = .ok (.invokevirtual 65, 3) := by decide +kernel
theorem dX10_begin_118 : decode cX10_begin 118 = .ok (.iadd, 1) := by decide +kernel
theorem dX10_begin_119 : decode cX10_begin 119 = .ok (.putfield 69, 3) := by decide +kernel
theorem dX10_begin_122 : decode cX10_begin 122 = .ok (.aload_n 0, 1) := by decide +kernel
theorem dX10_begin_123 : decode cX10_begin 123 = .ok (.getfield 12, 3) := by decide +kernel
theorem dX10_begin_126 : decode cX10_begin 126 = .ok (.aload_n 0, 1) := by decide +kernel
theorem dX10_begin_127 : decode cX10_begin 127 = .ok (.getfield 43, 3) := by decide +kernel
theorem dX10_begin_130 : decode cX10_begin 130 = .ok (.invokevirtual 72, 3) := by decide +kernel
theorem dX10_begin_133 : decode cX10_begin 133 = .ok (.aload_n 0, 1) := by decide +kernel
theorem dX10_begin_134 : decode cX10_begin 134 = .ok (.iconst (-1), 1) := by decide +kernel
theorem dX10_begin_135 : decode cX10_begin 135 = .ok (.putfield 35, 3) := by decide +kernel
theorem dX10_begin_138 : decode cX10_begin 138 = .ok (.return_, 1) := by decide +kernel
theorem dX10_left_0 : decode cX10_left 0 = .ok (.iload_n 2, 1) := by decide +kernel
theorem dX10_left_1 : decode cX10_left 1 = .ok (.ifCond .ne 10, 3) := by decide +kernel
theorem dX10_left_4 : decode cX10_left 4 = .ok (.iload_n 1, 1) := by decide +kernel
theorem dX10_left_5 : decode cX10_left 5 = .ok (.bipush 13, 2) := by decide +kernel
theorem dX10_left_7 : decode cX10_left 7 = .ok (.idiv, 1) := by decide +kernel
theorem dX10_left_8 : decode cX10_left 8 = .ok (.goto 7, 3) := by decide +kernel
theorem dX10_left_11 : decode cX10_left 11 = .ok (.iload_n 1, 1) := by decide +kernel
theorem dX10_left_12 : decode cX10_left 12 = .ok (.bipush 13, 2) := by decide +kernel
theorem dX10_left_14 : decode cX10_left 14 = .ok (.irem, 1) := by decide +kernel
theorem dX10_left_15 : decode cX10_left 15 = .ok (.ireturn, 1) := by decide +kernel
theorem dX10_behind_0 : decode cX10_behind 0 = .ok (.iload_n 2, 1) := by decide +kernel
theorem dX10_behind_1 : decode cX10_behind 1 = .ok (.ifCond .ne 12, 3) := by decide +kernel
theorem dX10_behind_4 : decode cX10_behind 4 = .ok (.iload_n 1, 1) := by decide +kernel
theorem dX10_behind_5 : decode cX10_behind 5 = .ok (.iload_n 3, 1) := by decide +kernel
theorem dX10_behind_6 : decode cX10_behind 6 = .ok (.bipush 13, 2) := by decide +kernel
theorem dX10_behind_8 : decode cX10_behind 8 = .ok (.imul, 1) := by decide +kernel
theorem dX10_behind_9 : decode cX10_behind 9 = .ok (.isub, 1) := by decide +kernel
theorem dX10_behind_10 : decode cX10_behind 10 = .ok (.goto 6, 3) := by decide +kernel
theorem dX10_behind_13 : decode cX10_behind 13 = .ok (.iload_n 1, 1) := by decide +kernel
theorem dX10_behind_14 : decode cX10_behind 14 = .ok (.iload_n 3, 1) := by decide +kernel
theorem dX10_behind_15 : decode cX10_behind 15 = .ok (.isub, 1) := by decide +kernel
theorem dX10_behind_16 : decode cX10_behind 16 = .ok (.ireturn, 1) := by decide +kernel
theorem dX10_place_0 : decode cX10_place 0 = .ok (.aload_n 0, 1) := by decide +kernel
theorem dX10_place_1 : decode cX10_place 1 = .ok (.getfield 12, 3) := by decide +kernel
theorem dX10_place_4 : decode cX10_place 4 = .ok (.aload_n 0, 1) := by decide +kernel
theorem dX10_place_5 : decode cX10_place 5 = .ok (.getfield 50, 3) := by decide +kernel
theorem dX10_place_8 : decode cX10_place 8 = .ok (.aload_n 0, 1) := by decide +kernel
theorem dX10_place_9 : decode cX10_place 9 = .ok (.getfield 53, 3) := by decide +kernel
theorem dX10_place_12 : decode cX10_place 12 = .ok (.aload_n 0, 1) := by decide +kernel
theorem dX10_place_13 : decode cX10_place 13 = .ok (.getfield 56, 3) := by decide +kernel
theorem dX10_place_16 : decode cX10_place 16 = .ok (.aload_n 0, 1) := by decide +kernel
theorem dX10_place_17 : decode cX10_place 17 = .ok (.getfield 12, 3) := by decide +kernel
theorem dX10_place_20 : decode cX10_place 20 = .ok (.aload_n 0, 1) := by decide +kernel
theorem dX10_place_21 : decode cX10_place 21 = .ok (.getfield 50, 3) := by decide +kernel
theorem dX10_place_24 : decode cX10_place 24 = .ok (.aload_n 0, 1) := by decide +kernel
theorem dX10_place_25 : decode cX10_place 25 = .ok (.getfield 53, 3) := by decide +kernel
theorem dX10_place_28 : decode cX10_place 28 = .ok (.invokevirtual 65, 3) := by decide +kernel
theorem dX10_place_31 : decode cX10_place 31 = .ok (.aload_n 0, 1) := by decide +kernel
theorem dX10_place_32 : decode cX10_place 32 = .ok (.iload_n 1, 1) := by decide +kernel
theorem dX10_place_33 : decode cX10_place 33 = .ok (.iconst 0, 1) := by decide +kernel
theorem dX10_place_34 : decode cX10_place 34 = .ok (.invokevirtual 76, 3) := by decide +kernel
theorem dX10_place_37 : decode cX10_place 37 = .ok (.isub, 1) := by decide +kernel
theorem dX10_place_38 : decode cX10_place 38 = .ok (.invokevirtual 79, 3) := by decide +kernel
theorem dX10_place_41 : decode cX10_place 41 = .ok (.aload_n 0, 1) := by decide +kernel
theorem dX10_place_42 : decode cX10_place 42 = .ok (.getfield 62, 3) := by decide +kernel
theorem dX10_place_45 : decode cX10_place 45 = .ok (.iconst (-1), 1) := by decide +kernel
theorem dX10_place_46 : decode cX10_place 46 = .ok (.if_icmp .eq 44, 3) := by decide +kernel
theorem dX10_place_49 : decode cX10_place 49 = .ok (.aload_n 0, 1) := by decide +kernel
theorem dX10_place_50 : decode cX10_place 50 = .ok (.getfield 12, 3) := by decide +kernel
theorem dX10_place_53 : decode cX10_place 53 = .ok (.aload_n 0, 1) := by decide +kernel
theorem dX10_place_54 : decode cX10_place 54 = .ok (.getfield 62, 3) := by decide +kernel
theorem dX10_place_57 : decode cX10_place 57 = .ok (.aload_n 0, 1) := by decide +kernel
theorem dX10_place_58 : decode cX10_place 58 = .ok (.getfield 53, 3) := by decide +kernel
theorem dX10_place_61 : decode cX10_place 61 = .ok (.aload_n 0, 1) := by decide +kernel
theorem dX10_place_62 : decode cX10_place 62 = .ok (.getfield 56, 3) := by decide +kernel
theorem dX10_place_65 : decode cX10_place 65 = .ok (.aload_n 0, 1) := by decide +kernel
theorem dX10_place_66 : decode cX10_place 66 = .ok (.getfield 12, 3) := by decide +kernel
theorem dX10_place_69 : decode cX10_place 69 = .ok (.aload_n 0, 1) := by decide +kernel
theorem dX10_place_70 : decode cX10_place 70 = .ok (.getfield 62, 3) := by decide +kernel
theorem dX10_place_73 : decode cX10_place 73 = .ok (.aload_n 0, 1) := by decide +kernel
theorem dX10_place_74 : decode cX10_place 74 = .ok (.getfield 53, 3) := by decide +kernel
theorem dX10_place_77 : decode cX10_place 77 = .ok (.invokevirtual 65, 3) := by decide +kernel
theorem dX10_place_80 : decode cX10_place 80 = .ok (.aload_n 0, 1) := by decide +kernel
theorem dX10_place_81 : decode cX10_place 81 = .ok (.iload_n 1, 1) := by decide +kernel
theorem dX10_place_82 : decode cX10_place 82 = .ok (.iconst 1, 1) := by decide +kernel
theorem dX10_place_83 : decode cX10_place 83 = .ok (.invokevirtual 76, 3) := by decide +kernel
theorem dX10_place_86 : decode cX10_place 86 = .ok (.isub, 1) := by decide +kernel
theorem dX10_place_87 : decode cX10_place 87 = .ok (.invokevirtual 79, 3) := by decide +kernel
theorem dX10_place_90 : decode cX10_place 90 = .ok (.return_, 1) := by decide +kernel
theorem dX10_turnTo_0 : decode cX10_turnTo 0 = .ok (.aload_n 0, 1) := by decide +kernel
theorem dX10_turnTo_1 : decode cX10_turnTo 1 = .ok (.iload_n 1, 1) := by decide +kernel
theorem dX10_turnTo_2 : decode cX10_turnTo 2 = .ok (.ifCond .ne 10, 3) := by decide +kernel
theorem dX10_turnTo_5 : decode cX10_turnTo 5 = .ok (.aload_n 0, 1) := by decide +kernel
theorem dX10_turnTo_6 : decode cX10_turnTo 6 = .ok (.getfield 50, 3) := by decide +kernel
theorem dX10_turnTo_9 : decode cX10_turnTo 9 = .ok (.goto 7, 3) := by decide +kernel
theorem dX10_turnTo_12 : decode cX10_turnTo 12 = .ok (.aload_n 0, 1) := by decide +kernel
theorem dX10_turnTo_13 : decode cX10_turnTo 13 = .ok (.getfield 62, 3) := by decide +kernel
theorem dX10_turnTo_16 : decode cX10_turnTo 16 = .ok (.putfield 83, 3) := by decide +kernel
theorem dX10_turnTo_19 : decode cX10_turnTo 19 = .ok (.aload_n 0, 1) := by decide +kernel
theorem dX10_turnTo_20 : decode cX10_turnTo 20 = .ok (.getfield 83, 3) := by decide +kernel
theorem dX10_turnTo_23 : decode cX10_turnTo 23 = .ok (.iconst (-1), 1) := by decide +kernel
theorem dX10_turnTo_24 : decode cX10_turnTo 24 = .ok (.if_icmp .eq 22, 3) := by decide +kernel
theorem dX10_turnTo_27 : decode cX10_turnTo 27 = .ok (.aload_n 0, 1) := by decide +kernel
theorem dX10_turnTo_28 : decode cX10_turnTo 28 = .ok (.getfield 46, 3) := by decide +kernel
theorem dX10_turnTo_31 : decode cX10_turnTo 31 = .ok (.aload_n 0, 1) := by decide +kernel
theorem dX10_turnTo_32 : decode cX10_turnTo 32 = .ok (.getfield 12, 3) := by decide +kernel
theorem dX10_turnTo_35 : decode cX10_turnTo 35 = .ok (.aload_n 0, 1) := by decide +kernel
theorem dX10_turnTo_36 : decode cX10_turnTo 36 = .ok (.getfield 83, 3) := by decide +kernel
theorem dX10_turnTo_39 : decode cX10_turnTo 39 = .ok (.aload_n 0, 1) := by decide +kernel
theorem dX10_turnTo_40 : decode cX10_turnTo 40 = .ok (.getfield 53, 3) := by decide +kernel
theorem dX10_turnTo_43 : decode cX10_turnTo 43 = .ok (.invokevirtual 86, 3) := by decide +kernel
theorem dX10_turnTo_46 : decode cX10_turnTo 46 = .ok (.return_, 1) := by decide +kernel
theorem dX10_openSets_0 : decode cX10_openSets 0 = .ok (.lload_n 2, 1) := by decide +kernel
theorem dX10_openSets_1 : decode cX10_openSets 1 = .ok (.lstore 4, 2) := by decide +kernel
theorem dX10_openSets_3 : decode cX10_openSets 3 = .ok (.iconst 0, 1) := by decide +kernel
theorem dX10_openSets_4 : decode cX10_openSets 4 = .ok (.istore 6, 2) := by decide +kernel
theorem dX10_openSets_6 : decode cX10_openSets 6 = .ok (.iload 6, 2) := by decide +kernel
theorem dX10_openSets_8 : decode cX10_openSets 8 = .ok (.iconst 3, 1) := by decide +kernel
theorem dX10_openSets_9 : decode cX10_openSets 9 = .ok (.if_icmp .ge 81, 3) := by decide +kernel
theorem dX10_openSets_12 : decode cX10_openSets 12 = .ok (.lload 4, 2) := by decide +kernel
theorem dX10_openSets_14 : decode cX10_openSets 14 = .ok (.lconst 0, 1) := by decide +kernel
theorem dX10_openSets_15 : decode cX10_openSets 15 = .ok (.lcmp, 1) := by decide +kernel
theorem dX10_openSets_16 : decode cX10_openSets 16 = .ok (.ifCond .eq 74, 3) := by decide +kernel
theorem dX10_openSets_19 : decode cX10_openSets 19 = .ok (.aload_n 0, 1) := by decide +kernel
theorem dX10_openSets_20 : decode cX10_openSets 20 = .ok (.iload 6, 2) := by decide +kernel
theorem dX10_openSets_22 : decode cX10_openSets 22 = .ok (.putfield 92, 3) := by decide +kernel
theorem dX10_openSets_25 : decode cX10_openSets 25 = .ok (.aload_n 0, 1) := by decide +kernel
theorem dX10_openSets_26 : decode cX10_openSets 26 = .ok (.getfield 21, 3) := by decide +kernel
theorem dX10_openSets_29 : decode cX10_openSets 29 = .ok (.aload_n 0, 1) := by decide +kernel
theorem dX10_openSets_30 : decode cX10_openSets 30 = .ok (.getfield 83, 3) := by decide +kernel
theorem dX10_openSets_33 : decode cX10_openSets 33 = .ok (.aload_n 0, 1) := by decide +kernel
theorem dX10_openSets_34 : decode cX10_openSets 34 = .ok (.getfield 53, 3) := by decide +kernel
theorem dX10_openSets_37 : decode cX10_openSets 37 = .ok (.aload_n 0, 1) := by decide +kernel
theorem dX10_openSets_38 : decode cX10_openSets 38 = .ok (.getfield 56, 3) := by decide +kernel
theorem dX10_openSets_41 : decode cX10_openSets 41 = .ok (.iload_n 1, 1) := by decide +kernel
theorem dX10_openSets_42 : decode cX10_openSets 42 = .ok (.aload_n 0, 1) := by decide +kernel
theorem dX10_openSets_43 : decode cX10_openSets 43 = .ok (.getfield 92, 3) := by decide +kernel
theorem dX10_openSets_46 : decode cX10_openSets 46 = .ok (.aload_n 0, 1) := by decide +kernel
theorem dX10_openSets_47 : decode cX10_openSets 47 = .ok (.getfield 59, 3) := by decide +kernel
theorem dX10_openSets_50 : decode cX10_openSets 50 = .ok (.invokevirtual 95, 3) := by decide +kernel
theorem dX10_openSets_53 : decode cX10_openSets 53 = .ok (.aload_n 0, 1) := by decide +kernel
theorem dX10_openSets_54 : decode cX10_openSets 54 = .ok (.getfield 46, 3) := by decide +kernel
theorem dX10_openSets_57 : decode cX10_openSets 57 = .ok (.aload_n 0, 1) := by decide +kernel
theorem dX10_openSets_58 : decode cX10_openSets 58 = .ok (.getfield 21, 3) := by decide +kernel
theorem dX10_openSets_61 : decode cX10_openSets 61 = .ok (.invokevirtual 99, 3) := by decide +kernel
theorem dX10_openSets_64 : decode cX10_openSets 64 = .ok (.lload 4, 2) := by decide +kernel
theorem dX10_openSets_66 : decode cX10_openSets 66 = .ok (.aload_n 0, 1) := by decide +kernel
theorem dX10_openSets_67 : decode cX10_openSets 67 = .ok (.getfield 46, 3) := by decide +kernel
theorem dX10_openSets_70 : decode cX10_openSets 70 = .ok (.lload 4, 2) := by decide +kernel
theorem dX10_openSets_72 : decode cX10_openSets 72 = .ok (.ldc 103, 2) := by decide +kernel
theorem dX10_openSets_74 : decode cX10_openSets 74 = .ok (.invokevirtual 104, 3) := by decide +kernel
theorem dX10_openSets_77 : decode cX10_openSets 77 = .ok (.ldc2_w 108, 3) := by decide +kernel
theorem dX10_openSets_80 : decode cX10_openSets 80 = .ok (.lxor, 1) := by decide +kernel
theorem dX10_openSets_81 : decode cX10_openSets 81 = .ok (.land, 1) := by decide +kernel
theorem dX10_openSets_82 : decode cX10_openSets 82 = .ok (.lstore 4, 2) := by decide +kernel
theorem dX10_openSets_84 : decode cX10_openSets 84 = .ok (.iinc 6 1, 3) := by decide +kernel
theorem dX10_openSets_87 : decode cX10_openSets 87 = .ok (.goto (-81), 3) := by decide +kernel
theorem dX10_openSets_90 : decode cX10_openSets 90 = .ok (.lload_n 2, 1) := by decide +kernel
theorem dX10_openSets_91 : decode cX10_openSets 91 = .ok (.lload 4, 2) := by decide +kernel
theorem dX10_openSets_93 : decode cX10_openSets 93 = .ok (.ldc2_w 108, 3) := by decide +kernel
theorem dX10_openSets_96 : decode cX10_openSets 96 = .ok (.lxor, 1) := by decide +kernel
theorem dX10_openSets_97 : decode cX10_openSets 97 = .ok (.land, 1) := by decide +kernel
theorem dX10_openSets_98 : decode cX10_openSets 98 = .ok (.lreturn, 1) := by decide +kernel
theorem dX10_findRow_0 : decode cX10_findRow 0 = .ok (.aload_n 0, 1) := by decide +kernel
theorem dX10_findRow_1 : decode cX10_findRow 1 = .ok (.getfield 50, 3) := by decide +kernel
theorem dX10_findRow_4 : decode cX10_findRow 4 = .ok (.iload_n 1, 1) := by decide +kernel
theorem dX10_findRow_5 : decode cX10_findRow 5 = .ok (.if_icmp .ne 32, 3) := by decide +kernel
theorem dX10_findRow_8 : decode cX10_findRow 8 = .ok (.aload_n 0, 1) := by decide +kernel
theorem dX10_findRow_9 : decode cX10_findRow 9 = .ok (.getfield 53, 3) := by decide +kernel
theorem dX10_findRow_12 : decode cX10_findRow 12 = .ok (.iload_n 2, 1) := by decide +kernel
theorem dX10_findRow_13 : decode cX10_findRow 13 = .ok (.if_icmp .ne 24, 3) := by decide +kernel
theorem dX10_findRow_16 : decode cX10_findRow 16 = .ok (.aload_n 0, 1) := by decide +kernel
theorem dX10_findRow_17 : decode cX10_findRow 17 = .ok (.getfield 56, 3) := by decide +kernel
theorem dX10_findRow_20 : decode cX10_findRow 20 = .ok (.iload_n 3, 1) := by decide +kernel
theorem dX10_findRow_21 : decode cX10_findRow 21 = .ok (.if_icmp .ne 16, 3) := by decide +kernel
theorem dX10_findRow_24 : decode cX10_findRow 24 = .ok (.aload_n 0, 1) := by decide +kernel
theorem dX10_findRow_25 : decode cX10_findRow 25 = .ok (.getfield 59, 3) := by decide +kernel
theorem dX10_findRow_28 : decode cX10_findRow 28 = .ok (.iload 4, 2) := by decide +kernel
theorem dX10_findRow_30 : decode cX10_findRow 30 = .ok (.if_icmp .ne 7, 3) := by decide +kernel
theorem dX10_findRow_33 : decode cX10_findRow 33 = .ok (.iconst 1, 1) := by decide +kernel
theorem dX10_findRow_34 : decode cX10_findRow 34 = .ok (.goto 4, 3) := by decide +kernel
theorem dX10_findRow_37 : decode cX10_findRow 37 = .ok (.iconst 0, 1) := by decide +kernel
theorem dX10_findRow_38 : decode cX10_findRow 38 = .ok (.istore 5, 2) := by decide +kernel
theorem dX10_findRow_40 : decode cX10_findRow 40 = .ok (.iload 5, 2) := by decide +kernel
theorem dX10_findRow_42 : decode cX10_findRow 42 = .ok (.ifCond .eq 17, 3) := by decide +kernel
theorem dX10_findRow_45 : decode cX10_findRow 45 = .ok (.aload_n 0, 1) := by decide +kernel
theorem dX10_findRow_46 : decode cX10_findRow 46 = .ok (.getfield 35, 3) := by decide +kernel
theorem dX10_findRow_49 : decode cX10_findRow 49 = .ok (.aload_n 0, 1) := by decide +kernel
theorem dX10_findRow_50 : decode cX10_findRow 50 = .ok (.getfield 39, 3) := by decide +kernel
theorem dX10_findRow_53 : decode cX10_findRow 53 = .ok (.getfield 110, 3) := by decide +kernel
theorem dX10_findRow_56 : decode cX10_findRow 56 = .ok (.if_icmp .eq 31, 3) := by decide +kernel
theorem dX10_findRow_59 : decode cX10_findRow 59 = .ok (.aload_n 0, 1) := by decide +kernel
theorem dX10_findRow_60 : decode cX10_findRow 60 = .ok (.iload_n 1, 1) := by decide +kernel
theorem dX10_findRow_61 : decode cX10_findRow 61 = .ok (.iload_n 2, 1) := by decide +kernel
theorem dX10_findRow_62 : decode cX10_findRow 62 = .ok (.iload_n 3, 1) := by decide +kernel
theorem dX10_findRow_63 : decode cX10_findRow 63 = .ok (.iload 4, 2) := by decide +kernel
theorem dX10_findRow_65 : decode cX10_findRow 65 = .ok (.invokevirtual 115, 3) := by decide +kernel
theorem dX10_findRow_68 : decode cX10_findRow 68 = .ok (.aload_n 0, 1) := by decide +kernel
theorem dX10_findRow_69 : decode cX10_findRow 69 = .ok (.aload_n 0, 1) := by decide +kernel
theorem dX10_findRow_70 : decode cX10_findRow 70 = .ok (.invokevirtual 118, 3) := by decide +kernel
theorem dX10_findRow_73 : decode cX10_findRow 73 = .ok (.putfield 122, 3) := by decide +kernel
theorem dX10_findRow_76 : decode cX10_findRow 76 = .ok (.aload_n 0, 1) := by decide +kernel
theorem dX10_findRow_77 : decode cX10_findRow 77 = .ok (.aload_n 0, 1) := by decide +kernel
theorem dX10_findRow_78 : decode cX10_findRow 78 = .ok (.getfield 39, 3) := by decide +kernel
theorem dX10_findRow_81 : decode cX10_findRow 81 = .ok (.getfield 110, 3) := by decide +kernel
theorem dX10_findRow_84 : decode cX10_findRow 84 = .ok (.putfield 35, 3) := by decide +kernel
theorem dX10_findRow_87 : decode cX10_findRow 87 = .ok (.aload_n 0, 1) := by decide +kernel
theorem dX10_findRow_88 : decode cX10_findRow 88 = .ok (.getfield 122, 3) := by decide +kernel
theorem dX10_findRow_91 : decode cX10_findRow 91 = .ok (.ireturn, 1) := by decide +kernel
theorem dX10_search_0 : decode cX10_search 0 = .ok (.iconst 0, 1) := by decide +kernel
theorem dX10_search_1 : decode cX10_search 1 = .ok (.istore_n 1, 1) := by decide +kernel
theorem dX10_search_2 : decode cX10_search 2 = .ok (.iload_n 1, 1) := by decide +kernel
theorem dX10_search_3 : decode cX10_search 3 = .ok (.sipush 169, 3) := by decide +kernel
theorem dX10_search_6 : decode cX10_search 6 = .ok (.if_icmp .ge 16, 3) := by decide +kernel
theorem dX10_search_9 : decode cX10_search 9 = .ok (.aload_n 0, 1) := by decide +kernel
theorem dX10_search_10 : decode cX10_search 10 = .ok (.getfield 29, 3) := by decide +kernel
theorem dX10_search_13 : decode cX10_search 13 = .ok (.iload_n 1, 1) := by decide +kernel
theorem dX10_search_14 : decode cX10_search 14 = .ok (.iconst (-1), 1) := by decide +kernel
theorem dX10_search_15 : decode cX10_search 15 = .ok (.iastore, 1) := by decide +kernel
theorem dX10_search_16 : decode cX10_search 16 = .ok (.iinc 1 1, 3) := by decide +kernel
theorem dX10_search_19 : decode cX10_search 19 = .ok (.goto (-17), 3) := by decide +kernel
theorem dX10_search_22 : decode cX10_search 22 = .ok (.aload_n 0, 1) := by decide +kernel
theorem dX10_search_23 : decode cX10_search 23 = .ok (.getfield 29, 3) := by decide +kernel
theorem dX10_search_26 : decode cX10_search 26 = .ok (.aload_n 0, 1) := by decide +kernel
theorem dX10_search_27 : decode cX10_search 27 = .ok (.getfield 69, 3) := by decide +kernel
theorem dX10_search_30 : decode cX10_search 30 = .ok (.aload_n 0, 1) := by decide +kernel
theorem dX10_search_31 : decode cX10_search 31 = .ok (.getfield 69, 3) := by decide +kernel
theorem dX10_search_34 : decode cX10_search 34 = .ok (.iastore, 1) := by decide +kernel
theorem dX10_search_35 : decode cX10_search 35 = .ok (.aload_n 0, 1) := by decide +kernel
theorem dX10_search_36 : decode cX10_search 36 = .ok (.getfield 25, 3) := by decide +kernel
theorem dX10_search_39 : decode cX10_search 39 = .ok (.iconst 0, 1) := by decide +kernel
theorem dX10_search_40 : decode cX10_search 40 = .ok (.aload_n 0, 1) := by decide +kernel
theorem dX10_search_41 : decode cX10_search 41 = .ok (.getfield 69, 3) := by decide +kernel
theorem dX10_search_44 : decode cX10_search 44 = .ok (.iastore, 1) := by decide +kernel
theorem dX10_search_45 : decode cX10_search 45 = .ok (.aload_n 0, 1) := by decide +kernel
theorem dX10_search_46 : decode cX10_search 46 = .ok (.iconst 1, 1) := by decide +kernel
theorem dX10_search_47 : decode cX10_search 47 = .ok (.putfield 125, 3) := by decide +kernel
theorem dX10_search_50 : decode cX10_search 50 = .ok (.iconst 0, 1) := by decide +kernel
theorem dX10_search_51 : decode cX10_search 51 = .ok (.istore_n 1, 1) := by decide +kernel
theorem dX10_search_52 : decode cX10_search 52 = .ok (.iconst 1, 1) := by decide +kernel
theorem dX10_search_53 : decode cX10_search 53 = .ok (.istore_n 2, 1) := by decide +kernel
theorem dX10_search_54 : decode cX10_search 54 = .ok (.iload_n 2, 1) := by decide +kernel
theorem dX10_search_55 : decode cX10_search 55 = .ok (.bipush 24, 2) := by decide +kernel
theorem dX10_search_57 : decode cX10_search 57 = .ok (.if_icmp .gt 81, 3) := by decide +kernel
theorem dX10_search_60 : decode cX10_search 60 = .ok (.iload_n 1, 1) := by decide +kernel
theorem dX10_search_61 : decode cX10_search 61 = .ok (.aload_n 0, 1) := by decide +kernel
theorem dX10_search_62 : decode cX10_search 62 = .ok (.getfield 125, 3) := by decide +kernel
theorem dX10_search_65 : decode cX10_search 65 = .ok (.if_icmp .ge 73, 3) := by decide +kernel
theorem dX10_search_68 : decode cX10_search 68 = .ok (.aload_n 0, 1) := by decide +kernel
theorem dX10_search_69 : decode cX10_search 69 = .ok (.getfield 125, 3) := by decide +kernel
theorem dX10_search_72 : decode cX10_search 72 = .ok (.istore_n 3, 1) := by decide +kernel
theorem dX10_search_73 : decode cX10_search 73 = .ok (.iload_n 1, 1) := by decide +kernel
theorem dX10_search_74 : decode cX10_search 74 = .ok (.istore 4, 2) := by decide +kernel
theorem dX10_search_76 : decode cX10_search 76 = .ok (.iload 4, 2) := by decide +kernel
theorem dX10_search_78 : decode cX10_search 78 = .ok (.iload_n 3, 1) := by decide +kernel
theorem dX10_search_79 : decode cX10_search 79 = .ok (.if_icmp .ge 25, 3) := by decide +kernel
theorem dX10_search_82 : decode cX10_search 82 = .ok (.aload_n 0, 1) := by decide +kernel
theorem dX10_search_83 : decode cX10_search 83 = .ok (.aload_n 0, 1) := by decide +kernel
theorem dX10_search_84 : decode cX10_search 84 = .ok (.getfield 25, 3) := by decide +kernel
theorem dX10_search_87 : decode cX10_search 87 = .ok (.iload 4, 2) := by decide +kernel
theorem dX10_search_89 : decode cX10_search 89 = .ok (.iaload, 1) := by decide +kernel
theorem dX10_search_90 : decode cX10_search 90 = .ok (.invokevirtual 128, 3) := by decide +kernel
theorem dX10_search_93 : decode cX10_search 93 = .ok (.ifCond .eq 5, 3) := by decide +kernel
theorem dX10_search_96 : decode cX10_search 96 = .ok (.iload_n 2, 1) := by decide +kernel
theorem dX10_search_97 : decode cX10_search 97 = .ok (.ireturn, 1) := by decide +kernel
theorem dX10_search_98 : decode cX10_search 98 = .ok (.iinc 4 1, 3) := by decide +kernel
theorem dX10_search_101 : decode cX10_search 101 = .ok (.goto (-25), 3) := by decide +kernel
theorem dX10_search_104 : decode cX10_search 104 = .ok (.iload_n 1, 1) := by decide +kernel
theorem dX10_search_105 : decode cX10_search 105 = .ok (.istore 4, 2) := by decide +kernel
theorem dX10_search_107 : decode cX10_search 107 = .ok (.iload 4, 2) := by decide +kernel
theorem dX10_search_109 : decode cX10_search 109 = .ok (.iload_n 3, 1) := by decide +kernel
theorem dX10_search_110 : decode cX10_search 110 = .ok (.if_icmp .ge 20, 3) := by decide +kernel
theorem dX10_search_113 : decode cX10_search 113 = .ok (.aload_n 0, 1) := by decide +kernel
theorem dX10_search_114 : decode cX10_search 114 = .ok (.aload_n 0, 1) := by decide +kernel
theorem dX10_search_115 : decode cX10_search 115 = .ok (.getfield 25, 3) := by decide +kernel
theorem dX10_search_118 : decode cX10_search 118 = .ok (.iload 4, 2) := by decide +kernel
theorem dX10_search_120 : decode cX10_search 120 = .ok (.iaload, 1) := by decide +kernel
theorem dX10_search_121 : decode cX10_search 121 = .ok (.invokevirtual 132, 3) := by decide +kernel
theorem dX10_search_124 : decode cX10_search 124 = .ok (.iinc 4 1, 3) := by decide +kernel
theorem dX10_search_127 : decode cX10_search 127 = .ok (.goto (-20), 3) := by decide +kernel
theorem dX10_search_130 : decode cX10_search 130 = .ok (.iload_n 3, 1) := by decide +kernel
theorem dX10_search_131 : decode cX10_search 131 = .ok (.istore_n 1, 1) := by decide +kernel
theorem dX10_search_132 : decode cX10_search 132 = .ok (.iinc 2 1, 3) := by decide +kernel
theorem dX10_search_135 : decode cX10_search 135 = .ok (.goto (-81), 3) := by decide +kernel
theorem dX10_search_138 : decode cX10_search 138 = .ok (.iconst (-1), 1) := by decide +kernel
theorem dX10_search_139 : decode cX10_search 139 = .ok (.ireturn, 1) := by decide +kernel
theorem dX10_endsBehind_0 : decode cX10_endsBehind 0 = .ok (.aload_n 0, 1) := by decide +kernel
theorem dX10_endsBehind_1 : decode cX10_endsBehind 1 = .ok (.iload_n 1, 1) := by decide +kernel
theorem dX10_endsBehind_2 : decode cX10_endsBehind 2 = .ok (.invokevirtual 136, 3) := by decide +kernel
theorem dX10_endsBehind_5 : decode cX10_endsBehind 5 = .ok (.aload_n 0, 1) := by decide +kernel
theorem dX10_endsBehind_6 : decode cX10_endsBehind 6 = .ok (.iconst 0, 1) := by decide +kernel
theorem dX10_endsBehind_7 : decode cX10_endsBehind 7 = .ok (.invokevirtual 139, 3) := by decide +kernel
theorem dX10_endsBehind_10 : decode cX10_endsBehind 10 = .ok (.aload_n 0, 1) := by decide +kernel
theorem dX10_endsBehind_11 : decode cX10_endsBehind 11 = .ok (.iload_n 1, 1) := by decide +kernel
theorem dX10_endsBehind_12 : decode cX10_endsBehind 12 = .ok (.iconst 0, 1) := by decide +kernel
theorem dX10_endsBehind_13 : decode cX10_endsBehind 13 = .ok (.invokevirtual 76, 3) := by decide +kernel
theorem dX10_endsBehind_16 : decode cX10_endsBehind 16 = .ok (.istore_n 2, 1) := by decide +kernel
theorem dX10_endsBehind_17 : decode cX10_endsBehind 17 = .ok (.aload_n 0, 1) := by decide +kernel
theorem dX10_endsBehind_18 : decode cX10_endsBehind 18 = .ok (.iload_n 2, 1) := by decide +kernel
theorem dX10_endsBehind_19 : decode cX10_endsBehind 19 = .ok (.lconst 1, 1) := by decide +kernel
theorem dX10_endsBehind_20 : decode cX10_endsBehind 20 = .ok (.invokevirtual 142, 3) := by decide +kernel
theorem dX10_endsBehind_23 : decode cX10_endsBehind 23 = .ok (.lconst 0, 1) := by decide +kernel
theorem dX10_endsBehind_24 : decode cX10_endsBehind 24 = .ok (.lcmp, 1) := by decide +kernel
theorem dX10_endsBehind_25 : decode cX10_endsBehind 25 = .ok (.ifCond .ne 5, 3) := by decide +kernel
theorem dX10_endsBehind_28 : decode cX10_endsBehind 28 = .ok (.iconst 0, 1) := by decide +kernel
theorem dX10_endsBehind_29 : decode cX10_endsBehind 29 = .ok (.ireturn, 1) := by decide +kernel
theorem dX10_endsBehind_30 : decode cX10_endsBehind 30 = .ok (.aload_n 0, 1) := by decide +kernel
theorem dX10_endsBehind_31 : decode cX10_endsBehind 31 = .ok (.aload_n 0, 1) := by decide +kernel
theorem dX10_endsBehind_32 : decode cX10_endsBehind 32 = .ok (.iload_n 1, 1) := by decide +kernel
theorem dX10_endsBehind_33 : decode cX10_endsBehind 33 = .ok (.iconst 0, 1) := by decide +kernel
theorem dX10_endsBehind_34 : decode cX10_endsBehind 34 = .ok (.iload_n 2, 1) := by decide +kernel
theorem dX10_endsBehind_35 : decode cX10_endsBehind 35 = .ok (.invokevirtual 145, 3) := by decide +kernel
theorem dX10_endsBehind_38 : decode cX10_endsBehind 38 = .ok (.putfield 149, 3) := by decide +kernel
theorem dX10_endsBehind_41 : decode cX10_endsBehind 41 = .ok (.aload_n 0, 1) := by decide +kernel
theorem dX10_endsBehind_42 : decode cX10_endsBehind 42 = .ok (.iload_n 1, 1) := by decide +kernel
theorem dX10_endsBehind_43 : decode cX10_endsBehind 43 = .ok (.aload_n 0, 1) := by decide +kernel
theorem dX10_endsBehind_44 : decode cX10_endsBehind 44 = .ok (.getfield 149, 3) := by decide +kernel
theorem dX10_endsBehind_47 : decode cX10_endsBehind 47 = .ok (.iconst 0, 1) := by decide +kernel
theorem dX10_endsBehind_48 : decode cX10_endsBehind 48 = .ok (.iload_n 2, 1) := by decide +kernel
theorem dX10_endsBehind_49 : decode cX10_endsBehind 49 = .ok (.invokevirtual 152, 3) := by decide +kernel
theorem dX10_endsBehind_52 : decode cX10_endsBehind 52 = .ok (.iconst 1, 1) := by decide +kernel
theorem dX10_endsBehind_53 : decode cX10_endsBehind 53 = .ok (.ireturn, 1) := by decide +kernel
theorem dX10_spread_0 : decode cX10_spread 0 = .ok (.aload_n 0, 1) := by decide +kernel
theorem dX10_spread_1 : decode cX10_spread 1 = .ok (.iload_n 1, 1) := by decide +kernel
theorem dX10_spread_2 : decode cX10_spread 2 = .ok (.invokevirtual 136, 3) := by decide +kernel
theorem dX10_spread_5 : decode cX10_spread 5 = .ok (.iconst 0, 1) := by decide +kernel
theorem dX10_spread_6 : decode cX10_spread 6 = .ok (.istore_n 2, 1) := by decide +kernel
theorem dX10_spread_7 : decode cX10_spread 7 = .ok (.iload_n 2, 1) := by decide +kernel
theorem dX10_spread_8 : decode cX10_spread 8 = .ok (.iconst 2, 1) := by decide +kernel
theorem dX10_spread_9 : decode cX10_spread 9 = .ok (.if_icmp .ge 110, 3) := by decide +kernel
theorem dX10_spread_12 : decode cX10_spread 12 = .ok (.aload_n 0, 1) := by decide +kernel
theorem dX10_spread_13 : decode cX10_spread 13 = .ok (.iload_n 2, 1) := by decide +kernel
theorem dX10_spread_14 : decode cX10_spread 14 = .ok (.invokevirtual 139, 3) := by decide +kernel
theorem dX10_spread_17 : decode cX10_spread 17 = .ok (.aload_n 0, 1) := by decide +kernel
theorem dX10_spread_18 : decode cX10_spread 18 = .ok (.iload_n 1, 1) := by decide +kernel
theorem dX10_spread_19 : decode cX10_spread 19 = .ok (.iload_n 2, 1) := by decide +kernel
theorem dX10_spread_20 : decode cX10_spread 20 = .ok (.invokevirtual 76, 3) := by decide +kernel
theorem dX10_spread_23 : decode cX10_spread 23 = .ok (.iload_n 2, 1) := by decide +kernel
theorem dX10_spread_24 : decode cX10_spread 24 = .ok (.ifCond .ne 7, 3) := by decide +kernel
theorem dX10_spread_27 : decode cX10_spread 27 = .ok (.iconst 1, 1) := by decide +kernel
theorem dX10_spread_28 : decode cX10_spread 28 = .ok (.goto 4, 3) := by decide +kernel
theorem dX10_spread_31 : decode cX10_spread 31 = .ok (.iconst 0, 1) := by decide +kernel
theorem dX10_spread_32 : decode cX10_spread 32 = .ok (.isub, 1) := by decide +kernel
theorem dX10_spread_33 : decode cX10_spread 33 = .ok (.istore_n 3, 1) := by decide +kernel
theorem dX10_spread_34 : decode cX10_spread 34 = .ok (.iconst 1, 1) := by decide +kernel
theorem dX10_spread_35 : decode cX10_spread 35 = .ok (.istore 4, 2) := by decide +kernel
theorem dX10_spread_37 : decode cX10_spread 37 = .ok (.iload 4, 2) := by decide +kernel
theorem dX10_spread_39 : decode cX10_spread 39 = .ok (.iload_n 3, 1) := by decide +kernel
theorem dX10_spread_40 : decode cX10_spread 40 = .ok (.if_icmp .gt 73, 3) := by decide +kernel
theorem dX10_spread_43 : decode cX10_spread 43 = .ok (.aload_n 0, 1) := by decide +kernel
theorem dX10_spread_44 : decode cX10_spread 44 = .ok (.iload_n 1, 1) := by decide +kernel
theorem dX10_spread_45 : decode cX10_spread 45 = .ok (.iload_n 2, 1) := by decide +kernel
theorem dX10_spread_46 : decode cX10_spread 46 = .ok (.iload 4, 2) := by decide +kernel
theorem dX10_spread_48 : decode cX10_spread 48 = .ok (.invokevirtual 145, 3) := by decide +kernel
theorem dX10_spread_51 : decode cX10_spread 51 = .ok (.istore 5, 2) := by decide +kernel
theorem dX10_spread_53 : decode cX10_spread 53 = .ok (.aload_n 0, 1) := by decide +kernel
theorem dX10_spread_54 : decode cX10_spread 54 = .ok (.getfield 29, 3) := by decide +kernel
theorem dX10_spread_57 : decode cX10_spread 57 = .ok (.iload 5, 2) := by decide +kernel
theorem dX10_spread_59 : decode cX10_spread 59 = .ok (.iaload, 1) := by decide +kernel
theorem dX10_spread_60 : decode cX10_spread 60 = .ok (.iconst (-1), 1) := by decide +kernel
theorem dX10_spread_61 : decode cX10_spread 61 = .ok (.if_icmp .ne 46, 3) := by decide +kernel
theorem dX10_spread_64 : decode cX10_spread 64 = .ok (.aload_n 0, 1) := by decide +kernel
theorem dX10_spread_65 : decode cX10_spread 65 = .ok (.iload 4, 2) := by decide +kernel
theorem dX10_spread_67 : decode cX10_spread 67 = .ok (.lconst 1, 1) := by decide +kernel
theorem dX10_spread_68 : decode cX10_spread 68 = .ok (.invokevirtual 142, 3) := by decide +kernel
theorem dX10_spread_71 : decode cX10_spread 71 = .ok (.lconst 0, 1) := by decide +kernel
theorem dX10_spread_72 : decode cX10_spread 72 = .ok (.lcmp, 1) := by decide +kernel
theorem dX10_spread_73 : decode cX10_spread 73 = .ok (.ifCond .eq 34, 3) := by decide +kernel
theorem dX10_spread_76 : decode cX10_spread 76 = .ok (.aload_n 0, 1) := by decide +kernel
theorem dX10_spread_77 : decode cX10_spread 77 = .ok (.iload_n 1, 1) := by decide +kernel
theorem dX10_spread_78 : decode cX10_spread 78 = .ok (.iload 5, 2) := by decide +kernel
theorem dX10_spread_80 : decode cX10_spread 80 = .ok (.iload_n 2, 1) := by decide +kernel
theorem dX10_spread_81 : decode cX10_spread 81 = .ok (.iload 4, 2) := by decide +kernel
theorem dX10_spread_83 : decode cX10_spread 83 = .ok (.invokevirtual 152, 3) := by decide +kernel
theorem dX10_spread_86 : decode cX10_spread 86 = .ok (.aload_n 0, 1) := by decide +kernel
theorem dX10_spread_87 : decode cX10_spread 87 = .ok (.getfield 25, 3) := by decide +kernel
theorem dX10_spread_90 : decode cX10_spread 90 = .ok (.aload_n 0, 1) := by decide +kernel
theorem dX10_spread_91 : decode cX10_spread 91 = .ok (.getfield 125, 3) := by decide +kernel
theorem dX10_spread_94 : decode cX10_spread 94 = .ok (.iload 5, 2) := by decide +kernel
theorem dX10_spread_96 : decode cX10_spread 96 = .ok (.iastore, 1) := by decide +kernel
theorem dX10_spread_97 : decode cX10_spread 97 = .ok (.aload_n 0, 1) := by decide +kernel
theorem dX10_spread_98 : decode cX10_spread 98 = .ok (.dup, 1) := by decide +kernel
theorem dX10_spread_99 : decode cX10_spread 99 = .ok (.getfield 125, 3) := by decide +kernel
theorem dX10_spread_102 : decode cX10_spread 102 = .ok (.iconst 1, 1) := by decide +kernel
theorem dX10_spread_103 : decode cX10_spread 103 = .ok (.iadd, 1) := by decide +kernel
theorem dX10_spread_104 : decode cX10_spread 104 = .ok (.putfield 125, 3) := by decide +kernel
theorem dX10_spread_107 : decode cX10_spread 107 = .ok (.iinc 4 1, 3) := by decide +kernel
theorem dX10_spread_110 : decode cX10_spread 110 = .ok (.goto (-73), 3) := by decide +kernel
theorem dX10_spread_113 : decode cX10_spread 113 = .ok (.iinc 2 1, 3) := by decide +kernel
theorem dX10_spread_116 : decode cX10_spread 116 = .ok (.goto (-109), 3) := by decide +kernel
theorem dX10_spread_119 : decode cX10_spread 119 = .ok (.return_, 1) := by decide +kernel
theorem dX10_keepStep_0 : decode cX10_keepStep 0 = .ok (.aload_n 0, 1) := by decide +kernel
theorem dX10_keepStep_1 : decode cX10_keepStep 1 = .ok (.getfield 29, 3) := by decide +kernel
theorem dX10_keepStep_4 : decode cX10_keepStep 4 = .ok (.iload_n 2, 1) := by decide +kernel
theorem dX10_keepStep_5 : decode cX10_keepStep 5 = .ok (.iload_n 1, 1) := by decide +kernel
theorem dX10_keepStep_6 : decode cX10_keepStep 6 = .ok (.iastore, 1) := by decide +kernel
theorem dX10_keepStep_7 : decode cX10_keepStep 7 = .ok (.aload_n 0, 1) := by decide +kernel
theorem dX10_keepStep_8 : decode cX10_keepStep 8 = .ok (.getfield 32, 3) := by decide +kernel
theorem dX10_keepStep_11 : decode cX10_keepStep 11 = .ok (.iload_n 2, 1) := by decide +kernel
theorem dX10_keepStep_12 : decode cX10_keepStep 12 = .ok (.iload_n 3, 1) := by decide +kernel
theorem dX10_keepStep_13 : decode cX10_keepStep 13 = .ok (.bipush 13, 2) := by decide +kernel
theorem dX10_keepStep_15 : decode cX10_keepStep 15 = .ok (.imul, 1) := by decide +kernel
theorem dX10_keepStep_16 : decode cX10_keepStep 16 = .ok (.iload 4, 2) := by decide +kernel
theorem dX10_keepStep_18 : decode cX10_keepStep 18 = .ok (.iadd, 1) := by decide +kernel
theorem dX10_keepStep_19 : decode cX10_keepStep 19 = .ok (.iconst 3, 1) := by decide +kernel
theorem dX10_keepStep_20 : decode cX10_keepStep 20 = .ok (.imul, 1) := by decide +kernel
theorem dX10_keepStep_21 : decode cX10_keepStep 21 = .ok (.aload_n 0, 1) := by decide +kernel
theorem dX10_keepStep_22 : decode cX10_keepStep 22 = .ok (.getfield 92, 3) := by decide +kernel
theorem dX10_keepStep_25 : decode cX10_keepStep 25 = .ok (.iadd, 1) := by decide +kernel
theorem dX10_keepStep_26 : decode cX10_keepStep 26 = .ok (.iastore, 1) := by decide +kernel
theorem dX10_keepStep_27 : decode cX10_keepStep 27 = .ok (.return_, 1) := by decide +kernel
theorem dX10_stepTells_0 : decode cX10_stepTells 0 = .ok (.aload_n 0, 1) := by decide +kernel
theorem dX10_stepTells_1 : decode cX10_stepTells 1 = .ok (.getfield 149, 3) := by decide +kernel
theorem dX10_stepTells_4 : decode cX10_stepTells 4 = .ok (.istore_n 3, 1) := by decide +kernel
theorem dX10_stepTells_5 : decode cX10_stepTells 5 = .ok (.iconst 0, 1) := by decide +kernel
theorem dX10_stepTells_6 : decode cX10_stepTells 6 = .ok (.istore 4, 2) := by decide +kernel
theorem dX10_stepTells_8 : decode cX10_stepTells 8 = .ok (.iload 4, 2) := by decide +kernel
theorem dX10_stepTells_10 : decode cX10_stepTells 10 = .ok (.iload_n 1, 1) := by decide +kernel
theorem dX10_stepTells_11 : decode cX10_stepTells 11 = .ok (.if_icmp .ge 23, 3) := by decide +kernel
theorem dX10_stepTells_14 : decode cX10_stepTells 14 = .ok (.iload 4, 2) := by decide +kernel
theorem dX10_stepTells_16 : decode cX10_stepTells 16 = .ok (.bipush 24, 2) := by decide +kernel
theorem dX10_stepTells_18 : decode cX10_stepTells 18 = .ok (.if_icmp .ge 16, 3) := by decide +kernel
theorem dX10_stepTells_21 : decode cX10_stepTells 21 = .ok (.aload_n 0, 1) := by decide +kernel
theorem dX10_stepTells_22 : decode cX10_stepTells 22 = .ok (.getfield 29, 3) := by decide +kernel
theorem dX10_stepTells_25 : decode cX10_stepTells 25 = .ok (.iload_n 3, 1) := by decide +kernel
theorem dX10_stepTells_26 : decode cX10_stepTells 26 = .ok (.iaload, 1) := by decide +kernel
theorem dX10_stepTells_27 : decode cX10_stepTells 27 = .ok (.istore_n 3, 1) := by decide +kernel
theorem dX10_stepTells_28 : decode cX10_stepTells 28 = .ok (.iinc 4 1, 3) := by decide +kernel
theorem dX10_stepTells_31 : decode cX10_stepTells 31 = .ok (.goto (-23), 3) := by decide +kernel
theorem dX10_stepTells_34 : decode cX10_stepTells 34 = .ok (.aload_n 0, 1) := by decide +kernel
theorem dX10_stepTells_35 : decode cX10_stepTells 35 = .ok (.getfield 32, 3) := by decide +kernel
theorem dX10_stepTells_38 : decode cX10_stepTells 38 = .ok (.iload_n 3, 1) := by decide +kernel
theorem dX10_stepTells_39 : decode cX10_stepTells 39 = .ok (.iaload, 1) := by decide +kernel
theorem dX10_stepTells_40 : decode cX10_stepTells 40 = .ok (.istore 4, 2) := by decide +kernel
theorem dX10_stepTells_42 : decode cX10_stepTells 42 = .ok (.iload_n 2, 1) := by decide +kernel
theorem dX10_stepTells_43 : decode cX10_stepTells 43 = .ok (.ifCond .ne 24, 3) := by decide +kernel
theorem dX10_stepTells_46 : decode cX10_stepTells 46 = .ok (.iload 4, 2) := by decide +kernel
theorem dX10_stepTells_48 : decode cX10_stepTells 48 = .ok (.iconst 3, 1) := by decide +kernel
theorem dX10_stepTells_49 : decode cX10_stepTells 49 = .ok (.idiv, 1) := by decide +kernel
theorem dX10_stepTells_50 : decode cX10_stepTells 50 = .ok (.bipush 13, 2) := by decide +kernel
theorem dX10_stepTells_52 : decode cX10_stepTells 52 = .ok (.if_icmp .ge 10, 3) := by decide +kernel
theorem dX10_stepTells_55 : decode cX10_stepTells 55 = .ok (.aload_n 0, 1) := by decide +kernel
theorem dX10_stepTells_56 : decode cX10_stepTells 56 = .ok (.getfield 50, 3) := by decide +kernel
theorem dX10_stepTells_59 : decode cX10_stepTells 59 = .ok (.goto 7, 3) := by decide +kernel
theorem dX10_stepTells_62 : decode cX10_stepTells 62 = .ok (.aload_n 0, 1) := by decide +kernel
theorem dX10_stepTells_63 : decode cX10_stepTells 63 = .ok (.getfield 62, 3) := by decide +kernel
theorem dX10_stepTells_66 : decode cX10_stepTells 66 = .ok (.ireturn, 1) := by decide +kernel
theorem dX10_stepTells_67 : decode cX10_stepTells 67 = .ok (.iload_n 2, 1) := by decide +kernel
theorem dX10_stepTells_68 : decode cX10_stepTells 68 = .ok (.iconst 1, 1) := by decide +kernel
theorem dX10_stepTells_69 : decode cX10_stepTells 69 = .ok (.if_icmp .ne 13, 3) := by decide +kernel
theorem dX10_stepTells_72 : decode cX10_stepTells 72 = .ok (.iload 4, 2) := by decide +kernel
theorem dX10_stepTells_74 : decode cX10_stepTells 74 = .ok (.iconst 3, 1) := by decide +kernel
theorem dX10_stepTells_75 : decode cX10_stepTells 75 = .ok (.idiv, 1) := by decide +kernel
theorem dX10_stepTells_76 : decode cX10_stepTells 76 = .ok (.bipush 13, 2) := by decide +kernel
theorem dX10_stepTells_78 : decode cX10_stepTells 78 = .ok (.irem, 1) := by decide +kernel
theorem dX10_stepTells_79 : decode cX10_stepTells 79 = .ok (.goto 7, 3) := by decide +kernel
theorem dX10_stepTells_82 : decode cX10_stepTells 82 = .ok (.iload 4, 2) := by decide +kernel
theorem dX10_stepTells_84 : decode cX10_stepTells 84 = .ok (.iconst 3, 1) := by decide +kernel
theorem dX10_stepTells_85 : decode cX10_stepTells 85 = .ok (.irem, 1) := by decide +kernel
theorem dX10_stepTells_86 : decode cX10_stepTells 86 = .ok (.ireturn, 1) := by decide +kernel
theorem dX11_init_0 : decode cX11_init 0 = .ok (.aload_n 0, 1) := by decide +kernel
theorem dX11_init_1 : decode cX11_init 1 = .ok (.invokespecial 1, 3) := by decide +kernel
theorem dX11_init_4 : decode cX11_init 4 = .ok (.aload_n 0, 1) := by decide +kernel
theorem dX11_init_5 : decode cX11_init 5 = .ok (.new 7, 3) := by decide +kernel
theorem dX11_init_8 : decode cX11_init 8 = .ok (.dup, 1) := by decide +kernel
theorem dX11_init_9 : decode cX11_init 9 = .ok (.invokespecial 9, 3) := by decide +kernel
theorem dX11_init_12 : decode cX11_init 12 = .ok (.putfield 10, 3) := by decide +kernel
theorem dX11_init_15 : decode cX11_init 15 = .ok (.aload_n 0, 1) := by decide +kernel
theorem dX11_init_16 : decode cX11_init 16 = .ok (.new 16, 3) := by decide +kernel
theorem dX11_init_19 : decode cX11_init 19 = .ok (.dup, 1) := by decide +kernel
theorem dX11_init_20 : decode cX11_init 20 = .ok (.invokespecial 18, 3) := by decide +kernel
theorem dX11_init_23 : decode cX11_init 23 = .ok (.putfield 19, 3) := by decide +kernel
theorem dX11_init_26 : decode cX11_init 26 = .ok (.aload_n 0, 1) := by decide +kernel
theorem dX11_init_27 : decode cX11_init 27 = .ok (.new 23, 3) := by decide +kernel
theorem dX11_init_30 : decode cX11_init 30 = .ok (.dup, 1) := by decide +kernel
theorem dX11_init_31 : decode cX11_init 31 = .ok (.invokespecial 25, 3) := by decide +kernel
theorem dX11_init_34 : decode cX11_init 34 = .ok (.putfield 26, 3) := by decide +kernel
theorem dX11_init_37 : decode cX11_init 37 = .ok (.aload_n 0, 1) := by decide +kernel
theorem dX11_init_38 : decode cX11_init 38 = .ok (.new 30, 3) := by decide +kernel
theorem dX11_init_41 : decode cX11_init 41 = .ok (.dup, 1) := by decide +kernel
theorem dX11_init_42 : decode cX11_init 42 = .ok (.invokespecial 32, 3) := by decide +kernel
theorem dX11_init_45 : decode cX11_init 45 = .ok (.putfield 33, 3) := by decide +kernel
theorem dX11_init_48 : decode cX11_init 48 = .ok (.aload_n 0, 1) := by decide +kernel
theorem dX11_init_49 : decode cX11_init 49 = .ok (.new 37, 3) := by decide +kernel
theorem dX11_init_52 : decode cX11_init 52 = .ok (.dup, 1) := by decide +kernel
theorem dX11_init_53 : decode cX11_init 53 = .ok (.aload_n 0, 1) := by decide +kernel
theorem dX11_init_54 : decode cX11_init 54 = .ok (.getfield 10, 3) := by decide +kernel
theorem dX11_init_57 : decode cX11_init 57 = .ok (.invokespecial 39, 3) := by decide +kernel
theorem dX11_init_60 : decode cX11_init 60 = .ok (.putfield 42, 3) := by decide +kernel
theorem dX11_init_63 : decode cX11_init 63 = .ok (.aload_n 0, 1) := by decide +kernel
theorem dX11_init_64 : decode cX11_init 64 = .ok (.new 46, 3) := by decide +kernel
theorem dX11_init_67 : decode cX11_init 67 = .ok (.dup, 1) := by decide +kernel
theorem dX11_init_68 : decode cX11_init 68 = .ok (.aload_n 0, 1) := by decide +kernel
theorem dX11_init_69 : decode cX11_init 69 = .ok (.getfield 10, 3) := by decide +kernel
theorem dX11_init_72 : decode cX11_init 72 = .ok (.aload_n 0, 1) := by decide +kernel
theorem dX11_init_73 : decode cX11_init 73 = .ok (.getfield 19, 3) := by decide +kernel
theorem dX11_init_76 : decode cX11_init 76 = .ok (.aload_n 0, 1) := by decide +kernel
theorem dX11_init_77 : decode cX11_init 77 = .ok (.getfield 42, 3) := by decide +kernel
theorem dX11_init_80 : decode cX11_init 80 = .ok (.invokespecial 48, 3) := by decide +kernel
theorem dX11_init_83 : decode cX11_init 83 = .ok (.putfield 51, 3) := by decide +kernel
theorem dX11_init_86 : decode cX11_init 86 = .ok (.aload_n 0, 1) := by decide +kernel
theorem dX11_init_87 : decode cX11_init 87 = .ok (.new 55, 3) := by decide +kernel
theorem dX11_init_90 : decode cX11_init 90 = .ok (.dup, 1) := by decide +kernel
theorem dX11_init_91 : decode cX11_init 91 = .ok (.aload_n 0, 1) := by decide +kernel
theorem dX11_init_92 : decode cX11_init 92 = .ok (.getfield 10, 3) := by decide +kernel
theorem dX11_init_95 : decode cX11_init 95 = .ok (.aload_n 0, 1) := by decide +kernel
theorem dX11_init_96 : decode cX11_init 96 = .ok (.getfield 19, 3) := by decide +kernel
theorem dX11_init_99 : decode cX11_init 99 = .ok (.aload_n 0, 1) := by decide +kernel
theorem dX11_init_100 : decode cX11_init 100 = .ok (.getfield 42, 3) := by decide +kernel
theorem dX11_init_103 : decode cX11_init 103 = .ok (.aload_n 0, 1) := by decide +kernel
theorem dX11_init_104 : decode cX11_init 104 = .ok (.getfield 51, 3) := by decide +kernel
theorem dX11_init_107 : decode cX11_init 107 = .ok (.invokespecial 57, 3) := by decide +kernel
theorem dX11_init_110 : decode cX11_init 110 = .ok (.putfield 60, 3) := by decide +kernel
theorem dX11_init_113 : decode cX11_init 113 = .ok (.aload_n 0, 1) := by decide +kernel
theorem dX11_init_114 : decode cX11_init 114 = .ok (.new 64, 3) := by decide +kernel
theorem dX11_init_117 : decode cX11_init 117 = .ok (.dup, 1) := by decide +kernel
theorem dX11_init_118 : decode cX11_init 118 = .ok (.aload_n 0, 1) := by decide +kernel
theorem dX11_init_119 : decode cX11_init 119 = .ok (.getfield 10, 3) := by decide +kernel
theorem dX11_init_122 : decode cX11_init 122 = .ok (.aload_n 0, 1) := by decide +kernel
theorem dX11_init_123 : decode cX11_init 123 = .ok (.getfield 19, 3) := by decide +kernel
theorem dX11_init_126 : decode cX11_init 126 = .ok (.aload_n 0, 1) := by decide +kernel
theorem dX11_init_127 : decode cX11_init 127 = .ok (.getfield 42, 3) := by decide +kernel
theorem dX11_init_130 : decode cX11_init 130 = .ok (.invokespecial 66, 3) := by decide +kernel
theorem dX11_init_133 : decode cX11_init 133 = .ok (.putfield 67, 3) := by decide +kernel
theorem dX11_init_136 : decode cX11_init 136 = .ok (.aload_n 0, 1) := by decide +kernel
theorem dX11_init_137 : decode cX11_init 137 = .ok (.bipush 40, 2) := by decide +kernel
theorem dX11_init_139 : decode cX11_init 139 = .ok (.anewarray 71, 3) := by decide +kernel
theorem dX11_init_142 : decode cX11_init 142 = .ok (.putfield 73, 3) := by decide +kernel
theorem dX11_init_145 : decode cX11_init 145 = .ok (.aload_n 0, 1) := by decide +kernel
theorem dX11_init_146 : decode cX11_init 146 = .ok (.iconst 4, 1) := by decide +kernel
theorem dX11_init_147 : decode cX11_init 147 = .ok (.anewarray 77, 3) := by decide +kernel
theorem dX11_init_150 : decode cX11_init 150 = .ok (.putfield 79, 3) := by decide +kernel
theorem dX11_init_153 : decode cX11_init 153 = .ok (.aload_n 0, 1) := by decide +kernel
theorem dX11_init_154 : decode cX11_init 154 = .ok (.new 83, 3) := by decide +kernel
theorem dX11_init_157 : decode cX11_init 157 = .ok (.dup, 1) := by decide +kernel
theorem dX11_init_158 : decode cX11_init 158 = .ok (.invokespecial 85, 3) := by decide +kernel
theorem dX11_init_161 : decode cX11_init 161 = .ok (.putfield 86, 3) := by decide +kernel
theorem dX11_init_164 : decode cX11_init 164 = .ok (.aload_n 0, 1) := by decide +kernel
theorem dX11_init_165 : decode cX11_init 165 = .ok (.new 83, 3) := by decide +kernel
theorem dX11_init_168 : decode cX11_init 168 = .ok (.dup, 1) := by decide +kernel
theorem dX11_init_169 : decode cX11_init 169 = .ok (.invokespecial 85, 3) := by decide +kernel
theorem dX11_init_172 : decode cX11_init 172 = .ok (.putfield 90, 3) := by decide +kernel
theorem dX11_init_175 : decode cX11_init 175 = .ok (.aload_n 0, 1) := by decide +kernel
theorem dX11_init_176 : decode cX11_init 176 = .ok (.getfield 42, 3) := by decide +kernel
theorem dX11_init_179 : decode cX11_init 179 = .ok (.aload_n 0, 1) := by decide +kernel
theorem dX11_init_180 : decode cX11_init 180 = .ok (.getfield 86, 3) := by decide +kernel
theorem dX11_init_183 : decode cX11_init 183 = .ok (.putfield 93, 3) := by decide +kernel
theorem dX11_init_186 : decode cX11_init 186 = .ok (.return_, 1) := by decide +kernel
theorem dX11_parcel_0 : decode cX11_parcel 0 = .ok (.iload_n 1, 1) := by decide +kernel
theorem dX11_parcel_1 : decode cX11_parcel 1 = .ok (.ifCond .lt 27, 3) := by decide +kernel
theorem dX11_parcel_4 : decode cX11_parcel 4 = .ok (.iload_n 1, 1) := by decide +kernel
theorem dX11_parcel_5 : decode cX11_parcel 5 = .ok (.bipush 12, 2) := by decide +kernel
theorem dX11_parcel_7 : decode cX11_parcel 7 = .ok (.if_icmp .ge 21, 3) := by decide +kernel
theorem dX11_parcel_10 : decode cX11_parcel 10 = .ok (.iload_n 2, 1) := by decide +kernel
theorem dX11_parcel_11 : decode cX11_parcel 11 = .ok (.invokestatic 96, 3) := by decide +kernel
theorem dX11_parcel_14 : decode cX11_parcel 14 = .ok (.ifCond .eq 14, 3) := by decide +kernel
theorem dX11_parcel_17 : decode cX11_parcel 17 = .ok (.aload_n 0, 1) := by decide +kernel
theorem dX11_parcel_18 : decode cX11_parcel 18 = .ok (.getfield 10, 3) := by decide +kernel
theorem dX11_parcel_21 : decode cX11_parcel 21 = .ok (.iload_n 1, 1) := by decide +kernel
theorem dX11_parcel_22 : decode cX11_parcel 22 = .ok (.invokevirtual 100, 3) := by decide +kernel
theorem dX11_parcel_25 : decode cX11_parcel 25 = .ok (.ifCond .eq 5, 3) := by decide +kernel
theorem dX11_parcel_28 : decode cX11_parcel 28 = .ok (.iconst 0, 1) := by decide +kernel
theorem dX11_parcel_29 : decode cX11_parcel 29 = .ok (.ireturn, 1) := by decide +kernel
theorem dX11_parcel_30 : decode cX11_parcel 30 = .ok (.aload_n 0, 1) := by decide +kernel
theorem dX11_parcel_31 : decode cX11_parcel 31 = .ok (.getfield 10, 3) := by decide +kernel
theorem dX11_parcel_34 : decode cX11_parcel 34 = .ok (.dup, 1) := by decide +kernel
theorem dX11_parcel_35 : decode cX11_parcel 35 = .ok (.getfield 103, 3) := by decide +kernel
theorem dX11_parcel_38 : decode cX11_parcel 38 = .ok (.iconst 1, 1) := by decide +kernel
theorem dX11_parcel_39 : decode cX11_parcel 39 = .ok (.iadd, 1) := by decide +kernel
theorem dX11_parcel_40 : decode cX11_parcel 40 = .ok (.putfield 103, 3) := by decide +kernel
theorem dX11_parcel_43 : decode cX11_parcel 43 = .ok (.aload_n 0, 1) := by decide +kernel
theorem dX11_parcel_44 : decode cX11_parcel 44 = .ok (.getfield 10, 3) := by decide +kernel
theorem dX11_parcel_47 : decode cX11_parcel 47 = .ok (.dup, 1) := by decide +kernel
theorem dX11_parcel_48 : decode cX11_parcel 48 = .ok (.getfield 107, 3) := by decide +kernel
theorem dX11_parcel_51 : decode cX11_parcel 51 = .ok (.iconst 1, 1) := by decide +kernel
theorem dX11_parcel_52 : decode cX11_parcel 52 = .ok (.iload_n 1, 1) := by decide +kernel
theorem dX11_parcel_53 : decode cX11_parcel 53 = .ok (.ishl, 1) := by decide +kernel
theorem dX11_parcel_54 : decode cX11_parcel 54 = .ok (.ior, 1) := by decide +kernel
theorem dX11_parcel_55 : decode cX11_parcel 55 = .ok (.putfield 107, 3) := by decide +kernel
theorem dX11_parcel_58 : decode cX11_parcel 58 = .ok (.aload_n 0, 1) := by decide +kernel
theorem dX11_parcel_59 : decode cX11_parcel 59 = .ok (.getfield 19, 3) := by decide +kernel
theorem dX11_parcel_62 : decode cX11_parcel 62 = .ok (.iload_n 1, 1) := by decide +kernel
theorem dX11_parcel_63 : decode cX11_parcel 63 = .ok (.iload_n 2, 1) := by decide +kernel
theorem dX11_parcel_64 : decode cX11_parcel 64 = .ok (.bipush 12, 2) := by decide +kernel
theorem dX11_parcel_66 : decode cX11_parcel 66 = .ok (.invokevirtual 110, 3) := by decide +kernel
theorem dX11_parcel_69 : decode cX11_parcel 69 = .ok (.iconst 1, 1) := by decide +kernel
theorem dX11_parcel_70 : decode cX11_parcel 70 = .ok (.ireturn, 1) := by decide +kernel
theorem dX11_part_0 : decode cX11_part 0 = .ok (.aload_n 0, 1) := by decide +kernel
theorem dX11_part_1 : decode cX11_part 1 = .ok (.getfield 10, 3) := by decide +kernel
theorem dX11_part_4 : decode cX11_part 4 = .ok (.iload_n 1, 1) := by decide +kernel
theorem dX11_part_5 : decode cX11_part 5 = .ok (.invokevirtual 100, 3) := by decide +kernel
theorem dX11_part_8 : decode cX11_part 8 = .ok (.ifCond .eq 24, 3) := by decide +kernel
theorem dX11_part_11 : decode cX11_part 11 = .ok (.iload_n 2, 1) := by decide +kernel
theorem dX11_part_12 : decode cX11_part 12 = .ok (.iload_n 3, 1) := by decide +kernel
theorem dX11_part_13 : decode cX11_part 13 = .ok (.invokestatic 114, 3) := by decide +kernel
theorem dX11_part_16 : decode cX11_part 16 = .ok (.ifCond .eq 16, 3) := by decide +kernel
theorem dX11_part_19 : decode cX11_part 19 = .ok (.iload 4, 2) := by decide +kernel
theorem dX11_part_21 : decode cX11_part 21 = .ok (.iconst 1, 1) := by decide +kernel
theorem dX11_part_22 : decode cX11_part 22 = .ok (.if_icmp .lt 10, 3) := by decide +kernel
theorem dX11_part_25 : decode cX11_part 25 = .ok (.iload 4, 2) := by decide +kernel
theorem dX11_part_27 : decode cX11_part 27 = .ok (.bipush 12, 2) := by decide +kernel
theorem dX11_part_29 : decode cX11_part 29 = .ok (.if_icmp .le 5, 3) := by decide +kernel
theorem dX11_part_32 : decode cX11_part 32 = .ok (.iconst 0, 1) := by decide +kernel
theorem dX11_part_33 : decode cX11_part 33 = .ok (.ireturn, 1) := by decide +kernel
theorem dX11_part_34 : decode cX11_part 34 = .ok (.aload_n 0, 1) := by decide +kernel
theorem dX11_part_35 : decode cX11_part 35 = .ok (.getfield 19, 3) := by decide +kernel
theorem dX11_part_38 : decode cX11_part 38 = .ok (.iload_n 1, 1) := by decide +kernel
theorem dX11_part_39 : decode cX11_part 39 = .ok (.iload_n 2, 1) := by decide +kernel
theorem dX11_part_40 : decode cX11_part 40 = .ok (.invokevirtual 118, 3) := by decide +kernel
theorem dX11_part_43 : decode cX11_part 43 = .ok (.iload 4, 2) := by decide +kernel
theorem dX11_part_45 : decode cX11_part 45 = .ok (.if_icmp .ge 5, 3) := by decide +kernel
theorem dX11_part_48 : decode cX11_part 48 = .ok (.iconst 0, 1) := by decide +kernel
theorem dX11_part_49 : decode cX11_part 49 = .ok (.ireturn, 1) := by decide +kernel
theorem dX11_part_50 : decode cX11_part 50 = .ok (.aload_n 0, 1) := by decide +kernel
theorem dX11_part_51 : decode cX11_part 51 = .ok (.getfield 10, 3) := by decide +kernel
theorem dX11_part_54 : decode cX11_part 54 = .ok (.dup, 1) := by decide +kernel
theorem dX11_part_55 : decode cX11_part 55 = .ok (.getfield 103, 3) := by decide +kernel
theorem dX11_part_58 : decode cX11_part 58 = .ok (.iconst 1, 1) := by decide +kernel
theorem dX11_part_59 : decode cX11_part 59 = .ok (.iadd, 1) := by decide +kernel
theorem dX11_part_60 : decode cX11_part 60 = .ok (.putfield 103, 3) := by decide +kernel
theorem dX11_part_63 : decode cX11_part 63 = .ok (.aload_n 0, 1) := by decide +kernel
theorem dX11_part_64 : decode cX11_part 64 = .ok (.getfield 19, 3) := by decide +kernel
theorem dX11_part_67 : decode cX11_part 67 = .ok (.iload_n 1, 1) := by decide +kernel
theorem dX11_part_68 : decode cX11_part 68 = .ok (.iload_n 2, 1) := by decide +kernel
theorem dX11_part_69 : decode cX11_part 69 = .ok (.iload_n 3, 1) := by decide +kernel
theorem dX11_part_70 : decode cX11_part 70 = .ok (.iload 4, 2) := by decide +kernel
theorem dX11_part_72 : decode cX11_part 72 = .ok (.invokevirtual 122, 3) := by decide +kernel
theorem dX11_part_75 : decode cX11_part 75 = .ok (.iconst 1, 1) := by decide +kernel
theorem dX11_part_76 : decode cX11_part 76 = .ok (.ireturn, 1) := by decide +kernel
theorem dX11_beside_0 : decode cX11_beside 0 = .ok (.aload_n 0, 1) := by decide +kernel
theorem dX11_beside_1 : decode cX11_beside 1 = .ok (.getfield 10, 3) := by decide +kernel
theorem dX11_beside_4 : decode cX11_beside 4 = .ok (.iload_n 1, 1) := by decide +kernel
theorem dX11_beside_5 : decode cX11_beside 5 = .ok (.iload_n 2, 1) := by decide +kernel
theorem dX11_beside_6 : decode cX11_beside 6 = .ok (.invokevirtual 126, 3) := by decide +kernel
theorem dX11_beside_9 : decode cX11_beside 9 = .ok (.ifCond .eq 12, 3) := by decide +kernel
theorem dX11_beside_12 : decode cX11_beside 12 = .ok (.iload_n 3, 1) := by decide +kernel
theorem dX11_beside_13 : decode cX11_beside 13 = .ok (.ifCond .lt 8, 3) := by decide +kernel
theorem dX11_beside_16 : decode cX11_beside 16 = .ok (.iload_n 3, 1) := by decide +kernel
theorem dX11_beside_17 : decode cX11_beside 17 = .ok (.iconst 4, 1) := by decide +kernel
theorem dX11_beside_18 : decode cX11_beside 18 = .ok (.if_icmp .lt 5, 3) := by decide +kernel
theorem dX11_beside_21 : decode cX11_beside 21 = .ok (.iconst 0, 1) := by decide +kernel
theorem dX11_beside_22 : decode cX11_beside 22 = .ok (.ireturn, 1) := by decide +kernel
theorem dX11_beside_23 : decode cX11_beside 23 = .ok (.aload_n 0, 1) := by decide +kernel
theorem dX11_beside_24 : decode cX11_beside 24 = .ok (.getfield 10, 3) := by decide +kernel
theorem dX11_beside_27 : decode cX11_beside 27 = .ok (.getfield 129, 3) := by decide +kernel
theorem dX11_beside_30 : decode cX11_beside 30 = .ok (.iload_n 1, 1) := by decide +kernel
theorem dX11_beside_31 : decode cX11_beside 31 = .ok (.iconst 4, 1) := by decide +kernel
theorem dX11_beside_32 : decode cX11_beside 32 = .ok (.imul, 1) := by decide +kernel
theorem dX11_beside_33 : decode cX11_beside 33 = .ok (.iload_n 3, 1) := by decide +kernel
theorem dX11_beside_34 : decode cX11_beside 34 = .ok (.iadd, 1) := by decide +kernel
theorem dX11_beside_35 : decode cX11_beside 35 = .ok (.iaload, 1) := by decide +kernel
theorem dX11_beside_36 : decode cX11_beside 36 = .ok (.iload_n 2, 1) := by decide +kernel
theorem dX11_beside_37 : decode cX11_beside 37 = .ok (.ishr, 1) := by decide +kernel
theorem dX11_beside_38 : decode cX11_beside 38 = .ok (.iconst 1, 1) := by decide +kernel
theorem dX11_beside_39 : decode cX11_beside 39 = .ok (.iand, 1) := by decide +kernel
theorem dX11_beside_40 : decode cX11_beside 40 = .ok (.ifCond .eq 5, 3) := by decide +kernel
theorem dX11_beside_43 : decode cX11_beside 43 = .ok (.iconst 0, 1) := by decide +kernel
theorem dX11_beside_44 : decode cX11_beside 44 = .ok (.ireturn, 1) := by decide +kernel
theorem dX11_beside_45 : decode cX11_beside 45 = .ok (.aload_n 0, 1) := by decide +kernel
theorem dX11_beside_46 : decode cX11_beside 46 = .ok (.getfield 10, 3) := by decide +kernel
theorem dX11_beside_49 : decode cX11_beside 49 = .ok (.dup, 1) := by decide +kernel
theorem dX11_beside_50 : decode cX11_beside 50 = .ok (.getfield 103, 3) := by decide +kernel
theorem dX11_beside_53 : decode cX11_beside 53 = .ok (.iconst 1, 1) := by decide +kernel
theorem dX11_beside_54 : decode cX11_beside 54 = .ok (.iadd, 1) := by decide +kernel
theorem dX11_beside_55 : decode cX11_beside 55 = .ok (.putfield 103, 3) := by decide +kernel
theorem dX11_beside_58 : decode cX11_beside 58 = .ok (.aload_n 0, 1) := by decide +kernel
theorem dX11_beside_59 : decode cX11_beside 59 = .ok (.getfield 10, 3) := by decide +kernel
theorem dX11_beside_62 : decode cX11_beside 62 = .ok (.iload_n 1, 1) := by decide +kernel
theorem dX11_beside_63 : decode cX11_beside 63 = .ok (.iload_n 2, 1) := by decide +kernel
theorem dX11_beside_64 : decode cX11_beside 64 = .ok (.iload_n 3, 1) := by decide +kernel
theorem dX11_beside_65 : decode cX11_beside 65 = .ok (.invokevirtual 133, 3) := by decide +kernel
theorem dX11_beside_68 : decode cX11_beside 68 = .ok (.aload_n 0, 1) := by decide +kernel
theorem dX11_beside_69 : decode cX11_beside 69 = .ok (.getfield 10, 3) := by decide +kernel
theorem dX11_beside_72 : decode cX11_beside 72 = .ok (.iload_n 2, 1) := by decide +kernel
theorem dX11_beside_73 : decode cX11_beside 73 = .ok (.iload_n 1, 1) := by decide +kernel
theorem dX11_beside_74 : decode cX11_beside 74 = .ok (.iload_n 3, 1) := by decide +kernel
theorem dX11_beside_75 : decode cX11_beside 75 = .ok (.iconst 2, 1) := by decide +kernel
theorem dX11_beside_76 : decode cX11_beside 76 = .ok (.iadd, 1) := by decide +kernel
theorem dX11_beside_77 : decode cX11_beside 77 = .ok (.iconst 4, 1) := by decide +kernel
theorem dX11_beside_78 : decode cX11_beside 78 = .ok (.irem, 1) := by decide +kernel
theorem dX11_beside_79 : decode cX11_beside 79 = .ok (.invokevirtual 133, 3) := by decide +kernel
theorem dX11_beside_82 : decode cX11_beside 82 = .ok (.iconst 1, 1) := by decide +kernel
theorem dX11_beside_83 : decode cX11_beside 83 = .ok (.ireturn, 1) := by decide +kernel
theorem dX11_water_0 : decode cX11_water 0 = .ok (.aload_n 0, 1) := by decide +kernel
theorem dX11_water_1 : decode cX11_water 1 = .ok (.getfield 10, 3) := by decide +kernel
theorem dX11_water_4 : decode cX11_water 4 = .ok (.iload_n 1, 1) := by decide +kernel
theorem dX11_water_5 : decode cX11_water 5 = .ok (.iload_n 2, 1) := by decide +kernel
theorem dX11_water_6 : decode cX11_water 6 = .ok (.invokevirtual 126, 3) := by decide +kernel
theorem dX11_water_9 : decode cX11_water 9 = .ok (.ifCond .eq 19, 3) := by decide +kernel
theorem dX11_water_12 : decode cX11_water 12 = .ok (.aload_n 0, 1) := by decide +kernel
theorem dX11_water_13 : decode cX11_water 13 = .ok (.getfield 10, 3) := by decide +kernel
theorem dX11_water_16 : decode cX11_water 16 = .ok (.getfield 136, 3) := by decide +kernel
theorem dX11_water_19 : decode cX11_water 19 = .ok (.iload_n 1, 1) := by decide +kernel
theorem dX11_water_20 : decode cX11_water 20 = .ok (.iaload, 1) := by decide +kernel
theorem dX11_water_21 : decode cX11_water 21 = .ok (.iload_n 2, 1) := by decide +kernel
theorem dX11_water_22 : decode cX11_water 22 = .ok (.ishr, 1) := by decide +kernel
theorem dX11_water_23 : decode cX11_water 23 = .ok (.iconst 1, 1) := by decide +kernel
theorem dX11_water_24 : decode cX11_water 24 = .ok (.iand, 1) := by decide +kernel
theorem dX11_water_25 : decode cX11_water 25 = .ok (.ifCond .eq 5, 3) := by decide +kernel
theorem dX11_water_28 : decode cX11_water 28 = .ok (.iconst 0, 1) := by decide +kernel
theorem dX11_water_29 : decode cX11_water 29 = .ok (.ireturn, 1) := by decide +kernel
theorem dX11_water_30 : decode cX11_water 30 = .ok (.aload_n 0, 1) := by decide +kernel
theorem dX11_water_31 : decode cX11_water 31 = .ok (.getfield 10, 3) := by decide +kernel
theorem dX11_water_34 : decode cX11_water 34 = .ok (.dup, 1) := by decide +kernel
theorem dX11_water_35 : decode cX11_water 35 = .ok (.getfield 103, 3) := by decide +kernel
theorem dX11_water_38 : decode cX11_water 38 = .ok (.iconst 1, 1) := by decide +kernel
theorem dX11_water_39 : decode cX11_water 39 = .ok (.iadd, 1) := by decide +kernel
theorem dX11_water_40 : decode cX11_water 40 = .ok (.putfield 103, 3) := by decide +kernel
theorem dX11_water_43 : decode cX11_water 43 = .ok (.aload_n 0, 1) := by decide +kernel
theorem dX11_water_44 : decode cX11_water 44 = .ok (.getfield 10, 3) := by decide +kernel
theorem dX11_water_47 : decode cX11_water 47 = .ok (.getfield 136, 3) := by decide +kernel
theorem dX11_water_50 : decode cX11_water 50 = .ok (.iload_n 1, 1) := by decide +kernel
theorem dX11_water_51 : decode cX11_water 51 = .ok (.dup2, 1) := by decide +kernel
theorem dX11_water_52 : decode cX11_water 52 = .ok (.iaload, 1) := by decide +kernel
theorem dX11_water_53 : decode cX11_water 53 = .ok (.iconst 1, 1) := by decide +kernel
theorem dX11_water_54 : decode cX11_water 54 = .ok (.iload_n 2, 1) := by decide +kernel
theorem dX11_water_55 : decode cX11_water 55 = .ok (.ishl, 1) := by decide +kernel
theorem dX11_water_56 : decode cX11_water 56 = .ok (.ior, 1) := by decide +kernel
theorem dX11_water_57 : decode cX11_water 57 = .ok (.iastore, 1) := by decide +kernel
theorem dX11_water_58 : decode cX11_water 58 = .ok (.aload_n 0, 1) := by decide +kernel
theorem dX11_water_59 : decode cX11_water 59 = .ok (.getfield 10, 3) := by decide +kernel
theorem dX11_water_62 : decode cX11_water 62 = .ok (.getfield 136, 3) := by decide +kernel
theorem dX11_water_65 : decode cX11_water 65 = .ok (.iload_n 2, 1) := by decide +kernel
theorem dX11_water_66 : decode cX11_water 66 = .ok (.dup2, 1) := by decide +kernel
theorem dX11_water_67 : decode cX11_water 67 = .ok (.iaload, 1) := by decide +kernel
theorem dX11_water_68 : decode cX11_water 68 = .ok (.iconst 1, 1) := by decide +kernel
theorem dX11_water_69 : decode cX11_water 69 = .ok (.iload_n 1, 1) := by decide +kernel
theorem dX11_water_70 : decode cX11_water 70 = .ok (.ishl, 1) := by decide +kernel
theorem dX11_water_71 : decode cX11_water 71 = .ok (.ior, 1) := by decide +kernel
theorem dX11_water_72 : decode cX11_water 72 = .ok (.iastore, 1) := by decide +kernel
theorem dX11_water_73 : decode cX11_water 73 = .ok (.iconst 1, 1) := by decide +kernel
theorem dX11_water_74 : decode cX11_water 74 = .ok (.ireturn, 1) := by decide +kernel
theorem dX11_kin_0 : decode cX11_kin 0 = .ok (.iload_n 1, 1) := by decide +kernel
theorem dX11_kin_1 : decode cX11_kin 1 = .ok (.iload_n 2, 1) := by decide +kernel
theorem dX11_kin_2 : decode cX11_kin 2 = .ok (.invokestatic 114, 3) := by decide +kernel
theorem dX11_kin_5 : decode cX11_kin 5 = .ok (.ifCond .eq 12, 3) := by decide +kernel
theorem dX11_kin_8 : decode cX11_kin 8 = .ok (.iload_n 3, 1) := by decide +kernel
theorem dX11_kin_9 : decode cX11_kin 9 = .ok (.ifCond .lt 8, 3) := by decide +kernel
theorem dX11_kin_12 : decode cX11_kin 12 = .ok (.iload_n 3, 1) := by decide +kernel
theorem dX11_kin_13 : decode cX11_kin 13 = .ok (.iconst 3, 1) := by decide +kernel
theorem dX11_kin_14 : decode cX11_kin 14 = .ok (.if_icmp .le 5, 3) := by decide +kernel
theorem dX11_kin_17 : decode cX11_kin 17 = .ok (.iconst 0, 1) := by decide +kernel
theorem dX11_kin_18 : decode cX11_kin 18 = .ok (.ireturn, 1) := by decide +kernel
theorem dX11_kin_19 : decode cX11_kin 19 = .ok (.aload_n 0, 1) := by decide +kernel
theorem dX11_kin_20 : decode cX11_kin 20 = .ok (.getfield 10, 3) := by decide +kernel
theorem dX11_kin_23 : decode cX11_kin 23 = .ok (.dup, 1) := by decide +kernel
theorem dX11_kin_24 : decode cX11_kin 24 = .ok (.getfield 103, 3) := by decide +kernel
theorem dX11_kin_27 : decode cX11_kin 27 = .ok (.iconst 1, 1) := by decide +kernel
theorem dX11_kin_28 : decode cX11_kin 28 = .ok (.iadd, 1) := by decide +kernel
theorem dX11_kin_29 : decode cX11_kin 29 = .ok (.putfield 103, 3) := by decide +kernel
theorem dX11_kin_32 : decode cX11_kin 32 = .ok (.aload_n 0, 1) := by decide +kernel
theorem dX11_kin_33 : decode cX11_kin 33 = .ok (.getfield 10, 3) := by decide +kernel
theorem dX11_kin_36 : decode cX11_kin 36 = .ok (.iload_n 1, 1) := by decide +kernel
theorem dX11_kin_37 : decode cX11_kin 37 = .ok (.iload_n 2, 1) := by decide +kernel
theorem dX11_kin_38 : decode cX11_kin 38 = .ok (.iload_n 3, 1) := by decide +kernel
theorem dX11_kin_39 : decode cX11_kin 39 = .ok (.invokevirtual 139, 3) := by decide +kernel
theorem dX11_kin_42 : decode cX11_kin 42 = .ok (.aload_n 0, 1) := by decide +kernel
theorem dX11_kin_43 : decode cX11_kin 43 = .ok (.getfield 10, 3) := by decide +kernel
theorem dX11_kin_46 : decode cX11_kin 46 = .ok (.iload_n 2, 1) := by decide +kernel
theorem dX11_kin_47 : decode cX11_kin 47 = .ok (.iload_n 1, 1) := by decide +kernel
theorem dX11_kin_48 : decode cX11_kin 48 = .ok (.iload_n 3, 1) := by decide +kernel
theorem dX11_kin_49 : decode cX11_kin 49 = .ok (.invokevirtual 139, 3) := by decide +kernel
theorem dX11_kin_52 : decode cX11_kin 52 = .ok (.iconst 1, 1) := by decide +kernel
theorem dX11_kin_53 : decode cX11_kin 53 = .ok (.ireturn, 1) := by decide +kernel
theorem dX11_need_0 : decode cX11_need 0 = .ok (.iload_n 1, 1) := by decide +kernel
theorem dX11_need_1 : decode cX11_need 1 = .ok (.invokestatic 96, 3) := by decide +kernel
theorem dX11_need_4 : decode cX11_need 4 = .ok (.ifCond .ne 5, 3) := by decide +kernel
theorem dX11_need_7 : decode cX11_need 7 = .ok (.iconst 0, 1) := by decide +kernel
theorem dX11_need_8 : decode cX11_need 8 = .ok (.ireturn, 1) := by decide +kernel
theorem dX11_need_9 : decode cX11_need 9 = .ok (.aload_n 0, 1) := by decide +kernel
theorem dX11_need_10 : decode cX11_need 10 = .ok (.getfield 10, 3) := by decide +kernel
theorem dX11_need_13 : decode cX11_need 13 = .ok (.dup, 1) := by decide +kernel
theorem dX11_need_14 : decode cX11_need 14 = .ok (.getfield 103, 3) := by decide +kernel
theorem dX11_need_17 : decode cX11_need 17 = .ok (.iconst 1, 1) := by decide +kernel
theorem dX11_need_18 : decode cX11_need 18 = .ok (.iadd, 1) := by decide +kernel
theorem dX11_need_19 : decode cX11_need 19 = .ok (.putfield 103, 3) := by decide +kernel
theorem dX11_need_22 : decode cX11_need 22 = .ok (.aload_n 0, 1) := by decide +kernel
theorem dX11_need_23 : decode cX11_need 23 = .ok (.getfield 10, 3) := by decide +kernel
theorem dX11_need_26 : decode cX11_need 26 = .ok (.aload_n 0, 1) := by decide +kernel
theorem dX11_need_27 : decode cX11_need 27 = .ok (.getfield 10, 3) := by decide +kernel
theorem dX11_need_30 : decode cX11_need 30 = .ok (.getfield 142, 3) := by decide +kernel
theorem dX11_need_33 : decode cX11_need 33 = .ok (.iload_n 1, 1) := by decide +kernel
theorem dX11_need_34 : decode cX11_need 34 = .ok (.iload_n 2, 1) := by decide +kernel
theorem dX11_need_35 : decode cX11_need 35 = .ok (.invokestatic 145, 3) := by decide +kernel
theorem dX11_need_38 : decode cX11_need 38 = .ok (.putfield 142, 3) := by decide +kernel
theorem dX11_need_41 : decode cX11_need 41 = .ok (.iconst 1, 1) := by decide +kernel
theorem dX11_need_42 : decode cX11_need 42 = .ok (.ireturn, 1) := by decide +kernel
theorem dX11_care_0 : decode cX11_care 0 = .ok (.iload_n 1, 1) := by decide +kernel
theorem dX11_care_1 : decode cX11_care 1 = .ok (.invokestatic 96, 3) := by decide +kernel
theorem dX11_care_4 : decode cX11_care 4 = .ok (.ifCond .ne 5, 3) := by decide +kernel
theorem dX11_care_7 : decode cX11_care 7 = .ok (.iconst 0, 1) := by decide +kernel
theorem dX11_care_8 : decode cX11_care 8 = .ok (.ireturn, 1) := by decide +kernel
theorem dX11_care_9 : decode cX11_care 9 = .ok (.aload_n 0, 1) := by decide +kernel
theorem dX11_care_10 : decode cX11_care 10 = .ok (.getfield 10, 3) := by decide +kernel
theorem dX11_care_13 : decode cX11_care 13 = .ok (.dup, 1) := by decide +kernel
theorem dX11_care_14 : decode cX11_care 14 = .ok (.getfield 103, 3) := by decide +kernel
theorem dX11_care_17 : decode cX11_care 17 = .ok (.iconst 1, 1) := by decide +kernel
theorem dX11_care_18 : decode cX11_care 18 = .ok (.iadd, 1) := by decide +kernel
theorem dX11_care_19 : decode cX11_care 19 = .ok (.putfield 103, 3) := by decide +kernel
theorem dX11_care_22 : decode cX11_care 22 = .ok (.aload_n 0, 1) := by decide +kernel
theorem dX11_care_23 : decode cX11_care 23 = .ok (.getfield 10, 3) := by decide +kernel
theorem dX11_care_26 : decode cX11_care 26 = .ok (.aload_n 0, 1) := by decide +kernel
theorem dX11_care_27 : decode cX11_care 27 = .ok (.getfield 10, 3) := by decide +kernel
theorem dX11_care_30 : decode cX11_care 30 = .ok (.getfield 149, 3) := by decide +kernel
theorem dX11_care_33 : decode cX11_care 33 = .ok (.iload_n 1, 1) := by decide +kernel
theorem dX11_care_34 : decode cX11_care 34 = .ok (.iload_n 2, 1) := by decide +kernel
theorem dX11_care_35 : decode cX11_care 35 = .ok (.invokestatic 145, 3) := by decide +kernel
theorem dX11_care_38 : decode cX11_care 38 = .ok (.putfield 149, 3) := by decide +kernel
theorem dX11_care_41 : decode cX11_care 41 = .ok (.iconst 1, 1) := by decide +kernel
theorem dX11_care_42 : decode cX11_care 42 = .ok (.ireturn, 1) := by decide +kernel
theorem dX11_days_0 : decode cX11_days 0 = .ok (.iload_n 1, 1) := by decide +kernel
theorem dX11_days_1 : decode cX11_days 1 = .ok (.ifCond .lt 25, 3) := by decide +kernel
theorem dX11_days_4 : decode cX11_days 4 = .ok (.iload_n 1, 1) := by decide +kernel
theorem dX11_days_5 : decode cX11_days 5 = .ok (.sipush 1000, 3) := by decide +kernel
theorem dX11_days_8 : decode cX11_days 8 = .ok (.if_icmp .gt 18, 3) := by decide +kernel
theorem dX11_days_11 : decode cX11_days 11 = .ok (.aload_n 0, 1) := by decide +kernel
theorem dX11_days_12 : decode cX11_days 12 = .ok (.getfield 10, 3) := by decide +kernel
theorem dX11_days_15 : decode cX11_days 15 = .ok (.getfield 152, 3) := by decide +kernel
theorem dX11_days_18 : decode cX11_days 18 = .ok (.iload_n 1, 1) := by decide +kernel
theorem dX11_days_19 : decode cX11_days 19 = .ok (.iadd, 1) := by decide +kernel
theorem dX11_days_20 : decode cX11_days 20 = .ok (.sipush 9999, 3) := by decide +kernel
theorem dX11_days_23 : decode cX11_days 23 = .ok (.if_icmp .le 5, 3) := by decide +kernel
theorem dX11_days_26 : decode cX11_days 26 = .ok (.iconst (-1), 1) := by decide +kernel
theorem dX11_days_27 : decode cX11_days 27 = .ok (.ireturn, 1) := by decide +kernel
theorem dX11_days_28 : decode cX11_days 28 = .ok (.aload_n 0, 1) := by decide +kernel
theorem dX11_days_29 : decode cX11_days 29 = .ok (.getfield 10, 3) := by decide +kernel
theorem dX11_days_32 : decode cX11_days 32 = .ok (.dup, 1) := by decide +kernel
theorem dX11_days_33 : decode cX11_days 33 = .ok (.getfield 103, 3) := by decide +kernel
theorem dX11_days_36 : decode cX11_days 36 = .ok (.iconst 1, 1) := by decide +kernel
theorem dX11_days_37 : decode cX11_days 37 = .ok (.iadd, 1) := by decide +kernel
theorem dX11_days_38 : decode cX11_days 38 = .ok (.putfield 103, 3) := by decide +kernel
theorem dX11_days_41 : decode cX11_days 41 = .ok (.aload_n 0, 1) := by decide +kernel
theorem dX11_days_42 : decode cX11_days 42 = .ok (.getfield 10, 3) := by decide +kernel
theorem dX11_days_45 : decode cX11_days 45 = .ok (.dup, 1) := by decide +kernel
theorem dX11_days_46 : decode cX11_days 46 = .ok (.getfield 152, 3) := by decide +kernel
theorem dX11_days_49 : decode cX11_days 49 = .ok (.iload_n 1, 1) := by decide +kernel
theorem dX11_days_50 : decode cX11_days 50 = .ok (.iadd, 1) := by decide +kernel
theorem dX11_days_51 : decode cX11_days 51 = .ok (.putfield 152, 3) := by decide +kernel
theorem dX11_days_54 : decode cX11_days 54 = .ok (.aload_n 0, 1) := by decide +kernel
theorem dX11_days_55 : decode cX11_days 55 = .ok (.getfield 10, 3) := by decide +kernel
theorem dX11_days_58 : decode cX11_days 58 = .ok (.getfield 152, 3) := by decide +kernel
theorem dX11_days_61 : decode cX11_days 61 = .ok (.ireturn, 1) := by decide +kernel
theorem dX11_feed_0 : decode cX11_feed 0 = .ok (.aload_n 0, 1) := by decide +kernel
theorem dX11_feed_1 : decode cX11_feed 1 = .ok (.getfield 26, 3) := by decide +kernel
theorem dX11_feed_4 : decode cX11_feed 4 = .ok (.lload_n 1, 1) := by decide +kernel
theorem dX11_feed_5 : decode cX11_feed 5 = .ok (.invokevirtual 155, 3) := by decide +kernel
theorem dX11_feed_8 : decode cX11_feed 8 = .ok (.aload_n 0, 1) := by decide +kernel
theorem dX11_feed_9 : decode cX11_feed 9 = .ok (.getfield 26, 3) := by decide +kernel
theorem dX11_feed_12 : decode cX11_feed 12 = .ok (.lload_n 3, 1) := by decide +kernel
theorem dX11_feed_13 : decode cX11_feed 13 = .ok (.invokevirtual 155, 3) := by decide +kernel
theorem dX11_feed_16 : decode cX11_feed 16 = .ok (.aload_n 0, 1) := by decide +kernel
theorem dX11_feed_17 : decode cX11_feed 17 = .ok (.getfield 26, 3) := by decide +kernel
theorem dX11_feed_20 : decode cX11_feed 20 = .ok (.lload 5, 2) := by decide +kernel
theorem dX11_feed_22 : decode cX11_feed 22 = .ok (.invokevirtual 155, 3) := by decide +kernel
theorem dX11_feed_25 : decode cX11_feed 25 = .ok (.aload_n 0, 1) := by decide +kernel
theorem dX11_feed_26 : decode cX11_feed 26 = .ok (.getfield 26, 3) := by decide +kernel
theorem dX11_feed_29 : decode cX11_feed 29 = .ok (.getfield 159, 3) := by decide +kernel
theorem dX11_feed_32 : decode cX11_feed 32 = .ok (.ireturn, 1) := by decide +kernel
theorem dX11_law_0 : decode cX11_law 0 = .ok (.aload_n 0, 1) := by decide +kernel
theorem dX11_law_1 : decode cX11_law 1 = .ok (.getfield 26, 3) := by decide +kernel
theorem dX11_law_4 : decode cX11_law 4 = .ok (.aload_n 0, 1) := by decide +kernel
theorem dX11_law_5 : decode cX11_law 5 = .ok (.getfield 90, 3) := by decide +kernel
theorem dX11_law_8 : decode cX11_law 8 = .ok (.invokevirtual 162, 3) := by decide +kernel
theorem dX11_law_11 : decode cX11_law 11 = .ok (.istore_n 1, 1) := by decide +kernel
theorem dX11_law_12 : decode cX11_law 12 = .ok (.iload_n 1, 1) := by decide +kernel
theorem dX11_law_13 : decode cX11_law 13 = .ok (.ifCond .eq 5, 3) := by decide +kernel
theorem dX11_law_16 : decode cX11_law 16 = .ok (.iload_n 1, 1) := by decide +kernel
theorem dX11_law_17 : decode cX11_law 17 = .ok (.ireturn, 1) := by decide +kernel
theorem dX11_law_18 : decode cX11_law 18 = .ok (.aload_n 0, 1) := by decide +kernel
theorem dX11_law_19 : decode cX11_law 19 = .ok (.getfield 10, 3) := by decide +kernel
theorem dX11_law_22 : decode cX11_law 22 = .ok (.dup, 1) := by decide +kernel
theorem dX11_law_23 : decode cX11_law 23 = .ok (.getfield 103, 3) := by decide +kernel
theorem dX11_law_26 : decode cX11_law 26 = .ok (.iconst 1, 1) := by decide +kernel
theorem dX11_law_27 : decode cX11_law 27 = .ok (.iadd, 1) := by decide +kernel
theorem dX11_law_28 : decode cX11_law 28 = .ok (.putfield 103, 3) := by decide +kernel
theorem dX11_law_31 : decode cX11_law 31 = .ok (.aload_n 0, 1) := by decide +kernel
theorem dX11_law_32 : decode cX11_law 32 = .ok (.getfield 86, 3) := by decide +kernel
theorem dX11_law_35 : decode cX11_law 35 = .ok (.astore_n 2, 1) := by decide +kernel
theorem dX11_law_36 : decode cX11_law 36 = .ok (.aload_n 0, 1) := by decide +kernel
theorem dX11_law_37 : decode cX11_law 37 = .ok (.aload_n 0, 1) := by decide +kernel
theorem dX11_law_38 : decode cX11_law 38 = .ok (.getfield 90, 3) := by decide +kernel
theorem dX11_law_41 : decode cX11_law 41 = .ok (.putfield 86, 3) := by decide +kernel
theorem dX11_law_44 : decode cX11_law 44 = .ok (.aload_n 0, 1) := by decide +kernel
theorem dX11_law_45 : decode cX11_law 45 = .ok (.aload_n 2, 1) := by decide +kernel
theorem dX11_law_46 : decode cX11_law 46 = .ok (.putfield 90, 3) := by decide +kernel
theorem dX11_law_49 : decode cX11_law 49 = .ok (.aload_n 0, 1) := by decide +kernel
theorem dX11_law_50 : decode cX11_law 50 = .ok (.getfield 42, 3) := by decide +kernel
theorem dX11_law_53 : decode cX11_law 53 = .ok (.aload_n 0, 1) := by decide +kernel
theorem dX11_law_54 : decode cX11_law 54 = .ok (.getfield 86, 3) := by decide +kernel
theorem dX11_law_57 : decode cX11_law 57 = .ok (.putfield 93, 3) := by decide +kernel
theorem dX11_law_60 : decode cX11_law 60 = .ok (.iconst 0, 1) := by decide +kernel
theorem dX11_law_61 : decode cX11_law 61 = .ok (.ireturn, 1) := by decide +kernel
theorem dX11_holds_0 : decode cX11_holds 0 = .ok (.aload_n 0, 1) := by decide +kernel
theorem dX11_holds_1 : decode cX11_holds 1 = .ok (.getfield 10, 3) := by decide +kernel
theorem dX11_holds_4 : decode cX11_holds 4 = .ok (.iload_n 1, 1) := by decide +kernel
theorem dX11_holds_5 : decode cX11_holds 5 = .ok (.invokevirtual 100, 3) := by decide +kernel
theorem dX11_holds_8 : decode cX11_holds 8 = .ok (.ifCond .eq 10, 3) := by decide +kernel
theorem dX11_holds_11 : decode cX11_holds 11 = .ok (.iload_n 2, 1) := by decide +kernel
theorem dX11_holds_12 : decode cX11_holds 12 = .ok (.invokestatic 96, 3) := by decide +kernel
theorem dX11_holds_15 : decode cX11_holds 15 = .ok (.ifCond .ne 5, 3) := by decide +kernel
theorem dX11_holds_18 : decode cX11_holds 18 = .ok (.iconst (-1), 1) := by decide +kernel
theorem dX11_holds_19 : decode cX11_holds 19 = .ok (.ireturn, 1) := by decide +kernel
theorem dX11_holds_20 : decode cX11_holds 20 = .ok (.aload_n 0, 1) := by decide +kernel
theorem dX11_holds_21 : decode cX11_holds 21 = .ok (.getfield 19, 3) := by decide +kernel
theorem dX11_holds_24 : decode cX11_holds 24 = .ok (.iload_n 1, 1) := by decide +kernel
theorem dX11_holds_25 : decode cX11_holds 25 = .ok (.iload_n 2, 1) := by decide +kernel
theorem dX11_holds_26 : decode cX11_holds 26 = .ok (.invokevirtual 118, 3) := by decide +kernel
theorem dX11_holds_29 : decode cX11_holds 29 = .ok (.ireturn, 1) := by decide +kernel
theorem dX11_stands_0 : decode cX11_stands 0 = .ok (.aload_n 0, 1) := by decide +kernel
theorem dX11_stands_1 : decode cX11_stands 1 = .ok (.getfield 10, 3) := by decide +kernel
theorem dX11_stands_4 : decode cX11_stands 4 = .ok (.iload_n 1, 1) := by decide +kernel
theorem dX11_stands_5 : decode cX11_stands 5 = .ok (.invokevirtual 100, 3) := by decide +kernel
theorem dX11_stands_8 : decode cX11_stands 8 = .ok (.ifCond .eq 17, 3) := by decide +kernel
theorem dX11_stands_11 : decode cX11_stands 11 = .ok (.iload_n 2, 1) := by decide +kernel
theorem dX11_stands_12 : decode cX11_stands 12 = .ok (.invokestatic 96, 3) := by decide +kernel
theorem dX11_stands_15 : decode cX11_stands 15 = .ok (.ifCond .eq 10, 3) := by decide +kernel
theorem dX11_stands_18 : decode cX11_stands 18 = .ok (.iload_n 3, 1) := by decide +kernel
theorem dX11_stands_19 : decode cX11_stands 19 = .ok (.invokestatic 96, 3) := by decide +kernel
theorem dX11_stands_22 : decode cX11_stands 22 = .ok (.ifCond .ne 5, 3) := by decide +kernel
theorem dX11_stands_25 : decode cX11_stands 25 = .ok (.iconst (-1), 1) := by decide +kernel
theorem dX11_stands_26 : decode cX11_stands 26 = .ok (.ireturn, 1) := by decide +kernel
theorem dX11_stands_27 : decode cX11_stands 27 = .ok (.iconst 0, 1) := by decide +kernel
theorem dX11_stands_28 : decode cX11_stands 28 = .ok (.istore 4, 2) := by decide +kernel
theorem dX11_stands_30 : decode cX11_stands 30 = .ok (.iconst 0, 1) := by decide +kernel
theorem dX11_stands_31 : decode cX11_stands 31 = .ok (.istore 5, 2) := by decide +kernel
theorem dX11_stands_33 : decode cX11_stands 33 = .ok (.iload 5, 2) := by decide +kernel
theorem dX11_stands_35 : decode cX11_stands 35 = .ok (.iconst 4, 1) := by decide +kernel
theorem dX11_stands_36 : decode cX11_stands 36 = .ok (.if_icmp .ge 36, 3) := by decide +kernel
theorem dX11_stands_39 : decode cX11_stands 39 = .ok (.iload 4, 2) := by decide +kernel
theorem dX11_stands_41 : decode cX11_stands 41 = .ok (.aload_n 0, 1) := by decide +kernel
theorem dX11_stands_42 : decode cX11_stands 42 = .ok (.getfield 10, 3) := by decide +kernel
theorem dX11_stands_45 : decode cX11_stands 45 = .ok (.iload 5, 2) := by decide +kernel
theorem dX11_stands_47 : decode cX11_stands 47 = .ok (.aload_n 0, 1) := by decide +kernel
theorem dX11_stands_48 : decode cX11_stands 48 = .ok (.getfield 19, 3) := by decide +kernel
theorem dX11_stands_51 : decode cX11_stands 51 = .ok (.iload_n 1, 1) := by decide +kernel
theorem dX11_stands_52 : decode cX11_stands 52 = .ok (.iload_n 2, 1) := by decide +kernel
theorem dX11_stands_53 : decode cX11_stands 53 = .ok (.invokevirtual 166, 3) := by decide +kernel
theorem dX11_stands_56 : decode cX11_stands 56 = .ok (.iload_n 3, 1) := by decide +kernel
theorem dX11_stands_57 : decode cX11_stands 57 = .ok (.ishr, 1) := by decide +kernel
theorem dX11_stands_58 : decode cX11_stands 58 = .ok (.iconst 1, 1) := by decide +kernel
theorem dX11_stands_59 : decode cX11_stands 59 = .ok (.iand, 1) := by decide +kernel
theorem dX11_stands_60 : decode cX11_stands 60 = .ok (.iload 5, 2) := by decide +kernel
theorem dX11_stands_62 : decode cX11_stands 62 = .ok (.ishl, 1) := by decide +kernel
theorem dX11_stands_63 : decode cX11_stands 63 = .ok (.ior, 1) := by decide +kernel
theorem dX11_stands_64 : decode cX11_stands 64 = .ok (.istore 4, 2) := by decide +kernel
theorem dX11_stands_66 : decode cX11_stands 66 = .ok (.iinc 5 1, 3) := by decide +kernel
theorem dX11_stands_69 : decode cX11_stands 69 = .ok (.goto (-36), 3) := by decide +kernel
theorem dX11_stands_72 : decode cX11_stands 72 = .ok (.iload 4, 2) := by decide +kernel
theorem dX11_stands_74 : decode cX11_stands 74 = .ok (.ireturn, 1) := by decide +kernel
theorem dX11_pass_0 : decode cX11_pass 0 = .ok (.aload_n 0, 1) := by decide +kernel
theorem dX11_pass_1 : decode cX11_pass 1 = .ok (.getfield 33, 3) := by decide +kernel
theorem dX11_pass_4 : decode cX11_pass 4 = .ok (.iload_n 1, 1) := by decide +kernel
theorem dX11_pass_5 : decode cX11_pass 5 = .ok (.iload_n 2, 1) := by decide +kernel
theorem dX11_pass_6 : decode cX11_pass 6 = .ok (.iload_n 3, 1) := by decide +kernel
theorem dX11_pass_7 : decode cX11_pass 7 = .ok (.iload 4, 2) := by decide +kernel
theorem dX11_pass_9 : decode cX11_pass 9 = .ok (.iload 5, 2) := by decide +kernel
theorem dX11_pass_11 : decode cX11_pass 11 = .ok (.iload 6, 2) := by decide +kernel
theorem dX11_pass_13 : decode cX11_pass 13 = .ok (.iload 7, 2) := by decide +kernel
theorem dX11_pass_15 : decode cX11_pass 15 = .ok (.invokevirtual 170, 3) := by decide +kernel
theorem dX11_pass_18 : decode cX11_pass 18 = .ok (.aload_n 0, 1) := by decide +kernel
theorem dX11_pass_19 : decode cX11_pass 19 = .ok (.getfield 33, 3) := by decide +kernel
theorem dX11_pass_22 : decode cX11_pass 22 = .ok (.aload_n 0, 1) := by decide +kernel
theorem dX11_pass_23 : decode cX11_pass 23 = .ok (.getfield 10, 3) := by decide +kernel
theorem dX11_pass_26 : decode cX11_pass 26 = .ok (.aload_n 0, 1) := by decide +kernel
theorem dX11_pass_27 : decode cX11_pass 27 = .ok (.getfield 19, 3) := by decide +kernel
theorem dX11_pass_30 : decode cX11_pass 30 = .ok (.invokevirtual 174, 3) := by decide +kernel
theorem dX11_pass_33 : decode cX11_pass 33 = .ok (.ifCond .eq 12, 3) := by decide +kernel
theorem dX11_pass_36 : decode cX11_pass 36 = .ok (.aload_n 0, 1) := by decide +kernel
theorem dX11_pass_37 : decode cX11_pass 37 = .ok (.getfield 178, 3) := by decide +kernel
theorem dX11_pass_40 : decode cX11_pass 40 = .ok (.bipush 40, 2) := by decide +kernel
theorem dX11_pass_42 : decode cX11_pass 42 = .ok (.if_icmp .lt 5, 3) := by decide +kernel
theorem dX11_pass_45 : decode cX11_pass 45 = .ok (.iconst (-1), 1) := by decide +kernel
theorem dX11_pass_46 : decode cX11_pass 46 = .ok (.ireturn, 1) := by decide +kernel
theorem dX11_pass_47 : decode cX11_pass 47 = .ok (.aload_n 0, 1) := by decide +kernel
theorem dX11_pass_48 : decode cX11_pass 48 = .ok (.getfield 10, 3) := by decide +kernel
theorem dX11_pass_51 : decode cX11_pass 51 = .ok (.dup, 1) := by decide +kernel
theorem dX11_pass_52 : decode cX11_pass 52 = .ok (.getfield 103, 3) := by decide +kernel
theorem dX11_pass_55 : decode cX11_pass 55 = .ok (.iconst 1, 1) := by decide +kernel
theorem dX11_pass_56 : decode cX11_pass 56 = .ok (.iadd, 1) := by decide +kernel
theorem dX11_pass_57 : decode cX11_pass 57 = .ok (.putfield 103, 3) := by decide +kernel
theorem dX11_pass_60 : decode cX11_pass 60 = .ok (.aload_n 0, 1) := by decide +kernel
theorem dX11_pass_61 : decode cX11_pass 61 = .ok (.getfield 73, 3) := by decide +kernel
theorem dX11_pass_64 : decode cX11_pass 64 = .ok (.aload_n 0, 1) := by decide +kernel
theorem dX11_pass_65 : decode cX11_pass 65 = .ok (.getfield 178, 3) := by decide +kernel
theorem dX11_pass_68 : decode cX11_pass 68 = .ok (.aaload, 1) := by decide +kernel
theorem dX11_pass_69 : decode cX11_pass 69 = .ok (.ifnonnull 19, 3) := by decide +kernel
theorem dX11_pass_72 : decode cX11_pass 72 = .ok (.aload_n 0, 1) := by decide +kernel
theorem dX11_pass_73 : decode cX11_pass 73 = .ok (.getfield 73, 3) := by decide +kernel
theorem dX11_pass_76 : decode cX11_pass 76 = .ok (.aload_n 0, 1) := by decide +kernel
theorem dX11_pass_77 : decode cX11_pass 77 = .ok (.getfield 178, 3) := by decide +kernel
theorem dX11_pass_80 : decode cX11_pass 80 = .ok (.new 71, 3) := by decide +kernel
theorem dX11_pass_83 : decode cX11_pass 83 = .ok (.dup, 1) := by decide +kernel
theorem dX11_pass_84 : decode cX11_pass 84 = .ok (.invokespecial 181, 3) := by decide +kernel
theorem dX11_pass_87 : decode cX11_pass 87 = .ok (.aastore, 1) := by decide +kernel
theorem dX11_pass_88 : decode cX11_pass 88 = .ok (.aload_n 0, 1) := by decide +kernel
theorem dX11_pass_89 : decode cX11_pass 89 = .ok (.getfield 42, 3) := by decide +kernel
theorem dX11_pass_92 : decode cX11_pass 92 = .ok (.aload_n 0, 1) := by decide +kernel
theorem dX11_pass_93 : decode cX11_pass 93 = .ok (.getfield 19, 3) := by decide +kernel
theorem dX11_pass_96 : decode cX11_pass 96 = .ok (.aload_n 0, 1) := by decide +kernel
theorem dX11_pass_97 : decode cX11_pass 97 = .ok (.getfield 33, 3) := by decide +kernel
theorem dX11_pass_100 : decode cX11_pass 100 = .ok (.invokevirtual 182, 3) := by decide +kernel
theorem dX11_pass_103 : decode cX11_pass 103 = .ok (.aload_n 0, 1) := by decide +kernel
theorem dX11_pass_104 : decode cX11_pass 104 = .ok (.getfield 73, 3) := by decide +kernel
theorem dX11_pass_107 : decode cX11_pass 107 = .ok (.aload_n 0, 1) := by decide +kernel
theorem dX11_pass_108 : decode cX11_pass 108 = .ok (.getfield 178, 3) := by decide +kernel
theorem dX11_pass_111 : decode cX11_pass 111 = .ok (.aaload, 1) := by decide +kernel
theorem dX11_pass_112 : decode cX11_pass 112 = .ok (.aload_n 0, 1) := by decide +kernel
theorem dX11_pass_113 : decode cX11_pass 113 = .ok (.getfield 42, 3) := by decide +kernel
theorem dX11_pass_116 : decode cX11_pass 116 = .ok (.aload_n 0, 1) := by decide +kernel
theorem dX11_pass_117 : decode cX11_pass 117 = .ok (.getfield 33, 3) := by decide +kernel
theorem dX11_pass_120 : decode cX11_pass 120 = .ok (.aload_n 0, 1) := by decide +kernel
theorem dX11_pass_121 : decode cX11_pass 121 = .ok (.getfield 10, 3) := by decide +kernel
theorem dX11_pass_124 : decode cX11_pass 124 = .ok (.getfield 152, 3) := by decide +kernel
theorem dX11_pass_127 : decode cX11_pass 127 = .ok (.invokevirtual 186, 3) := by decide +kernel
theorem dX11_pass_130 : decode cX11_pass 130 = .ok (.aload_n 0, 1) := by decide +kernel
theorem dX11_pass_131 : decode cX11_pass 131 = .ok (.getfield 19, 3) := by decide +kernel
theorem dX11_pass_134 : decode cX11_pass 134 = .ok (.iload_n 1, 1) := by decide +kernel
theorem dX11_pass_135 : decode cX11_pass 135 = .ok (.iload_n 2, 1) := by decide +kernel
theorem dX11_pass_136 : decode cX11_pass 136 = .ok (.iload_n 3, 1) := by decide +kernel
theorem dX11_pass_137 : decode cX11_pass 137 = .ok (.iload 4, 2) := by decide +kernel
theorem dX11_pass_139 : decode cX11_pass 139 = .ok (.invokevirtual 122, 3) := by decide +kernel
theorem dX11_pass_142 : decode cX11_pass 142 = .ok (.aload_n 0, 1) := by decide +kernel
theorem dX11_pass_143 : decode cX11_pass 143 = .ok (.dup, 1) := by decide +kernel
theorem dX11_pass_144 : decode cX11_pass 144 = .ok (.getfield 178, 3) := by decide +kernel
theorem dX11_pass_147 : decode cX11_pass 147 = .ok (.iconst 1, 1) := by decide +kernel
theorem dX11_pass_148 : decode cX11_pass 148 = .ok (.iadd, 1) := by decide +kernel
theorem dX11_pass_149 : decode cX11_pass 149 = .ok (.putfield 178, 3) := by decide +kernel
theorem dX11_pass_152 : decode cX11_pass 152 = .ok (.aload_n 0, 1) := by decide +kernel
theorem dX11_pass_153 : decode cX11_pass 153 = .ok (.getfield 178, 3) := by decide +kernel
theorem dX11_pass_156 : decode cX11_pass 156 = .ok (.iconst 1, 1) := by decide +kernel
theorem dX11_pass_157 : decode cX11_pass 157 = .ok (.isub, 1) := by decide +kernel
theorem dX11_pass_158 : decode cX11_pass 158 = .ok (.ireturn, 1) := by decide +kernel
theorem dX11_would_0 : decode cX11_would 0 = .ok (.aload_n 0, 1) := by decide +kernel
theorem dX11_would_1 : decode cX11_would 1 = .ok (.getfield 33, 3) := by decide +kernel
theorem dX11_would_4 : decode cX11_would 4 = .ok (.iload_n 1, 1) := by decide +kernel
theorem dX11_would_5 : decode cX11_would 5 = .ok (.iload_n 2, 1) := by decide +kernel
theorem dX11_would_6 : decode cX11_would 6 = .ok (.iload_n 3, 1) := by decide +kernel
theorem dX11_would_7 : decode cX11_would 7 = .ok (.iload 4, 2) := by decide +kernel
theorem dX11_would_9 : decode cX11_would 9 = .ok (.iload 5, 2) := by decide +kernel
theorem dX11_would_11 : decode cX11_would 11 = .ok (.iload 6, 2) := by decide +kernel
theorem dX11_would_13 : decode cX11_would 13 = .ok (.iload 7, 2) := by decide +kernel
theorem dX11_would_15 : decode cX11_would 15 = .ok (.invokevirtual 170, 3) := by decide +kernel
theorem dX11_would_18 : decode cX11_would 18 = .ok (.aload_n 0, 1) := by decide +kernel
theorem dX11_would_19 : decode cX11_would 19 = .ok (.getfield 33, 3) := by decide +kernel
theorem dX11_would_22 : decode cX11_would 22 = .ok (.aload_n 0, 1) := by decide +kernel
theorem dX11_would_23 : decode cX11_would 23 = .ok (.getfield 10, 3) := by decide +kernel
theorem dX11_would_26 : decode cX11_would 26 = .ok (.aload_n 0, 1) := by decide +kernel
theorem dX11_would_27 : decode cX11_would 27 = .ok (.getfield 19, 3) := by decide +kernel
theorem dX11_would_30 : decode cX11_would 30 = .ok (.invokevirtual 174, 3) := by decide +kernel
theorem dX11_would_33 : decode cX11_would 33 = .ok (.ifCond .ne 5, 3) := by decide +kernel
theorem dX11_would_36 : decode cX11_would 36 = .ok (.iconst (-1), 1) := by decide +kernel
theorem dX11_would_37 : decode cX11_would 37 = .ok (.ireturn, 1) := by decide +kernel
theorem dX11_would_38 : decode cX11_would 38 = .ok (.aload_n 0, 1) := by decide +kernel
theorem dX11_would_39 : decode cX11_would 39 = .ok (.getfield 42, 3) := by decide +kernel
theorem dX11_would_42 : decode cX11_would 42 = .ok (.aload_n 0, 1) := by decide +kernel
theorem dX11_would_43 : decode cX11_would 43 = .ok (.getfield 19, 3) := by decide +kernel
theorem dX11_would_46 : decode cX11_would 46 = .ok (.aload_n 0, 1) := by decide +kernel
theorem dX11_would_47 : decode cX11_would 47 = .ok (.getfield 33, 3) := by decide +kernel
theorem dX11_would_50 : decode cX11_would 50 = .ok (.invokevirtual 182, 3) := by decide +kernel
theorem dX11_would_53 : decode cX11_would 53 = .ok (.aload_n 0, 1) := by decide +kernel
theorem dX11_would_54 : decode cX11_would 54 = .ok (.getfield 42, 3) := by decide +kernel
theorem dX11_would_57 : decode cX11_would 57 = .ok (.getfield 190, 3) := by decide +kernel
theorem dX11_would_60 : decode cX11_would 60 = .ok (.ireturn, 1) := by decide +kernel
theorem dX11_look_0 : decode cX11_look 0 = .ok (.aload_n 0, 1) := by decide +kernel
theorem dX11_look_1 : decode cX11_look 1 = .ok (.iload_n 1, 1) := by decide +kernel
theorem dX11_look_2 : decode cX11_look 2 = .ok (.invokevirtual 193, 3) := by decide +kernel
theorem dX11_look_5 : decode cX11_look 5 = .ok (.astore_n 3, 1) := by decide +kernel
theorem dX11_look_6 : decode cX11_look 6 = .ok (.aload_n 3, 1) := by decide +kernel
theorem dX11_look_7 : decode cX11_look 7 = .ok (.ifnull 13, 3) := by decide +kernel
theorem dX11_look_10 : decode cX11_look 10 = .ok (.iload_n 2, 1) := by decide +kernel
theorem dX11_look_11 : decode cX11_look 11 = .ok (.ifCond .lt 9, 3) := by decide +kernel
theorem dX11_look_14 : decode cX11_look 14 = .ok (.iload_n 2, 1) := by decide +kernel
theorem dX11_look_15 : decode cX11_look 15 = .ok (.bipush 11, 2) := by decide +kernel
theorem dX11_look_17 : decode cX11_look 17 = .ok (.if_icmp .le 11, 3) := by decide +kernel
theorem dX11_look_20 : decode cX11_look 20 = .ok (.new 197, 3) := by decide +kernel
theorem dX11_look_23 : decode cX11_look 23 = .ok (.dup, 1) := by decide +kernel
theorem dX11_look_24 : decode cX11_look 24 = .ok (.invokespecial 199, 3) := by decide +kernel
theorem dX11_look_27 : decode cX11_look 27 = .ok (.athrow, 1) := by decide +kernel
theorem dX11_look_28 : decode cX11_look 28 = .ok (.aload_n 3, 1) := by decide +kernel
theorem dX11_look_29 : decode cX11_look 29 = .ok (.iload_n 2, 1) := by decide +kernel
theorem dX11_look_30 : decode cX11_look 30 = .ok (.invokevirtual 200, 3) := by decide +kernel
theorem dX11_look_33 : decode cX11_look 33 = .ok (.ireturn, 1) := by decide +kernel
theorem dX11_may_0 : decode cX11_may 0 = .ok (.aload_n 0, 1) := by decide +kernel
theorem dX11_may_1 : decode cX11_may 1 = .ok (.iload_n 1, 1) := by decide +kernel
theorem dX11_may_2 : decode cX11_may 2 = .ok (.invokevirtual 193, 3) := by decide +kernel
theorem dX11_may_5 : decode cX11_may 5 = .ok (.astore_n 3, 1) := by decide +kernel
theorem dX11_may_6 : decode cX11_may 6 = .ok (.aload_n 3, 1) := by decide +kernel
theorem dX11_may_7 : decode cX11_may 7 = .ok (.ifnull 10, 3) := by decide +kernel
theorem dX11_may_10 : decode cX11_may 10 = .ok (.iload_n 2, 1) := by decide +kernel
theorem dX11_may_11 : decode cX11_may 11 = .ok (.invokestatic 96, 3) := by decide +kernel
theorem dX11_may_14 : decode cX11_may 14 = .ok (.ifCond .ne 5, 3) := by decide +kernel
theorem dX11_may_17 : decode cX11_may 17 = .ok (.iconst (-1), 1) := by decide +kernel
theorem dX11_may_18 : decode cX11_may 18 = .ok (.ireturn, 1) := by decide +kernel
theorem dX11_may_19 : decode cX11_may 19 = .ok (.aload_n 3, 1) := by decide +kernel
theorem dX11_may_20 : decode cX11_may 20 = .ok (.getfield 204, 3) := by decide +kernel
theorem dX11_may_23 : decode cX11_may 23 = .ok (.iload_n 2, 1) := by decide +kernel
theorem dX11_may_24 : decode cX11_may 24 = .ok (.iaload, 1) := by decide +kernel
theorem dX11_may_25 : decode cX11_may 25 = .ok (.ireturn, 1) := by decide +kernel
theorem dX11_order_0 : decode cX11_order 0 = .ok (.aload_n 0, 1) := by decide +kernel
theorem dX11_order_1 : decode cX11_order 1 = .ok (.iload_n 1, 1) := by decide +kernel
theorem dX11_order_2 : decode cX11_order 2 = .ok (.invokevirtual 193, 3) := by decide +kernel
theorem dX11_order_5 : decode cX11_order 5 = .ok (.astore_n 3, 1) := by decide +kernel
theorem dX11_order_6 : decode cX11_order 6 = .ok (.aload_n 3, 1) := by decide +kernel
