theorem dX11_order_7 : decode cX11_order 7 = .ok (.ifnull 7, 3) := by decide +kernel
theorem dX11_order_10 : decode cX11_order 10 = .ok (.iload_n 2, 1) := by decide +kernel
theorem dX11_order_11 : decode cX11_order 11 = .ok (.ifCond .ge 5, 3) := by decide +kernel
theorem dX11_order_14 : decode cX11_order 14 = .ok (.iconst (-1), 1) := by decide +kernel
theorem dX11_order_15 : decode cX11_order 15 = .ok (.ireturn, 1) := by decide +kernel
theorem dX11_order_16 : decode cX11_order 16 = .ok (.aload_n 3, 1) := by decide +kernel
theorem dX11_order_17 : decode cX11_order 17 = .ok (.iload_n 2, 1) := by decide +kernel
theorem dX11_order_18 : decode cX11_order 18 = .ok (.invokevirtual 207, 3) := by decide +kernel
theorem dX11_order_21 : decode cX11_order 21 = .ok (.ireturn, 1) := by decide +kernel
theorem dX11_hears_0 : decode cX11_hears 0 = .ok (.aload_n 0, 1) := by decide +kernel
theorem dX11_hears_1 : decode cX11_hears 1 = .ok (.iload_n 1, 1) := by decide +kernel
theorem dX11_hears_2 : decode cX11_hears 2 = .ok (.invokevirtual 193, 3) := by decide +kernel
theorem dX11_hears_5 : decode cX11_hears 5 = .ok (.astore 4, 2) := by decide +kernel
theorem dX11_hears_7 : decode cX11_hears 7 = .ok (.aload 4, 2) := by decide +kernel
theorem dX11_hears_9 : decode cX11_hears 9 = .ok (.ifnull 30, 3) := by decide +kernel
theorem dX11_hears_12 : decode cX11_hears 12 = .ok (.iload_n 2, 1) := by decide +kernel
theorem dX11_hears_13 : decode cX11_hears 13 = .ok (.invokestatic 96, 3) := by decide +kernel
theorem dX11_hears_16 : decode cX11_hears 16 = .ok (.ifCond .eq 23, 3) := by decide +kernel
theorem dX11_hears_19 : decode cX11_hears 19 = .ok (.iload_n 3, 1) := by decide +kernel
theorem dX11_hears_20 : decode cX11_hears 20 = .ok (.aload 4, 2) := by decide +kernel
theorem dX11_hears_22 : decode cX11_hears 22 = .ok (.getfield 210, 3) := by decide +kernel
theorem dX11_hears_25 : decode cX11_hears 25 = .ok (.if_icmp .lt 14, 3) := by decide +kernel
theorem dX11_hears_28 : decode cX11_hears 28 = .ok (.iload_n 3, 1) := by decide +kernel
theorem dX11_hears_29 : decode cX11_hears 29 = .ok (.aload_n 0, 1) := by decide +kernel
theorem dX11_hears_30 : decode cX11_hears 30 = .ok (.getfield 10, 3) := by decide +kernel
theorem dX11_hears_33 : decode cX11_hears 33 = .ok (.getfield 152, 3) := by decide +kernel
theorem dX11_hears_36 : decode cX11_hears 36 = .ok (.if_icmp .le 5, 3) := by decide +kernel
theorem dX11_hears_39 : decode cX11_hears 39 = .ok (.iconst 0, 1) := by decide +kernel
theorem dX11_hears_40 : decode cX11_hears 40 = .ok (.ireturn, 1) := by decide +kernel
theorem dX11_hears_41 : decode cX11_hears 41 = .ok (.aload 4, 2) := by decide +kernel
theorem dX11_hears_43 : decode cX11_hears 43 = .ok (.getfield 213, 3) := by decide +kernel
theorem dX11_hears_46 : decode cX11_hears 46 = .ok (.iload_n 2, 1) := by decide +kernel
theorem dX11_hears_47 : decode cX11_hears 47 = .ok (.iaload, 1) := by decide +kernel
theorem dX11_hears_48 : decode cX11_hears 48 = .ok (.iconst (-1), 1) := by decide +kernel
theorem dX11_hears_49 : decode cX11_hears 49 = .ok (.if_icmp .eq 5, 3) := by decide +kernel
theorem dX11_hears_52 : decode cX11_hears 52 = .ok (.iconst 0, 1) := by decide +kernel
theorem dX11_hears_53 : decode cX11_hears 53 = .ok (.ireturn, 1) := by decide +kernel
theorem dX11_hears_54 : decode cX11_hears 54 = .ok (.aload 4, 2) := by decide +kernel
theorem dX11_hears_56 : decode cX11_hears 56 = .ok (.getfield 213, 3) := by decide +kernel
theorem dX11_hears_59 : decode cX11_hears 59 = .ok (.iload_n 2, 1) := by decide +kernel
theorem dX11_hears_60 : decode cX11_hears 60 = .ok (.iload_n 3, 1) := by decide +kernel
theorem dX11_hears_61 : decode cX11_hears 61 = .ok (.iastore, 1) := by decide +kernel
theorem dX11_hears_62 : decode cX11_hears 62 = .ok (.iconst 1, 1) := by decide +kernel
theorem dX11_hears_63 : decode cX11_hears 63 = .ok (.ireturn, 1) := by decide +kernel
theorem dX11_till_0 : decode cX11_till 0 = .ok (.aload_n 0, 1) := by decide +kernel
theorem dX11_till_1 : decode cX11_till 1 = .ok (.iload_n 1, 1) := by decide +kernel
theorem dX11_till_2 : decode cX11_till 2 = .ok (.invokevirtual 193, 3) := by decide +kernel
theorem dX11_till_5 : decode cX11_till 5 = .ok (.astore_n 3, 1) := by decide +kernel
theorem dX11_till_6 : decode cX11_till 6 = .ok (.aload_n 3, 1) := by decide +kernel
theorem dX11_till_7 : decode cX11_till 7 = .ok (.ifnull 30, 3) := by decide +kernel
theorem dX11_till_10 : decode cX11_till 10 = .ok (.iload_n 2, 1) := by decide +kernel
theorem dX11_till_11 : decode cX11_till 11 = .ok (.invokestatic 96, 3) := by decide +kernel
theorem dX11_till_14 : decode cX11_till 14 = .ok (.ifCond .eq 23, 3) := by decide +kernel
theorem dX11_till_17 : decode cX11_till 17 = .ok (.aload_n 3, 1) := by decide +kernel
theorem dX11_till_18 : decode cX11_till 18 = .ok (.getfield 204, 3) := by decide +kernel
theorem dX11_till_21 : decode cX11_till 21 = .ok (.iload_n 2, 1) := by decide +kernel
theorem dX11_till_22 : decode cX11_till 22 = .ok (.iaload, 1) := by decide +kernel
theorem dX11_till_23 : decode cX11_till 23 = .ok (.iconst (-1), 1) := by decide +kernel
theorem dX11_till_24 : decode cX11_till 24 = .ok (.if_icmp .eq 13, 3) := by decide +kernel
theorem dX11_till_27 : decode cX11_till 27 = .ok (.aload_n 3, 1) := by decide +kernel
theorem dX11_till_28 : decode cX11_till 28 = .ok (.getfield 213, 3) := by decide +kernel
theorem dX11_till_31 : decode cX11_till 31 = .ok (.iload_n 2, 1) := by decide +kernel
theorem dX11_till_32 : decode cX11_till 32 = .ok (.iaload, 1) := by decide +kernel
theorem dX11_till_33 : decode cX11_till 33 = .ok (.iconst (-1), 1) := by decide +kernel
theorem dX11_till_34 : decode cX11_till 34 = .ok (.if_icmp .ne 5, 3) := by decide +kernel
theorem dX11_till_37 : decode cX11_till 37 = .ok (.iconst (-1), 1) := by decide +kernel
theorem dX11_till_38 : decode cX11_till 38 = .ok (.ireturn, 1) := by decide +kernel
theorem dX11_till_39 : decode cX11_till 39 = .ok (.aload_n 3, 1) := by decide +kernel
theorem dX11_till_40 : decode cX11_till 40 = .ok (.getfield 213, 3) := by decide +kernel
theorem dX11_till_43 : decode cX11_till 43 = .ok (.iload_n 2, 1) := by decide +kernel
theorem dX11_till_44 : decode cX11_till 44 = .ok (.iaload, 1) := by decide +kernel
theorem dX11_till_45 : decode cX11_till 45 = .ok (.aload_n 3, 1) := by decide +kernel
theorem dX11_till_46 : decode cX11_till 46 = .ok (.getfield 216, 3) := by decide +kernel
theorem dX11_till_49 : decode cX11_till 49 = .ok (.iload_n 2, 1) := by decide +kernel
theorem dX11_till_50 : decode cX11_till 50 = .ok (.iaload, 1) := by decide +kernel
theorem dX11_till_51 : decode cX11_till 51 = .ok (.iadd, 1) := by decide +kernel
theorem dX11_till_52 : decode cX11_till 52 = .ok (.ireturn, 1) := by decide +kernel
theorem dX11_waive_0 : decode cX11_waive 0 = .ok (.aload_n 0, 1) := by decide +kernel
theorem dX11_waive_1 : decode cX11_waive 1 = .ok (.iload_n 1, 1) := by decide +kernel
theorem dX11_waive_2 : decode cX11_waive 2 = .ok (.invokevirtual 193, 3) := by decide +kernel
theorem dX11_waive_5 : decode cX11_waive 5 = .ok (.astore_n 3, 1) := by decide +kernel
theorem dX11_waive_6 : decode cX11_waive 6 = .ok (.aload_n 3, 1) := by decide +kernel
theorem dX11_waive_7 : decode cX11_waive 7 = .ok (.ifnull 28, 3) := by decide +kernel
theorem dX11_waive_10 : decode cX11_waive 10 = .ok (.iload_n 2, 1) := by decide +kernel
theorem dX11_waive_11 : decode cX11_waive 11 = .ok (.invokestatic 96, 3) := by decide +kernel
theorem dX11_waive_14 : decode cX11_waive 14 = .ok (.ifCond .eq 21, 3) := by decide +kernel
theorem dX11_waive_17 : decode cX11_waive 17 = .ok (.aload_n 3, 1) := by decide +kernel
theorem dX11_waive_18 : decode cX11_waive 18 = .ok (.getfield 204, 3) := by decide +kernel
theorem dX11_waive_21 : decode cX11_waive 21 = .ok (.iload_n 2, 1) := by decide +kernel
theorem dX11_waive_22 : decode cX11_waive 22 = .ok (.iaload, 1) := by decide +kernel
theorem dX11_waive_23 : decode cX11_waive 23 = .ok (.iconst (-1), 1) := by decide +kernel
theorem dX11_waive_24 : decode cX11_waive 24 = .ok (.if_icmp .eq 11, 3) := by decide +kernel
theorem dX11_waive_27 : decode cX11_waive 27 = .ok (.aload_n 3, 1) := by decide +kernel
theorem dX11_waive_28 : decode cX11_waive 28 = .ok (.iload_n 2, 1) := by decide +kernel
theorem dX11_waive_29 : decode cX11_waive 29 = .ok (.invokevirtual 219, 3) := by decide +kernel
theorem dX11_waive_32 : decode cX11_waive 32 = .ok (.ifCond .eq 5, 3) := by decide +kernel
theorem dX11_waive_35 : decode cX11_waive 35 = .ok (.iconst 0, 1) := by decide +kernel
theorem dX11_waive_36 : decode cX11_waive 36 = .ok (.ireturn, 1) := by decide +kernel
theorem dX11_waive_37 : decode cX11_waive 37 = .ok (.aload_n 3, 1) := by decide +kernel
theorem dX11_waive_38 : decode cX11_waive 38 = .ok (.getfield 213, 3) := by decide +kernel
theorem dX11_waive_41 : decode cX11_waive 41 = .ok (.bipush 16, 2) := by decide +kernel
theorem dX11_waive_43 : decode cX11_waive 43 = .ok (.dup2, 1) := by decide +kernel
theorem dX11_waive_44 : decode cX11_waive 44 = .ok (.iaload, 1) := by decide +kernel
theorem dX11_waive_45 : decode cX11_waive 45 = .ok (.iconst 1, 1) := by decide +kernel
theorem dX11_waive_46 : decode cX11_waive 46 = .ok (.iload_n 2, 1) := by decide +kernel
theorem dX11_waive_47 : decode cX11_waive 47 = .ok (.ishl, 1) := by decide +kernel
theorem dX11_waive_48 : decode cX11_waive 48 = .ok (.ior, 1) := by decide +kernel
theorem dX11_waive_49 : decode cX11_waive 49 = .ok (.iastore, 1) := by decide +kernel
theorem dX11_waive_50 : decode cX11_waive 50 = .ok (.iconst 1, 1) := by decide +kernel
theorem dX11_waive_51 : decode cX11_waive 51 = .ok (.ireturn, 1) := by decide +kernel
theorem dX11_truly_0 : decode cX11_truly 0 = .ok (.aload_n 0, 1) := by decide +kernel
theorem dX11_truly_1 : decode cX11_truly 1 = .ok (.iload_n 1, 1) := by decide +kernel
theorem dX11_truly_2 : decode cX11_truly 2 = .ok (.invokevirtual 193, 3) := by decide +kernel
theorem dX11_truly_5 : decode cX11_truly 5 = .ok (.astore_n 3, 1) := by decide +kernel
theorem dX11_truly_6 : decode cX11_truly 6 = .ok (.aload_n 3, 1) := by decide +kernel
theorem dX11_truly_7 : decode cX11_truly 7 = .ok (.ifnull 28, 3) := by decide +kernel
theorem dX11_truly_10 : decode cX11_truly 10 = .ok (.iload_n 2, 1) := by decide +kernel
theorem dX11_truly_11 : decode cX11_truly 11 = .ok (.invokestatic 222, 3) := by decide +kernel
theorem dX11_truly_14 : decode cX11_truly 14 = .ok (.ifCond .eq 21, 3) := by decide +kernel
theorem dX11_truly_17 : decode cX11_truly 17 = .ok (.aload_n 3, 1) := by decide +kernel
theorem dX11_truly_18 : decode cX11_truly 18 = .ok (.getfield 225, 3) := by decide +kernel
theorem dX11_truly_21 : decode cX11_truly 21 = .ok (.getfield 228, 3) := by decide +kernel
theorem dX11_truly_24 : decode cX11_truly 24 = .ok (.iconst 1, 1) := by decide +kernel
theorem dX11_truly_25 : decode cX11_truly 25 = .ok (.if_icmp .eq 10, 3) := by decide +kernel
theorem dX11_truly_28 : decode cX11_truly 28 = .ok (.aload_n 3, 1) := by decide +kernel
theorem dX11_truly_29 : decode cX11_truly 29 = .ok (.invokevirtual 231, 3) := by decide +kernel
theorem dX11_truly_32 : decode cX11_truly 32 = .ok (.ifCond .eq 5, 3) := by decide +kernel
theorem dX11_truly_35 : decode cX11_truly 35 = .ok (.iconst 0, 1) := by decide +kernel
theorem dX11_truly_36 : decode cX11_truly 36 = .ok (.ireturn, 1) := by decide +kernel
theorem dX11_truly_37 : decode cX11_truly 37 = .ok (.aload_n 3, 1) := by decide +kernel
theorem dX11_truly_38 : decode cX11_truly 38 = .ok (.getfield 213, 3) := by decide +kernel
theorem dX11_truly_41 : decode cX11_truly 41 = .ok (.bipush 18, 2) := by decide +kernel
theorem dX11_truly_43 : decode cX11_truly 43 = .ok (.iload_n 2, 1) := by decide +kernel
theorem dX11_truly_44 : decode cX11_truly 44 = .ok (.iastore, 1) := by decide +kernel
theorem dX11_truly_45 : decode cX11_truly 45 = .ok (.iconst 1, 1) := by decide +kernel
theorem dX11_truly_46 : decode cX11_truly 46 = .ok (.ireturn, 1) := by decide +kernel
theorem dX11_claim_0 : decode cX11_claim 0 = .ok (.aload_n 0, 1) := by decide +kernel
theorem dX11_claim_1 : decode cX11_claim 1 = .ok (.iload_n 1, 1) := by decide +kernel
theorem dX11_claim_2 : decode cX11_claim 2 = .ok (.invokevirtual 193, 3) := by decide +kernel
theorem dX11_claim_5 : decode cX11_claim 5 = .ok (.astore 4, 2) := by decide +kernel
theorem dX11_claim_7 : decode cX11_claim 7 = .ok (.aload 4, 2) := by decide +kernel
theorem dX11_claim_9 : decode cX11_claim 9 = .ok (.ifnull 14, 3) := by decide +kernel
theorem dX11_claim_12 : decode cX11_claim 12 = .ok (.iload_n 2, 1) := by decide +kernel
theorem dX11_claim_13 : decode cX11_claim 13 = .ok (.invokestatic 96, 3) := by decide +kernel
theorem dX11_claim_16 : decode cX11_claim 16 = .ok (.ifCond .eq 7, 3) := by decide +kernel
theorem dX11_claim_19 : decode cX11_claim 19 = .ok (.iload_n 3, 1) := by decide +kernel
theorem dX11_claim_20 : decode cX11_claim 20 = .ok (.ifCond .ge 5, 3) := by decide +kernel
theorem dX11_claim_23 : decode cX11_claim 23 = .ok (.iconst (-1), 1) := by decide +kernel
theorem dX11_claim_24 : decode cX11_claim 24 = .ok (.ireturn, 1) := by decide +kernel
theorem dX11_claim_25 : decode cX11_claim 25 = .ok (.aload 4, 2) := by decide +kernel
theorem dX11_claim_27 : decode cX11_claim 27 = .ok (.iload_n 2, 1) := by decide +kernel
theorem dX11_claim_28 : decode cX11_claim 28 = .ok (.iload_n 3, 1) := by decide +kernel
theorem dX11_claim_29 : decode cX11_claim 29 = .ok (.aload_n 0, 1) := by decide +kernel
theorem dX11_claim_30 : decode cX11_claim 30 = .ok (.getfield 10, 3) := by decide +kernel
theorem dX11_claim_33 : decode cX11_claim 33 = .ok (.getfield 152, 3) := by decide +kernel
theorem dX11_claim_36 : decode cX11_claim 36 = .ok (.aload_n 0, 1) := by decide +kernel
theorem dX11_claim_37 : decode cX11_claim 37 = .ok (.getfield 19, 3) := by decide +kernel
theorem dX11_claim_40 : decode cX11_claim 40 = .ok (.invokevirtual 235, 3) := by decide +kernel
theorem dX11_claim_43 : decode cX11_claim 43 = .ok (.istore 5, 2) := by decide +kernel
theorem dX11_claim_45 : decode cX11_claim 45 = .ok (.iload 5, 2) := by decide +kernel
theorem dX11_claim_47 : decode cX11_claim 47 = .ok (.ifCond .ne 57, 3) := by decide +kernel
theorem dX11_claim_50 : decode cX11_claim 50 = .ok (.aload_n 0, 1) := by decide +kernel
theorem dX11_claim_51 : decode cX11_claim 51 = .ok (.getfield 10, 3) := by decide +kernel
theorem dX11_claim_54 : decode cX11_claim 54 = .ok (.dup, 1) := by decide +kernel
theorem dX11_claim_55 : decode cX11_claim 55 = .ok (.getfield 103, 3) := by decide +kernel
theorem dX11_claim_58 : decode cX11_claim 58 = .ok (.iconst 1, 1) := by decide +kernel
theorem dX11_claim_59 : decode cX11_claim 59 = .ok (.iadd, 1) := by decide +kernel
theorem dX11_claim_60 : decode cX11_claim 60 = .ok (.putfield 103, 3) := by decide +kernel
theorem dX11_claim_63 : decode cX11_claim 63 = .ok (.aload_n 0, 1) := by decide +kernel
theorem dX11_claim_64 : decode cX11_claim 64 = .ok (.getfield 19, 3) := by decide +kernel
theorem dX11_claim_67 : decode cX11_claim 67 = .ok (.aload 4, 2) := by decide +kernel
theorem dX11_claim_69 : decode cX11_claim 69 = .ok (.getfield 225, 3) := by decide +kernel
theorem dX11_claim_72 : decode cX11_claim 72 = .ok (.getfield 239, 3) := by decide +kernel
theorem dX11_claim_75 : decode cX11_claim 75 = .ok (.aload 4, 2) := by decide +kernel
theorem dX11_claim_77 : decode cX11_claim 77 = .ok (.getfield 225, 3) := by decide +kernel
theorem dX11_claim_80 : decode cX11_claim 80 = .ok (.getfield 242, 3) := by decide +kernel
theorem dX11_claim_83 : decode cX11_claim 83 = .ok (.iload_n 2, 1) := by decide +kernel
theorem dX11_claim_84 : decode cX11_claim 84 = .ok (.aload 4, 2) := by decide +kernel
theorem dX11_claim_86 : decode cX11_claim 86 = .ok (.getfield 225, 3) := by decide +kernel
theorem dX11_claim_89 : decode cX11_claim 89 = .ok (.getfield 245, 3) := by decide +kernel
theorem dX11_claim_92 : decode cX11_claim 92 = .ok (.invokevirtual 122, 3) := by decide +kernel
theorem dX11_claim_95 : decode cX11_claim 95 = .ok (.aload 4, 2) := by decide +kernel
theorem dX11_claim_97 : decode cX11_claim 97 = .ok (.getfield 213, 3) := by decide +kernel
theorem dX11_claim_100 : decode cX11_claim 100 = .ok (.bipush 17, 2) := by decide +kernel
theorem dX11_claim_102 : decode cX11_claim 102 = .ok (.iload_n 2, 1) := by decide +kernel
theorem dX11_claim_103 : decode cX11_claim 103 = .ok (.iastore, 1) := by decide +kernel
theorem dX11_claim_104 : decode cX11_claim 104 = .ok (.iload 5, 2) := by decide +kernel
theorem dX11_claim_106 : decode cX11_claim 106 = .ok (.ireturn, 1) := by decide +kernel
theorem dX11_parted_0 : decode cX11_parted 0 = .ok (.aload_n 0, 1) := by decide +kernel
theorem dX11_parted_1 : decode cX11_parted 1 = .ok (.iload_n 1, 1) := by decide +kernel
theorem dX11_parted_2 : decode cX11_parted 2 = .ok (.invokevirtual 193, 3) := by decide +kernel
theorem dX11_parted_5 : decode cX11_parted 5 = .ok (.astore_n 3, 1) := by decide +kernel
theorem dX11_parted_6 : decode cX11_parted 6 = .ok (.aload_n 3, 1) := by decide +kernel
theorem dX11_parted_7 : decode cX11_parted 7 = .ok (.ifnull 20, 3) := by decide +kernel
theorem dX11_parted_10 : decode cX11_parted 10 = .ok (.iload_n 2, 1) := by decide +kernel
theorem dX11_parted_11 : decode cX11_parted 11 = .ok (.invokestatic 96, 3) := by decide +kernel
theorem dX11_parted_14 : decode cX11_parted 14 = .ok (.ifCond .eq 13, 3) := by decide +kernel
theorem dX11_parted_17 : decode cX11_parted 17 = .ok (.aload_n 3, 1) := by decide +kernel
theorem dX11_parted_18 : decode cX11_parted 18 = .ok (.getfield 204, 3) := by decide +kernel
theorem dX11_parted_21 : decode cX11_parted 21 = .ok (.iload_n 2, 1) := by decide +kernel
theorem dX11_parted_22 : decode cX11_parted 22 = .ok (.iaload, 1) := by decide +kernel
theorem dX11_parted_23 : decode cX11_parted 23 = .ok (.iconst (-1), 1) := by decide +kernel
theorem dX11_parted_24 : decode cX11_parted 24 = .ok (.if_icmp .ne 5, 3) := by decide +kernel
theorem dX11_parted_27 : decode cX11_parted 27 = .ok (.iconst (-1), 1) := by decide +kernel
theorem dX11_parted_28 : decode cX11_parted 28 = .ok (.ireturn, 1) := by decide +kernel
theorem dX11_parted_29 : decode cX11_parted 29 = .ok (.aload_n 3, 1) := by decide +kernel
theorem dX11_parted_30 : decode cX11_parted 30 = .ok (.iload_n 2, 1) := by decide +kernel
theorem dX11_parted_31 : decode cX11_parted 31 = .ok (.invokevirtual 248, 3) := by decide +kernel
theorem dX11_parted_34 : decode cX11_parted 34 = .ok (.ireturn, 1) := by decide +kernel
theorem dX11_sly_0 : decode cX11_sly 0 = .ok (.aload_n 0, 1) := by decide +kernel
theorem dX11_sly_1 : decode cX11_sly 1 = .ok (.iload_n 1, 1) := by decide +kernel
theorem dX11_sly_2 : decode cX11_sly 2 = .ok (.iload_n 2, 1) := by decide +kernel
theorem dX11_sly_3 : decode cX11_sly 3 = .ok (.iload_n 3, 1) := by decide +kernel
theorem dX11_sly_4 : decode cX11_sly 4 = .ok (.iload 4, 2) := by decide +kernel
theorem dX11_sly_6 : decode cX11_sly 6 = .ok (.invokevirtual 251, 3) := by decide +kernel
theorem dX11_sly_9 : decode cX11_sly 9 = .ok (.ifCond .ne 5, 3) := by decide +kernel
theorem dX11_sly_12 : decode cX11_sly 12 = .ok (.iconst (-1), 1) := by decide +kernel
theorem dX11_sly_13 : decode cX11_sly 13 = .ok (.ireturn, 1) := by decide +kernel
theorem dX11_sly_14 : decode cX11_sly 14 = .ok (.aload_n 0, 1) := by decide +kernel
theorem dX11_sly_15 : decode cX11_sly 15 = .ok (.getfield 51, 3) := by decide +kernel
theorem dX11_sly_18 : decode cX11_sly 18 = .ok (.iload_n 1, 1) := by decide +kernel
theorem dX11_sly_19 : decode cX11_sly 19 = .ok (.iload_n 2, 1) := by decide +kernel
theorem dX11_sly_20 : decode cX11_sly 20 = .ok (.iload_n 3, 1) := by decide +kernel
theorem dX11_sly_21 : decode cX11_sly 21 = .ok (.iload 4, 2) := by decide +kernel
theorem dX11_sly_23 : decode cX11_sly 23 = .ok (.invokevirtual 255, 3) := by decide +kernel
theorem dX11_sly_26 : decode cX11_sly 26 = .ok (.ireturn, 1) := by decide +kernel
theorem dX11_slyRow_0 : decode cX11_slyRow 0 = .ok (.aload_n 0, 1) := by decide +kernel
theorem dX11_slyRow_1 : decode cX11_slyRow 1 = .ok (.iload_n 1, 1) := by decide +kernel
theorem dX11_slyRow_2 : decode cX11_slyRow 2 = .ok (.iload_n 2, 1) := by decide +kernel
theorem dX11_slyRow_3 : decode cX11_slyRow 3 = .ok (.iload_n 3, 1) := by decide +kernel
theorem dX11_slyRow_4 : decode cX11_slyRow 4 = .ok (.iload 4, 2) := by decide +kernel
theorem dX11_slyRow_6 : decode cX11_slyRow 6 = .ok (.invokevirtual 251, 3) := by decide +kernel
theorem dX11_slyRow_9 : decode cX11_slyRow 9 = .ok (.ifCond .eq 14, 3) := by decide +kernel
theorem dX11_slyRow_12 : decode cX11_slyRow 12 = .ok (.iload 6, 2) := by decide +kernel
theorem dX11_slyRow_14 : decode cX11_slyRow 14 = .ok (.ifCond .lt 9, 3) := by decide +kernel
theorem dX11_slyRow_17 : decode cX11_slyRow 17 = .ok (.iload 6, 2) := by decide +kernel
theorem dX11_slyRow_19 : decode cX11_slyRow 19 = .ok (.iconst 2, 1) := by decide +kernel
theorem dX11_slyRow_20 : decode cX11_slyRow 20 = .ok (.if_icmp .le 5, 3) := by decide +kernel
theorem dX11_slyRow_23 : decode cX11_slyRow 23 = .ok (.iconst (-1), 1) := by decide +kernel
theorem dX11_slyRow_24 : decode cX11_slyRow 24 = .ok (.ireturn, 1) := by decide +kernel
theorem dX11_slyRow_25 : decode cX11_slyRow 25 = .ok (.aload_n 0, 1) := by decide +kernel
theorem dX11_slyRow_26 : decode cX11_slyRow 26 = .ok (.getfield 51, 3) := by decide +kernel
theorem dX11_slyRow_29 : decode cX11_slyRow 29 = .ok (.iload_n 1, 1) := by decide +kernel
theorem dX11_slyRow_30 : decode cX11_slyRow 30 = .ok (.iload_n 2, 1) := by decide +kernel
theorem dX11_slyRow_31 : decode cX11_slyRow 31 = .ok (.iload_n 3, 1) := by decide +kernel
theorem dX11_slyRow_32 : decode cX11_slyRow 32 = .ok (.iload 4, 2) := by decide +kernel
theorem dX11_slyRow_34 : decode cX11_slyRow 34 = .ok (.invokevirtual 255, 3) := by decide +kernel
theorem dX11_slyRow_37 : decode cX11_slyRow 37 = .ok (.istore 7, 2) := by decide +kernel
theorem dX11_slyRow_39 : decode cX11_slyRow 39 = .ok (.iload 5, 2) := by decide +kernel
theorem dX11_slyRow_41 : decode cX11_slyRow 41 = .ok (.ifCond .lt 10, 3) := by decide +kernel
theorem dX11_slyRow_44 : decode cX11_slyRow 44 = .ok (.iload 5, 2) := by decide +kernel
theorem dX11_slyRow_46 : decode cX11_slyRow 46 = .ok (.iload 7, 2) := by decide +kernel
theorem dX11_slyRow_48 : decode cX11_slyRow 48 = .ok (.if_icmp .lt 5, 3) := by decide +kernel
theorem dX11_slyRow_51 : decode cX11_slyRow 51 = .ok (.iconst (-1), 1) := by decide +kernel
theorem dX11_slyRow_52 : decode cX11_slyRow 52 = .ok (.ireturn, 1) := by decide +kernel
theorem dX11_slyRow_53 : decode cX11_slyRow 53 = .ok (.aload_n 0, 1) := by decide +kernel
theorem dX11_slyRow_54 : decode cX11_slyRow 54 = .ok (.getfield 51, 3) := by decide +kernel
theorem dX11_slyRow_57 : decode cX11_slyRow 57 = .ok (.iload 7, 2) := by decide +kernel
theorem dX11_slyRow_59 : decode cX11_slyRow 59 = .ok (.iconst 1, 1) := by decide +kernel
theorem dX11_slyRow_60 : decode cX11_slyRow 60 = .ok (.isub, 1) := by decide +kernel
theorem dX11_slyRow_61 : decode cX11_slyRow 61 = .ok (.iload 5, 2) := by decide +kernel
theorem dX11_slyRow_63 : decode cX11_slyRow 63 = .ok (.isub, 1) := by decide +kernel
theorem dX11_slyRow_64 : decode cX11_slyRow 64 = .ok (.iload 6, 2) := by decide +kernel
theorem dX11_slyRow_66 : decode cX11_slyRow 66 = .ok (.invokevirtual 259, 3) := by decide +kernel
theorem dX11_slyRow_69 : decode cX11_slyRow 69 = .ok (.ireturn, 1) := by decide +kernel
theorem dX11_far_0 : decode cX11_far 0 = .ok (.iload_n 1, 1) := by decide +kernel
theorem dX11_far_1 : decode cX11_far 1 = .ok (.invokestatic 96, 3) := by decide +kernel
theorem dX11_far_4 : decode cX11_far 4 = .ok (.ifCond .eq 32, 3) := by decide +kernel
theorem dX11_far_7 : decode cX11_far 7 = .ok (.iload_n 2, 1) := by decide +kernel
theorem dX11_far_8 : decode cX11_far 8 = .ok (.iconst 1, 1) := by decide +kernel
theorem dX11_far_9 : decode cX11_far 9 = .ok (.if_icmp .lt 27, 3) := by decide +kernel
theorem dX11_far_12 : decode cX11_far 12 = .ok (.iload_n 2, 1) := by decide +kernel
theorem dX11_far_13 : decode cX11_far 13 = .ok (.bipush 9, 2) := by decide +kernel
theorem dX11_far_15 : decode cX11_far 15 = .ok (.if_icmp .gt 21, 3) := by decide +kernel
theorem dX11_far_18 : decode cX11_far 18 = .ok (.iload_n 3, 1) := by decide +kernel
theorem dX11_far_19 : decode cX11_far 19 = .ok (.invokestatic 262, 3) := by decide +kernel
theorem dX11_far_22 : decode cX11_far 22 = .ok (.ifCond .eq 14, 3) := by decide +kernel
theorem dX11_far_25 : decode cX11_far 25 = .ok (.iload 4, 2) := by decide +kernel
theorem dX11_far_27 : decode cX11_far 27 = .ok (.ifCond .lt 9, 3) := by decide +kernel
theorem dX11_far_30 : decode cX11_far 30 = .ok (.iload 4, 2) := by decide +kernel
theorem dX11_far_32 : decode cX11_far 32 = .ok (.iconst 2, 1) := by decide +kernel
theorem dX11_far_33 : decode cX11_far 33 = .ok (.if_icmp .le 5, 3) := by decide +kernel
theorem dX11_far_36 : decode cX11_far 36 = .ok (.iconst (-1), 1) := by decide +kernel
theorem dX11_far_37 : decode cX11_far 37 = .ok (.ireturn, 1) := by decide +kernel
theorem dX11_far_38 : decode cX11_far 38 = .ok (.aload_n 0, 1) := by decide +kernel
theorem dX11_far_39 : decode cX11_far 39 = .ok (.getfield 67, 3) := by decide +kernel
theorem dX11_far_42 : decode cX11_far 42 = .ok (.iload_n 1, 1) := by decide +kernel
theorem dX11_far_43 : decode cX11_far 43 = .ok (.iload_n 2, 1) := by decide +kernel
theorem dX11_far_44 : decode cX11_far 44 = .ok (.iload_n 3, 1) := by decide +kernel
theorem dX11_far_45 : decode cX11_far 45 = .ok (.invokevirtual 265, 3) := by decide +kernel
theorem dX11_far_48 : decode cX11_far 48 = .ok (.iload 4, 2) := by decide +kernel
theorem dX11_far_50 : decode cX11_far 50 = .ok (.ifCond .ne 22, 3) := by decide +kernel
theorem dX11_far_53 : decode cX11_far 53 = .ok (.aload_n 0, 1) := by decide +kernel
theorem dX11_far_54 : decode cX11_far 54 = .ok (.getfield 67, 3) := by decide +kernel
theorem dX11_far_57 : decode cX11_far 57 = .ok (.getfield 268, 3) := by decide +kernel
theorem dX11_far_60 : decode cX11_far 60 = .ok (.aload_n 0, 1) := by decide +kernel
theorem dX11_far_61 : decode cX11_far 61 = .ok (.getfield 67, 3) := by decide +kernel
theorem dX11_far_64 : decode cX11_far 64 = .ok (.getfield 271, 3) := by decide +kernel
theorem dX11_far_67 : decode cX11_far 67 = .ok (.ior, 1) := by decide +kernel
theorem dX11_far_68 : decode cX11_far 68 = .ok (.invokestatic 274, 3) := by decide +kernel
theorem dX11_far_71 : decode cX11_far 71 = .ok (.ireturn, 1) := by decide +kernel
theorem dX11_far_72 : decode cX11_far 72 = .ok (.iload 4, 2) := by decide +kernel
theorem dX11_far_74 : decode cX11_far 74 = .ok (.iconst 1, 1) := by decide +kernel
theorem dX11_far_75 : decode cX11_far 75 = .ok (.if_icmp .ne 16, 3) := by decide +kernel
theorem dX11_far_78 : decode cX11_far 78 = .ok (.aload_n 0, 1) := by decide +kernel
theorem dX11_far_79 : decode cX11_far 79 = .ok (.getfield 67, 3) := by decide +kernel
theorem dX11_far_82 : decode cX11_far 82 = .ok (.getfield 271, 3) := by decide +kernel
theorem dX11_far_85 : decode cX11_far 85 = .ok (.invokestatic 274, 3) := by decide +kernel
theorem dX11_far_88 : decode cX11_far 88 = .ok (.goto 18, 3) := by decide +kernel
theorem dX11_far_91 : decode cX11_far 91 = .ok (.aload_n 0, 1) := by decide +kernel
theorem dX11_far_92 : decode cX11_far 92 = .ok (.getfield 67, 3) := by decide +kernel
theorem dX11_far_95 : decode cX11_far 95 = .ok (.getfield 268, 3) := by decide +kernel
theorem dX11_far_98 : decode cX11_far 98 = .ok (.aload_n 0, 1) := by decide +kernel
theorem dX11_far_99 : decode cX11_far 99 = .ok (.getfield 67, 3) := by decide +kernel
theorem dX11_far_102 : decode cX11_far 102 = .ok (.getfield 271, 3) := by decide +kernel
theorem dX11_far_105 : decode cX11_far 105 = .ok (.ior, 1) := by decide +kernel
theorem dX11_far_106 : decode cX11_far 106 = .ok (.ireturn, 1) := by decide +kernel
theorem dX11_honest_0 : decode cX11_honest 0 = .ok (.aload_n 0, 1) := by decide +kernel
theorem dX11_honest_1 : decode cX11_honest 1 = .ok (.getfield 33, 3) := by decide +kernel
theorem dX11_honest_4 : decode cX11_honest 4 = .ok (.iload_n 1, 1) := by decide +kernel
theorem dX11_honest_5 : decode cX11_honest 5 = .ok (.iload_n 2, 1) := by decide +kernel
theorem dX11_honest_6 : decode cX11_honest 6 = .ok (.iload_n 3, 1) := by decide +kernel
theorem dX11_honest_7 : decode cX11_honest 7 = .ok (.iload 4, 2) := by decide +kernel
theorem dX11_honest_9 : decode cX11_honest 9 = .ok (.iload 5, 2) := by decide +kernel
theorem dX11_honest_11 : decode cX11_honest 11 = .ok (.iload 6, 2) := by decide +kernel
theorem dX11_honest_13 : decode cX11_honest 13 = .ok (.iload 6, 2) := by decide +kernel
theorem dX11_honest_15 : decode cX11_honest 15 = .ok (.invokevirtual 170, 3) := by decide +kernel
theorem dX11_honest_18 : decode cX11_honest 18 = .ok (.aload_n 0, 1) := by decide +kernel
theorem dX11_honest_19 : decode cX11_honest 19 = .ok (.getfield 33, 3) := by decide +kernel
theorem dX11_honest_22 : decode cX11_honest 22 = .ok (.aload_n 0, 1) := by decide +kernel
theorem dX11_honest_23 : decode cX11_honest 23 = .ok (.getfield 10, 3) := by decide +kernel
theorem dX11_honest_26 : decode cX11_honest 26 = .ok (.invokevirtual 279, 3) := by decide +kernel
theorem dX11_honest_29 : decode cX11_honest 29 = .ok (.ifCond .eq 15, 3) := by decide +kernel
theorem dX11_honest_32 : decode cX11_honest 32 = .ok (.aload_n 0, 1) := by decide +kernel
theorem dX11_honest_33 : decode cX11_honest 33 = .ok (.getfield 60, 3) := by decide +kernel
theorem dX11_honest_36 : decode cX11_honest 36 = .ok (.getfield 283, 3) := by decide +kernel
theorem dX11_honest_39 : decode cX11_honest 39 = .ok (.bipush 6, 2) := by decide +kernel
theorem dX11_honest_41 : decode cX11_honest 41 = .ok (.if_icmp .lt 5, 3) := by decide +kernel
theorem dX11_honest_44 : decode cX11_honest 44 = .ok (.iconst 0, 1) := by decide +kernel
theorem dX11_honest_45 : decode cX11_honest 45 = .ok (.ireturn, 1) := by decide +kernel
theorem dX11_honest_46 : decode cX11_honest 46 = .ok (.aload_n 0, 1) := by decide +kernel
theorem dX11_honest_47 : decode cX11_honest 47 = .ok (.getfield 10, 3) := by decide +kernel
theorem dX11_honest_50 : decode cX11_honest 50 = .ok (.dup, 1) := by decide +kernel
theorem dX11_honest_51 : decode cX11_honest 51 = .ok (.getfield 103, 3) := by decide +kernel
theorem dX11_honest_54 : decode cX11_honest 54 = .ok (.iconst 1, 1) := by decide +kernel
theorem dX11_honest_55 : decode cX11_honest 55 = .ok (.iadd, 1) := by decide +kernel
theorem dX11_honest_56 : decode cX11_honest 56 = .ok (.putfield 103, 3) := by decide +kernel
theorem dX11_honest_59 : decode cX11_honest 59 = .ok (.aload_n 0, 1) := by decide +kernel
theorem dX11_honest_60 : decode cX11_honest 60 = .ok (.getfield 60, 3) := by decide +kernel
theorem dX11_honest_63 : decode cX11_honest 63 = .ok (.aload_n 0, 1) := by decide +kernel
theorem dX11_honest_64 : decode cX11_honest 64 = .ok (.getfield 33, 3) := by decide +kernel
theorem dX11_honest_67 : decode cX11_honest 67 = .ok (.invokevirtual 286, 3) := by decide +kernel
theorem dX11_honest_70 : decode cX11_honest 70 = .ok (.iconst 1, 1) := by decide +kernel
theorem dX11_honest_71 : decode cX11_honest 71 = .ok (.ireturn, 1) := by decide +kernel
theorem dX11_mended_0 : decode cX11_mended 0 = .ok (.aload_n 0, 1) := by decide +kernel
theorem dX11_mended_1 : decode cX11_mended 1 = .ok (.iload_n 1, 1) := by decide +kernel
theorem dX11_mended_2 : decode cX11_mended 2 = .ok (.iload_n 2, 1) := by decide +kernel
theorem dX11_mended_3 : decode cX11_mended 3 = .ok (.iload_n 3, 1) := by decide +kernel
theorem dX11_mended_4 : decode cX11_mended 4 = .ok (.iload 4, 2) := by decide +kernel
theorem dX11_mended_6 : decode cX11_mended 6 = .ok (.invokevirtual 251, 3) := by decide +kernel
theorem dX11_mended_9 : decode cX11_mended 9 = .ok (.ifCond .eq 14, 3) := by decide +kernel
theorem dX11_mended_12 : decode cX11_mended 12 = .ok (.iload 5, 2) := by decide +kernel
theorem dX11_mended_14 : decode cX11_mended 14 = .ok (.ifCond .lt 9, 3) := by decide +kernel
theorem dX11_mended_17 : decode cX11_mended 17 = .ok (.iload 5, 2) := by decide +kernel
theorem dX11_mended_19 : decode cX11_mended 19 = .ok (.iconst 1, 1) := by decide +kernel
theorem dX11_mended_20 : decode cX11_mended 20 = .ok (.if_icmp .le 5, 3) := by decide +kernel
theorem dX11_mended_23 : decode cX11_mended 23 = .ok (.iconst (-1), 1) := by decide +kernel
theorem dX11_mended_24 : decode cX11_mended 24 = .ok (.ireturn, 1) := by decide +kernel
theorem dX11_mended_25 : decode cX11_mended 25 = .ok (.aload_n 0, 1) := by decide +kernel
theorem dX11_mended_26 : decode cX11_mended 26 = .ok (.getfield 60, 3) := by decide +kernel
theorem dX11_mended_29 : decode cX11_mended 29 = .ok (.iload_n 1, 1) := by decide +kernel
theorem dX11_mended_30 : decode cX11_mended 30 = .ok (.iload_n 2, 1) := by decide +kernel
theorem dX11_mended_31 : decode cX11_mended 31 = .ok (.iload_n 3, 1) := by decide +kernel
theorem dX11_mended_32 : decode cX11_mended 32 = .ok (.iload 4, 2) := by decide +kernel
theorem dX11_mended_34 : decode cX11_mended 34 = .ok (.invokevirtual 290, 3) := by decide +kernel
theorem dX11_mended_37 : decode cX11_mended 37 = .ok (.istore 6, 2) := by decide +kernel
theorem dX11_mended_39 : decode cX11_mended 39 = .ok (.iload 6, 2) := by decide +kernel
theorem dX11_mended_41 : decode cX11_mended 41 = .ok (.iconst (-1), 1) := by decide +kernel
theorem dX11_mended_42 : decode cX11_mended 42 = .ok (.if_icmp .eq 9, 3) := by decide +kernel
theorem dX11_mended_45 : decode cX11_mended 45 = .ok (.iload 5, 2) := by decide +kernel
theorem dX11_mended_47 : decode cX11_mended 47 = .ok (.iconst 1, 1) := by decide +kernel
theorem dX11_mended_48 : decode cX11_mended 48 = .ok (.if_icmp .ne 6, 3) := by decide +kernel
theorem dX11_mended_51 : decode cX11_mended 51 = .ok (.iload 6, 2) := by decide +kernel
theorem dX11_mended_53 : decode cX11_mended 53 = .ok (.ireturn, 1) := by decide +kernel
theorem dX11_mended_54 : decode cX11_mended 54 = .ok (.iload 6, 2) := by decide +kernel
theorem dX11_mended_56 : decode cX11_mended 56 = .ok (.invokestatic 274, 3) := by decide +kernel
theorem dX11_mended_59 : decode cX11_mended 59 = .ok (.ireturn, 1) := by decide +kernel
theorem dX11_mark_0 : decode cX11_mark 0 = .ok (.iload_n 1, 1) := by decide +kernel
theorem dX11_mark_1 : decode cX11_mark 1 = .ok (.ifCond .lt 8, 3) := by decide +kernel
theorem dX11_mark_4 : decode cX11_mark 4 = .ok (.iload_n 1, 1) := by decide +kernel
theorem dX11_mark_5 : decode cX11_mark 5 = .ok (.iconst 4, 1) := by decide +kernel
theorem dX11_mark_6 : decode cX11_mark 6 = .ok (.if_icmp .lt 5, 3) := by decide +kernel
theorem dX11_mark_9 : decode cX11_mark 9 = .ok (.iconst 0, 1) := by decide +kernel
theorem dX11_mark_10 : decode cX11_mark 10 = .ok (.ireturn, 1) := by decide +kernel
theorem dX11_mark_11 : decode cX11_mark 11 = .ok (.iload_n 2, 1) := by decide +kernel
theorem dX11_mark_12 : decode cX11_mark 12 = .ok (.ifCond .eq 9, 3) := by decide +kernel
theorem dX11_mark_15 : decode cX11_mark 15 = .ok (.aload_n 0, 1) := by decide +kernel
theorem dX11_mark_16 : decode cX11_mark 16 = .ok (.iload_n 1, 1) := by decide +kernel
theorem dX11_mark_17 : decode cX11_mark 17 = .ok (.invokevirtual 292, 3) := by decide +kernel
theorem dX11_mark_20 : decode cX11_mark 20 = .ok (.ireturn, 1) := by decide +kernel
theorem dX11_mark_21 : decode cX11_mark 21 = .ok (.aload_n 0, 1) := by decide +kernel
theorem dX11_mark_22 : decode cX11_mark 22 = .ok (.getfield 79, 3) := by decide +kernel
theorem dX11_mark_25 : decode cX11_mark 25 = .ok (.iload_n 1, 1) := by decide +kernel
theorem dX11_mark_26 : decode cX11_mark 26 = .ok (.aaload, 1) := by decide +kernel
theorem dX11_mark_27 : decode cX11_mark 27 = .ok (.ifnonnull 16, 3) := by decide +kernel
theorem dX11_mark_30 : decode cX11_mark 30 = .ok (.aload_n 0, 1) := by decide +kernel
theorem dX11_mark_31 : decode cX11_mark 31 = .ok (.getfield 79, 3) := by decide +kernel
theorem dX11_mark_34 : decode cX11_mark 34 = .ok (.iload_n 1, 1) := by decide +kernel
theorem dX11_mark_35 : decode cX11_mark 35 = .ok (.new 77, 3) := by decide +kernel
theorem dX11_mark_38 : decode cX11_mark 38 = .ok (.dup, 1) := by decide +kernel
theorem dX11_mark_39 : decode cX11_mark 39 = .ok (.invokespecial 295, 3) := by decide +kernel
theorem dX11_mark_42 : decode cX11_mark 42 = .ok (.aastore, 1) := by decide +kernel
theorem dX11_mark_43 : decode cX11_mark 43 = .ok (.aload_n 0, 1) := by decide +kernel
theorem dX11_mark_44 : decode cX11_mark 44 = .ok (.dup, 1) := by decide +kernel
theorem dX11_mark_45 : decode cX11_mark 45 = .ok (.getfield 296, 3) := by decide +kernel
theorem dX11_mark_48 : decode cX11_mark 48 = .ok (.iconst 1, 1) := by decide +kernel
theorem dX11_mark_49 : decode cX11_mark 49 = .ok (.iadd, 1) := by decide +kernel
theorem dX11_mark_50 : decode cX11_mark 50 = .ok (.putfield 296, 3) := by decide +kernel
theorem dX11_mark_53 : decode cX11_mark 53 = .ok (.aload_n 0, 1) := by decide +kernel
theorem dX11_mark_54 : decode cX11_mark 54 = .ok (.getfield 79, 3) := by decide +kernel
theorem dX11_mark_57 : decode cX11_mark 57 = .ok (.iload_n 1, 1) := by decide +kernel
theorem dX11_mark_58 : decode cX11_mark 58 = .ok (.aaload, 1) := by decide +kernel
theorem dX11_mark_59 : decode cX11_mark 59 = .ok (.aload_n 0, 1) := by decide +kernel
theorem dX11_mark_60 : decode cX11_mark 60 = .ok (.getfield 296, 3) := by decide +kernel
theorem dX11_mark_63 : decode cX11_mark 63 = .ok (.aload_n 0, 1) := by decide +kernel
theorem dX11_mark_64 : decode cX11_mark 64 = .ok (.getfield 10, 3) := by decide +kernel
theorem dX11_mark_67 : decode cX11_mark 67 = .ok (.aload_n 0, 1) := by decide +kernel
theorem dX11_mark_68 : decode cX11_mark 68 = .ok (.getfield 19, 3) := by decide +kernel
theorem dX11_mark_71 : decode cX11_mark 71 = .ok (.aload_n 0, 1) := by decide +kernel
theorem dX11_mark_72 : decode cX11_mark 72 = .ok (.getfield 73, 3) := by decide +kernel
theorem dX11_mark_75 : decode cX11_mark 75 = .ok (.aload_n 0, 1) := by decide +kernel
theorem dX11_mark_76 : decode cX11_mark 76 = .ok (.getfield 178, 3) := by decide +kernel
theorem dX11_mark_79 : decode cX11_mark 79 = .ok (.invokevirtual 299, 3) := by decide +kernel
theorem dX11_mark_82 : decode cX11_mark 82 = .ok (.iconst 1, 1) := by decide +kernel
theorem dX11_mark_83 : decode cX11_mark 83 = .ok (.ireturn, 1) := by decide +kernel
theorem dX11_count_0 : decode cX11_count 0 = .ok (.iload_n 1, 1) := by decide +kernel
theorem dX11_count_1 : decode cX11_count 1 = .ok (.tableswitch 108 0 7 #[47, 58, 66, 71, 76, 84, 92, 100], 47) := by decide +kernel
theorem dX11_count_48 : decode cX11_count 48 = .ok (.aload_n 0, 1) := by decide +kernel
theorem dX11_count_49 : decode cX11_count 49 = .ok (.getfield 10, 3) := by decide +kernel
theorem dX11_count_52 : decode cX11_count 52 = .ok (.getfield 107, 3) := by decide +kernel
theorem dX11_count_55 : decode cX11_count 55 = .ok (.invokestatic 274, 3) := by decide +kernel
theorem dX11_count_58 : decode cX11_count 58 = .ok (.ireturn, 1) := by decide +kernel
theorem dX11_count_59 : decode cX11_count 59 = .ok (.aload_n 0, 1) := by decide +kernel
theorem dX11_count_60 : decode cX11_count 60 = .ok (.getfield 10, 3) := by decide +kernel
theorem dX11_count_63 : decode cX11_count 63 = .ok (.getfield 152, 3) := by decide +kernel
theorem dX11_count_66 : decode cX11_count 66 = .ok (.ireturn, 1) := by decide +kernel
theorem dX11_count_67 : decode cX11_count 67 = .ok (.aload_n 0, 1) := by decide +kernel
theorem dX11_count_68 : decode cX11_count 68 = .ok (.getfield 178, 3) := by decide +kernel
theorem dX11_count_71 : decode cX11_count 71 = .ok (.ireturn, 1) := by decide +kernel
theorem dX11_count_72 : decode cX11_count 72 = .ok (.aload_n 0, 1) := by decide +kernel
theorem dX11_count_73 : decode cX11_count 73 = .ok (.invokevirtual 303, 3) := by decide +kernel
theorem dX11_count_76 : decode cX11_count 76 = .ok (.ireturn, 1) := by decide +kernel
theorem dX11_count_77 : decode cX11_count 77 = .ok (.aload_n 0, 1) := by decide +kernel
theorem dX11_count_78 : decode cX11_count 78 = .ok (.getfield 86, 3) := by decide +kernel
theorem dX11_count_81 : decode cX11_count 81 = .ok (.getfield 307, 3) := by decide +kernel
theorem dX11_count_84 : decode cX11_count 84 = .ok (.ireturn, 1) := by decide +kernel
theorem dX11_count_85 : decode cX11_count 85 = .ok (.aload_n 0, 1) := by decide +kernel
theorem dX11_count_86 : decode cX11_count 86 = .ok (.getfield 86, 3) := by decide +kernel
theorem dX11_count_89 : decode cX11_count 89 = .ok (.getfield 310, 3) := by decide +kernel
theorem dX11_count_92 : decode cX11_count 92 = .ok (.ireturn, 1) := by decide +kernel
theorem dX11_count_93 : decode cX11_count 93 = .ok (.aload_n 0, 1) := by decide +kernel
theorem dX11_count_94 : decode cX11_count 94 = .ok (.getfield 60, 3) := by decide +kernel
theorem dX11_count_97 : decode cX11_count 97 = .ok (.getfield 283, 3) := by decide +kernel
theorem dX11_count_100 : decode cX11_count 100 = .ok (.ireturn, 1) := by decide +kernel
theorem dX11_count_101 : decode cX11_count 101 = .ok (.aload_n 0, 1) := by decide +kernel
theorem dX11_count_102 : decode cX11_count 102 = .ok (.getfield 26, 3) := by decide +kernel
theorem dX11_count_105 : decode cX11_count 105 = .ok (.getfield 159, 3) := by decide +kernel
theorem dX11_count_108 : decode cX11_count 108 = .ok (.ireturn, 1) := by decide +kernel
theorem dX11_count_109 : decode cX11_count 109 = .ok (.iconst (-1), 1) := by decide +kernel
theorem dX11_count_110 : decode cX11_count 110 = .ok (.ireturn, 1) := by decide +kernel
theorem dX11_goBack_0 : decode cX11_goBack 0 = .ok (.aload_n 0, 1) := by decide +kernel
theorem dX11_goBack_1 : decode cX11_goBack 1 = .ok (.getfield 79, 3) := by decide +kernel
theorem dX11_goBack_4 : decode cX11_goBack 4 = .ok (.iload_n 1, 1) := by decide +kernel
theorem dX11_goBack_5 : decode cX11_goBack 5 = .ok (.aaload, 1) := by decide +kernel
theorem dX11_goBack_6 : decode cX11_goBack 6 = .ok (.astore_n 2, 1) := by decide +kernel
theorem dX11_goBack_7 : decode cX11_goBack 7 = .ok (.aload_n 2, 1) := by decide +kernel
theorem dX11_goBack_8 : decode cX11_goBack 8 = .ok (.ifnull 10, 3) := by decide +kernel
theorem dX11_goBack_11 : decode cX11_goBack 11 = .ok (.aload_n 2, 1) := by decide +kernel
theorem dX11_goBack_12 : decode cX11_goBack 12 = .ok (.getfield 313, 3) := by decide +kernel
theorem dX11_goBack_15 : decode cX11_goBack 15 = .ok (.ifCond .ne 5, 3) := by decide +kernel
theorem dX11_goBack_18 : decode cX11_goBack 18 = .ok (.iconst 0, 1) := by decide +kernel
theorem dX11_goBack_19 : decode cX11_goBack 19 = .ok (.ireturn, 1) := by decide +kernel
theorem dX11_goBack_20 : decode cX11_goBack 20 = .ok (.aload_n 0, 1) := by decide +kernel
theorem dX11_goBack_21 : decode cX11_goBack 21 = .ok (.getfield 10, 3) := by decide +kernel
theorem dX11_goBack_24 : decode cX11_goBack 24 = .ok (.dup, 1) := by decide +kernel
theorem dX11_goBack_25 : decode cX11_goBack 25 = .ok (.getfield 103, 3) := by decide +kernel
theorem dX11_goBack_28 : decode cX11_goBack 28 = .ok (.iconst 1, 1) := by decide +kernel
theorem dX11_goBack_29 : decode cX11_goBack 29 = .ok (.iadd, 1) := by decide +kernel
theorem dX11_goBack_30 : decode cX11_goBack 30 = .ok (.putfield 103, 3) := by decide +kernel
theorem dX11_goBack_33 : decode cX11_goBack 33 = .ok (.aload_n 2, 1) := by decide +kernel
theorem dX11_goBack_34 : decode cX11_goBack 34 = .ok (.aload_n 0, 1) := by decide +kernel
theorem dX11_goBack_35 : decode cX11_goBack 35 = .ok (.getfield 10, 3) := by decide +kernel
theorem dX11_goBack_38 : decode cX11_goBack 38 = .ok (.aload_n 0, 1) := by decide +kernel
theorem dX11_goBack_39 : decode cX11_goBack 39 = .ok (.getfield 19, 3) := by decide +kernel
theorem dX11_goBack_42 : decode cX11_goBack 42 = .ok (.aload_n 0, 1) := by decide +kernel
theorem dX11_goBack_43 : decode cX11_goBack 43 = .ok (.getfield 73, 3) := by decide +kernel
theorem dX11_goBack_46 : decode cX11_goBack 46 = .ok (.invokevirtual 316, 3) := by decide +kernel
theorem dX11_goBack_49 : decode cX11_goBack 49 = .ok (.aload_n 0, 1) := by decide +kernel
theorem dX11_goBack_50 : decode cX11_goBack 50 = .ok (.aload_n 2, 1) := by decide +kernel
theorem dX11_goBack_51 : decode cX11_goBack 51 = .ok (.getfield 320, 3) := by decide +kernel
theorem dX11_goBack_54 : decode cX11_goBack 54 = .ok (.putfield 178, 3) := by decide +kernel
theorem dX11_goBack_57 : decode cX11_goBack 57 = .ok (.iconst 0, 1) := by decide +kernel
theorem dX11_goBack_58 : decode cX11_goBack 58 = .ok (.istore_n 3, 1) := by decide +kernel
theorem dX11_goBack_59 : decode cX11_goBack 59 = .ok (.iload_n 3, 1) := by decide +kernel
theorem dX11_goBack_60 : decode cX11_goBack 60 = .ok (.iconst 4, 1) := by decide +kernel
theorem dX11_goBack_61 : decode cX11_goBack 61 = .ok (.if_icmp .ge 44, 3) := by decide +kernel
theorem dX11_goBack_64 : decode cX11_goBack 64 = .ok (.aload_n 0, 1) := by decide +kernel
theorem dX11_goBack_65 : decode cX11_goBack 65 = .ok (.getfield 79, 3) := by decide +kernel
theorem dX11_goBack_68 : decode cX11_goBack 68 = .ok (.iload_n 3, 1) := by decide +kernel
theorem dX11_goBack_69 : decode cX11_goBack 69 = .ok (.aaload, 1) := by decide +kernel
theorem dX11_goBack_70 : decode cX11_goBack 70 = .ok (.ifnull 29, 3) := by decide +kernel
theorem dX11_goBack_73 : decode cX11_goBack 73 = .ok (.aload_n 0, 1) := by decide +kernel
theorem dX11_goBack_74 : decode cX11_goBack 74 = .ok (.getfield 79, 3) := by decide +kernel
theorem dX11_goBack_77 : decode cX11_goBack 77 = .ok (.iload_n 3, 1) := by decide +kernel
theorem dX11_goBack_78 : decode cX11_goBack 78 = .ok (.aaload, 1) := by decide +kernel
theorem dX11_goBack_79 : decode cX11_goBack 79 = .ok (.getfield 313, 3) := by decide +kernel
theorem dX11_goBack_82 : decode cX11_goBack 82 = .ok (.aload_n 2, 1) := by decide +kernel
theorem dX11_goBack_83 : decode cX11_goBack 83 = .ok (.getfield 313, 3) := by decide +kernel
theorem dX11_goBack_86 : decode cX11_goBack 86 = .ok (.if_icmp .le 13, 3) := by decide +kernel
theorem dX11_goBack_89 : decode cX11_goBack 89 = .ok (.aload_n 0, 1) := by decide +kernel
theorem dX11_goBack_90 : decode cX11_goBack 90 = .ok (.getfield 79, 3) := by decide +kernel
theorem dX11_goBack_93 : decode cX11_goBack 93 = .ok (.iload_n 3, 1) := by decide +kernel
theorem dX11_goBack_94 : decode cX11_goBack 94 = .ok (.aaload, 1) := by decide +kernel
theorem dX11_goBack_95 : decode cX11_goBack 95 = .ok (.iconst 0, 1) := by decide +kernel
theorem dX11_goBack_96 : decode cX11_goBack 96 = .ok (.putfield 313, 3) := by decide +kernel
theorem dX11_goBack_99 : decode cX11_goBack 99 = .ok (.iinc 3 1, 3) := by decide +kernel
theorem dX11_goBack_102 : decode cX11_goBack 102 = .ok (.goto (-43), 3) := by decide +kernel
theorem dX11_goBack_105 : decode cX11_goBack 105 = .ok (.iconst 1, 1) := by decide +kernel
theorem dX11_goBack_106 : decode cX11_goBack 106 = .ok (.ireturn, 1) := by decide +kernel
theorem dX11_takenOnes_0 : decode cX11_takenOnes 0 = .ok (.iconst 0, 1) := by decide +kernel
theorem dX11_takenOnes_1 : decode cX11_takenOnes 1 = .ok (.istore_n 1, 1) := by decide +kernel
theorem dX11_takenOnes_2 : decode cX11_takenOnes 2 = .ok (.iconst 0, 1) := by decide +kernel
theorem dX11_takenOnes_3 : decode cX11_takenOnes 3 = .ok (.istore_n 2, 1) := by decide +kernel
theorem dX11_takenOnes_4 : decode cX11_takenOnes 4 = .ok (.iload_n 2, 1) := by decide +kernel
theorem dX11_takenOnes_5 : decode cX11_takenOnes 5 = .ok (.aload_n 0, 1) := by decide +kernel
theorem dX11_takenOnes_6 : decode cX11_takenOnes 6 = .ok (.getfield 178, 3) := by decide +kernel
theorem dX11_takenOnes_9 : decode cX11_takenOnes 9 = .ok (.if_icmp .ge 39, 3) := by decide +kernel
theorem dX11_takenOnes_12 : decode cX11_takenOnes 12 = .ok (.iload_n 2, 1) := by decide +kernel
theorem dX11_takenOnes_13 : decode cX11_takenOnes 13 = .ok (.bipush 40, 2) := by decide +kernel
theorem dX11_takenOnes_15 : decode cX11_takenOnes 15 = .ok (.if_icmp .ge 33, 3) := by decide +kernel
theorem dX11_takenOnes_18 : decode cX11_takenOnes 18 = .ok (.aload_n 0, 1) := by decide +kernel
theorem dX11_takenOnes_19 : decode cX11_takenOnes 19 = .ok (.getfield 73, 3) := by decide +kernel
theorem dX11_takenOnes_22 : decode cX11_takenOnes 22 = .ok (.iload_n 2, 1) := by decide +kernel
theorem dX11_takenOnes_23 : decode cX11_takenOnes 23 = .ok (.aaload, 1) := by decide +kernel
theorem dX11_takenOnes_24 : decode cX11_takenOnes 24 = .ok (.ifnull 18, 3) := by decide +kernel
theorem dX11_takenOnes_27 : decode cX11_takenOnes 27 = .ok (.aload_n 0, 1) := by decide +kernel
theorem dX11_takenOnes_28 : decode cX11_takenOnes 28 = .ok (.getfield 73, 3) := by decide +kernel
theorem dX11_takenOnes_31 : decode cX11_takenOnes 31 = .ok (.iload_n 2, 1) := by decide +kernel
theorem dX11_takenOnes_32 : decode cX11_takenOnes 32 = .ok (.aaload, 1) := by decide +kernel
theorem dX11_takenOnes_33 : decode cX11_takenOnes 33 = .ok (.invokevirtual 231, 3) := by decide +kernel
theorem dX11_takenOnes_36 : decode cX11_takenOnes 36 = .ok (.ifCond .eq 6, 3) := by decide +kernel
theorem dX11_takenOnes_39 : decode cX11_takenOnes 39 = .ok (.iinc 1 1, 3) := by decide +kernel
theorem dX11_takenOnes_42 : decode cX11_takenOnes 42 = .ok (.iinc 2 1, 3) := by decide +kernel
theorem dX11_takenOnes_45 : decode cX11_takenOnes 45 = .ok (.goto (-41), 3) := by decide +kernel
theorem dX11_takenOnes_48 : decode cX11_takenOnes 48 = .ok (.iload_n 1, 1) := by decide +kernel
theorem dX11_takenOnes_49 : decode cX11_takenOnes 49 = .ok (.ireturn, 1) := by decide +kernel
theorem dX11_passingAt_0 : decode cX11_passingAt 0 = .ok (.iload_n 1, 1) := by decide +kernel
theorem dX11_passingAt_1 : decode cX11_passingAt 1 = .ok (.ifCond .lt 17, 3) := by decide +kernel
theorem dX11_passingAt_4 : decode cX11_passingAt 4 = .ok (.iload_n 1, 1) := by decide +kernel
theorem dX11_passingAt_5 : decode cX11_passingAt 5 = .ok (.aload_n 0, 1) := by decide +kernel
theorem dX11_passingAt_6 : decode cX11_passingAt 6 = .ok (.getfield 178, 3) := by decide +kernel
theorem dX11_passingAt_9 : decode cX11_passingAt 9 = .ok (.if_icmp .ge 9, 3) := by decide +kernel
theorem dX11_passingAt_12 : decode cX11_passingAt 12 = .ok (.iload_n 1, 1) := by decide +kernel
theorem dX11_passingAt_13 : decode cX11_passingAt 13 = .ok (.bipush 40, 2) := by decide +kernel
theorem dX11_passingAt_15 : decode cX11_passingAt 15 = .ok (.if_icmp .lt 7, 3) := by decide +kernel
theorem dX11_passingAt_18 : decode cX11_passingAt 18 = .ok (.aconst_null, 1) := by decide +kernel
theorem dX11_passingAt_19 : decode cX11_passingAt 19 = .ok (.goto 9, 3) := by decide +kernel
theorem dX11_passingAt_22 : decode cX11_passingAt 22 = .ok (.aload_n 0, 1) := by decide +kernel
theorem dX11_passingAt_23 : decode cX11_passingAt 23 = .ok (.getfield 73, 3) := by decide +kernel
theorem dX11_passingAt_26 : decode cX11_passingAt 26 = .ok (.iload_n 1, 1) := by decide +kernel
theorem dX11_passingAt_27 : decode cX11_passingAt 27 = .ok (.aaload, 1) := by decide +kernel
theorem dX11_passingAt_28 : decode cX11_passingAt 28 = .ok (.areturn, 1) := by decide +kernel
theorem dX11_canGoRound_0 : decode cX11_canGoRound 0 = .ok (.aload_n 0, 1) := by decide +kernel
theorem dX11_canGoRound_1 : decode cX11_canGoRound 1 = .ok (.getfield 10, 3) := by decide +kernel
theorem dX11_canGoRound_4 : decode cX11_canGoRound 4 = .ok (.iload_n 1, 1) := by decide +kernel
theorem dX11_canGoRound_5 : decode cX11_canGoRound 5 = .ok (.invokevirtual 100, 3) := by decide +kernel
theorem dX11_canGoRound_8 : decode cX11_canGoRound 8 = .ok (.ifCond .eq 19, 3) := by decide +kernel
theorem dX11_canGoRound_11 : decode cX11_canGoRound 11 = .ok (.iload_n 2, 1) := by decide +kernel
theorem dX11_canGoRound_12 : decode cX11_canGoRound 12 = .ok (.iload_n 3, 1) := by decide +kernel
theorem dX11_canGoRound_13 : decode cX11_canGoRound 13 = .ok (.invokestatic 114, 3) := by decide +kernel
theorem dX11_canGoRound_16 : decode cX11_canGoRound 16 = .ok (.ifCond .eq 11, 3) := by decide +kernel
theorem dX11_canGoRound_19 : decode cX11_canGoRound 19 = .ok (.iload 4, 2) := by decide +kernel
theorem dX11_canGoRound_21 : decode cX11_canGoRound 21 = .ok (.invokestatic 262, 3) := by decide +kernel
theorem dX11_canGoRound_24 : decode cX11_canGoRound 24 = .ok (.ifCond .ne 5, 3) := by decide +kernel
theorem dX11_canGoRound_27 : decode cX11_canGoRound 27 = .ok (.iconst 0, 1) := by decide +kernel
theorem dX11_canGoRound_28 : decode cX11_canGoRound 28 = .ok (.ireturn, 1) := by decide +kernel
theorem dX11_canGoRound_29 : decode cX11_canGoRound 29 = .ok (.aload_n 0, 1) := by decide +kernel
theorem dX11_canGoRound_30 : decode cX11_canGoRound 30 = .ok (.getfield 19, 3) := by decide +kernel
theorem dX11_canGoRound_33 : decode cX11_canGoRound 33 = .ok (.iload_n 1, 1) := by decide +kernel
theorem dX11_canGoRound_34 : decode cX11_canGoRound 34 = .ok (.iload_n 2, 1) := by decide +kernel
theorem dX11_canGoRound_35 : decode cX11_canGoRound 35 = .ok (.invokevirtual 118, 3) := by decide +kernel
theorem dX11_canGoRound_38 : decode cX11_canGoRound 38 = .ok (.ifCond .le 7, 3) := by decide +kernel
theorem dX11_canGoRound_41 : decode cX11_canGoRound 41 = .ok (.iconst 1, 1) := by decide +kernel
theorem dX11_canGoRound_42 : decode cX11_canGoRound 42 = .ok (.goto 4, 3) := by decide +kernel
theorem dX11_canGoRound_45 : decode cX11_canGoRound 45 = .ok (.iconst 0, 1) := by decide +kernel
theorem dX11_canGoRound_46 : decode cX11_canGoRound 46 = .ok (.ireturn, 1) := by decide +kernel
theorem dX11_isPerson_0 : decode cX11_isPerson 0 = .ok (.iload_n 0, 1) := by decide +kernel
theorem dX11_isPerson_1 : decode cX11_isPerson 1 = .ok (.ifCond .lt 13, 3) := by decide +kernel
theorem dX11_isPerson_4 : decode cX11_isPerson 4 = .ok (.iload_n 0, 1) := by decide +kernel
theorem dX11_isPerson_5 : decode cX11_isPerson 5 = .ok (.bipush 16, 2) := by decide +kernel
theorem dX11_isPerson_7 : decode cX11_isPerson 7 = .ok (.if_icmp .ge 7, 3) := by decide +kernel
theorem dX11_isPerson_10 : decode cX11_isPerson 10 = .ok (.iconst 1, 1) := by decide +kernel
theorem dX11_isPerson_11 : decode cX11_isPerson 11 = .ok (.goto 4, 3) := by decide +kernel
theorem dX11_isPerson_14 : decode cX11_isPerson 14 = .ok (.iconst 0, 1) := by decide +kernel
theorem dX11_isPerson_15 : decode cX11_isPerson 15 = .ok (.ireturn, 1) := by decide +kernel
theorem dX11_areTwoPeople_0 : decode cX11_areTwoPeople 0 = .ok (.iload_n 0, 1) := by decide +kernel
theorem dX11_areTwoPeople_1 : decode cX11_areTwoPeople 1 = .ok (.invokestatic 96, 3) := by decide +kernel
theorem dX11_areTwoPeople_4 : decode cX11_areTwoPeople 4 = .ok (.ifCond .eq 19, 3) := by decide +kernel
theorem dX11_areTwoPeople_7 : decode cX11_areTwoPeople 7 = .ok (.iload_n 1, 1) := by decide +kernel
theorem dX11_areTwoPeople_8 : decode cX11_areTwoPeople 8 = .ok (.invokestatic 96, 3) := by decide +kernel
theorem dX11_areTwoPeople_11 : decode cX11_areTwoPeople 11 = .ok (.ifCond .eq 12, 3) := by decide +kernel
theorem dX11_areTwoPeople_14 : decode cX11_areTwoPeople 14 = .ok (.iload_n 0, 1) := by decide +kernel
theorem dX11_areTwoPeople_15 : decode cX11_areTwoPeople 15 = .ok (.iload_n 1, 1) := by decide +kernel
theorem dX11_areTwoPeople_16 : decode cX11_areTwoPeople 16 = .ok (.if_icmp .eq 7, 3) := by decide +kernel
theorem dX11_areTwoPeople_19 : decode cX11_areTwoPeople 19 = .ok (.iconst 1, 1) := by decide +kernel
theorem dX11_areTwoPeople_20 : decode cX11_areTwoPeople 20 = .ok (.goto 4, 3) := by decide +kernel
theorem dX11_areTwoPeople_23 : decode cX11_areTwoPeople 23 = .ok (.iconst 0, 1) := by decide +kernel
theorem dX11_areTwoPeople_24 : decode cX11_areTwoPeople 24 = .ok (.ireturn, 1) := by decide +kernel
theorem dX11_isPrice_0 : decode cX11_isPrice 0 = .ok (.iload_n 0, 1) := by decide +kernel
theorem dX11_isPrice_1 : decode cX11_isPrice 1 = .ok (.ifCond .lt 14, 3) := by decide +kernel
theorem dX11_isPrice_4 : decode cX11_isPrice 4 = .ok (.iload_n 0, 1) := by decide +kernel
theorem dX11_isPrice_5 : decode cX11_isPrice 5 = .ok (.sipush 9999, 3) := by decide +kernel
theorem dX11_isPrice_8 : decode cX11_isPrice 8 = .ok (.if_icmp .gt 7, 3) := by decide +kernel
theorem dX11_isPrice_11 : decode cX11_isPrice 11 = .ok (.iconst 1, 1) := by decide +kernel
theorem dX11_isPrice_12 : decode cX11_isPrice 12 = .ok (.goto 4, 3) := by decide +kernel
theorem dX11_isPrice_15 : decode cX11_isPrice 15 = .ok (.iconst 0, 1) := by decide +kernel
theorem dX11_isPrice_16 : decode cX11_isPrice 16 = .ok (.ireturn, 1) := by decide +kernel
theorem dX11_isEach_0 : decode cX11_isEach 0 = .ok (.iload_n 0, 1) := by decide +kernel
theorem dX11_isEach_1 : decode cX11_isEach 1 = .ok (.ifCond .lt 14, 3) := by decide +kernel
theorem dX11_isEach_4 : decode cX11_isEach 4 = .ok (.iload_n 0, 1) := by decide +kernel
theorem dX11_isEach_5 : decode cX11_isEach 5 = .ok (.sipush 800, 3) := by decide +kernel
theorem dX11_isEach_8 : decode cX11_isEach 8 = .ok (.if_icmp .gt 7, 3) := by decide +kernel
theorem dX11_isEach_11 : decode cX11_isEach 11 = .ok (.iconst 1, 1) := by decide +kernel
theorem dX11_isEach_12 : decode cX11_isEach 12 = .ok (.goto 4, 3) := by decide +kernel
theorem dX11_isEach_15 : decode cX11_isEach 15 = .ok (.iconst 0, 1) := by decide +kernel
theorem dX11_isEach_16 : decode cX11_isEach 16 = .ok (.ireturn, 1) := by decide +kernel
theorem dX11_withBit_0 : decode cX11_withBit 0 = .ok (.iload_n 2, 1) := by decide +kernel
theorem dX11_withBit_1 : decode cX11_withBit 1 = .ok (.ifCond .eq 11, 3) := by decide +kernel
theorem dX11_withBit_4 : decode cX11_withBit 4 = .ok (.iload_n 0, 1) := by decide +kernel
theorem dX11_withBit_5 : decode cX11_withBit 5 = .ok (.iconst 1, 1) := by decide +kernel
theorem dX11_withBit_6 : decode cX11_withBit 6 = .ok (.iload_n 1, 1) := by decide +kernel
theorem dX11_withBit_7 : decode cX11_withBit 7 = .ok (.ishl, 1) := by decide +kernel
theorem dX11_withBit_8 : decode cX11_withBit 8 = .ok (.ior, 1) := by decide +kernel
theorem dX11_withBit_9 : decode cX11_withBit 9 = .ok (.goto 10, 3) := by decide +kernel
theorem dX11_withBit_12 : decode cX11_withBit 12 = .ok (.iload_n 0, 1) := by decide +kernel
theorem dX11_withBit_13 : decode cX11_withBit 13 = .ok (.iconst 1, 1) := by decide +kernel
theorem dX11_withBit_14 : decode cX11_withBit 14 = .ok (.iload_n 1, 1) := by decide +kernel
theorem dX11_withBit_15 : decode cX11_withBit 15 = .ok (.ishl, 1) := by decide +kernel
theorem dX11_withBit_16 : decode cX11_withBit 16 = .ok (.iconst (-1), 1) := by decide +kernel
theorem dX11_withBit_17 : decode cX11_withBit 17 = .ok (.ixor, 1) := by decide +kernel
theorem dX11_withBit_18 : decode cX11_withBit 18 = .ok (.iand, 1) := by decide +kernel
theorem dX11_withBit_19 : decode cX11_withBit 19 = .ok (.ireturn, 1) := by decide +kernel
theorem dX12_init_0 : decode cX12_init 0 = .ok (.aload_n 0, 1) := by decide +kernel
theorem dX12_init_1 : decode cX12_init 1 = .ok (.invokespecial 1, 3) := by decide +kernel
theorem dX12_init_4 : decode cX12_init 4 = .ok (.aload_n 0, 1) := by decide +kernel
theorem dX12_init_5 : decode cX12_init 5 = .ok (.bipush 12, 2) := by decide +kernel
theorem dX12_init_7 : decode cX12_init 7 = .ok (.newarray .boolean, 2) := by decide +kernel
theorem dX12_init_9 : decode cX12_init 9 = .ok (.putfield 7, 3) := by decide +kernel
theorem dX12_init_12 : decode cX12_init 12 = .ok (.aload_n 0, 1) := by decide +kernel
theorem dX12_init_13 : decode cX12_init 13 = .ok (.sipush 192, 3) := by decide +kernel
theorem dX12_init_16 : decode cX12_init 16 = .ok (.newarray .int, 2) := by decide +kernel
theorem dX12_init_18 : decode cX12_init 18 = .ok (.putfield 13, 3) := by decide +kernel
theorem dX12_init_21 : decode cX12_init 21 = .ok (.aload_n 0, 1) := by decide +kernel
theorem dX12_init_22 : decode cX12_init 22 = .ok (.sipush 144, 3) := by decide +kernel
theorem dX12_init_25 : decode cX12_init 25 = .ok (.newarray .int, 2) := by decide +kernel
theorem dX12_init_27 : decode cX12_init 27 = .ok (.putfield 17, 3) := by decide +kernel
theorem dX12_init_30 : decode cX12_init 30 = .ok (.aload_n 0, 1) := by decide +kernel
theorem dX12_init_31 : decode cX12_init 31 = .ok (.sipush 144, 3) := by decide +kernel
theorem dX12_init_34 : decode cX12_init 34 = .ok (.newarray .boolean, 2) := by decide +kernel
theorem dX12_init_36 : decode cX12_init 36 = .ok (.putfield 20, 3) := by decide +kernel
theorem dX12_init_39 : decode cX12_init 39 = .ok (.aload_n 0, 1) := by decide +kernel
theorem dX12_init_40 : decode cX12_init 40 = .ok (.sipush 256, 3) := by decide +kernel
theorem dX12_init_43 : decode cX12_init 43 = .ok (.newarray .int, 2) := by decide +kernel
theorem dX12_init_45 : decode cX12_init 45 = .ok (.putfield 23, 3) := by decide +kernel
theorem dX12_init_48 : decode cX12_init 48 = .ok (.aload_n 0, 1) := by decide +kernel
theorem dX12_init_49 : decode cX12_init 49 = .ok (.bipush 16, 2) := by decide +kernel
theorem dX12_init_51 : decode cX12_init 51 = .ok (.newarray .boolean, 2) := by decide +kernel
theorem dX12_init_53 : decode cX12_init 53 = .ok (.putfield 26, 3) := by decide +kernel
theorem dX12_init_56 : decode cX12_init 56 = .ok (.aload_n 0, 1) := by decide +kernel
theorem dX12_init_57 : decode cX12_init 57 = .ok (.bipush 16, 2) := by decide +kernel
theorem dX12_init_59 : decode cX12_init 59 = .ok (.newarray .boolean, 2) := by decide +kernel
theorem dX12_init_61 : decode cX12_init 61 = .ok (.putfield 29, 3) := by decide +kernel
theorem dX12_init_64 : decode cX12_init 64 = .ok (.aload_n 0, 1) := by decide +kernel
theorem dX12_init_65 : decode cX12_init 65 = .ok (.sipush 1000, 3) := by decide +kernel
theorem dX12_init_68 : decode cX12_init 68 = .ok (.newarray .int, 2) := by decide +kernel
theorem dX12_init_70 : decode cX12_init 70 = .ok (.putfield 32, 3) := by decide +kernel
theorem dX12_init_73 : decode cX12_init 73 = .ok (.aload_n 0, 1) := by decide +kernel
theorem dX12_init_74 : decode cX12_init 74 = .ok (.bipush 36, 2) := by decide +kernel
theorem dX12_init_76 : decode cX12_init 76 = .ok (.newarray .int, 2) := by decide +kernel
theorem dX12_init_78 : decode cX12_init 78 = .ok (.putfield 35, 3) := by decide +kernel
theorem dX12_init_81 : decode cX12_init 81 = .ok (.aload_n 0, 1) := by decide +kernel
theorem dX12_init_82 : decode cX12_init 82 = .ok (.bipush 36, 2) := by decide +kernel
theorem dX12_init_84 : decode cX12_init 84 = .ok (.newarray .boolean, 2) := by decide +kernel
theorem dX12_init_86 : decode cX12_init 86 = .ok (.putfield 38, 3) := by decide +kernel
theorem dX12_init_89 : decode cX12_init 89 = .ok (.aload_n 0, 1) := by decide +kernel
theorem dX12_init_90 : decode cX12_init 90 = .ok (.bipush 36, 2) := by decide +kernel
theorem dX12_init_92 : decode cX12_init 92 = .ok (.newarray .int, 2) := by decide +kernel
theorem dX12_init_94 : decode cX12_init 94 = .ok (.putfield 41, 3) := by decide +kernel
theorem dX12_init_97 : decode cX12_init 97 = .ok (.aload_n 0, 1) := by decide +kernel
theorem dX12_init_98 : decode cX12_init 98 = .ok (.bipush 36, 2) := by decide +kernel
theorem dX12_init_100 : decode cX12_init 100 = .ok (.newarray .int, 2) := by decide +kernel
theorem dX12_init_102 : decode cX12_init 102 = .ok (.putfield 44, 3) := by decide +kernel
theorem dX12_init_105 : decode cX12_init 105 = .ok (.aload_n 0, 1) := by decide +kernel
theorem dX12_init_106 : decode cX12_init 106 = .ok (.bipush 36, 2) := by decide +kernel
theorem dX12_init_108 : decode cX12_init 108 = .ok (.newarray .int, 2) := by decide +kernel
theorem dX12_init_110 : decode cX12_init 110 = .ok (.putfield 47, 3) := by decide +kernel
theorem dX12_init_113 : decode cX12_init 113 = .ok (.aload_n 0, 1) := by decide +kernel
theorem dX12_init_114 : decode cX12_init 114 = .ok (.bipush 36, 2) := by decide +kernel
theorem dX12_init_116 : decode cX12_init 116 = .ok (.newarray .boolean, 2) := by decide +kernel
theorem dX12_init_118 : decode cX12_init 118 = .ok (.putfield 50, 3) := by decide +kernel
theorem dX12_init_121 : decode cX12_init 121 = .ok (.aload_n 0, 1) := by decide +kernel
theorem dX12_init_122 : decode cX12_init 122 = .ok (.bipush 36, 2) := by decide +kernel
theorem dX12_init_124 : decode cX12_init 124 = .ok (.newarray .int, 2) := by decide +kernel
theorem dX12_init_126 : decode cX12_init 126 = .ok (.putfield 53, 3) := by decide +kernel
theorem dX12_init_129 : decode cX12_init 129 = .ok (.aload_n 0, 1) := by decide +kernel
theorem dX12_init_130 : decode cX12_init 130 = .ok (.bipush 36, 2) := by decide +kernel
theorem dX12_init_132 : decode cX12_init 132 = .ok (.newarray .int, 2) := by decide +kernel
theorem dX12_init_134 : decode cX12_init 134 = .ok (.putfield 56, 3) := by decide +kernel
theorem dX12_init_137 : decode cX12_init 137 = .ok (.aload_n 0, 1) := by decide +kernel
theorem dX12_init_138 : decode cX12_init 138 = .ok (.sipush 2000, 3) := by decide +kernel
theorem dX12_init_141 : decode cX12_init 141 = .ok (.newarray .int, 2) := by decide +kernel
theorem dX12_init_143 : decode cX12_init 143 = .ok (.putfield 59, 3) := by decide +kernel
theorem dX12_init_146 : decode cX12_init 146 = .ok (.aload_n 0, 1) := by decide +kernel
theorem dX12_init_147 : decode cX12_init 147 = .ok (.bipush 7, 2) := by decide +kernel
theorem dX12_init_149 : decode cX12_init 149 = .ok (.newarray .int, 2) := by decide +kernel
theorem dX12_init_151 : decode cX12_init 151 = .ok (.putfield 62, 3) := by decide +kernel
theorem dX12_init_154 : decode cX12_init 154 = .ok (.aload_n 0, 1) := by decide +kernel
theorem dX12_init_155 : decode cX12_init 155 = .ok (.bipush 7, 2) := by decide +kernel
theorem dX12_init_157 : decode cX12_init 157 = .ok (.newarray .boolean, 2) := by decide +kernel
theorem dX12_init_159 : decode cX12_init 159 = .ok (.putfield 65, 3) := by decide +kernel
theorem dX12_init_162 : decode cX12_init 162 = .ok (.aload_n 0, 1) := by decide +kernel
theorem dX12_init_163 : decode cX12_init 163 = .ok (.bipush 7, 2) := by decide +kernel
theorem dX12_init_165 : decode cX12_init 165 = .ok (.newarray .int, 2) := by decide +kernel
theorem dX12_init_167 : decode cX12_init 167 = .ok (.putfield 68, 3) := by decide +kernel
theorem dX12_init_170 : decode cX12_init 170 = .ok (.aload_n 0, 1) := by decide +kernel
theorem dX12_init_171 : decode cX12_init 171 = .ok (.bipush 7, 2) := by decide +kernel
theorem dX12_init_173 : decode cX12_init 173 = .ok (.newarray .int, 2) := by decide +kernel
theorem dX12_init_175 : decode cX12_init 175 = .ok (.putfield 71, 3) := by decide +kernel
theorem dX12_init_178 : decode cX12_init 178 = .ok (.aload_n 0, 1) := by decide +kernel
theorem dX12_init_179 : decode cX12_init 179 = .ok (.bipush 7, 2) := by decide +kernel
theorem dX12_init_181 : decode cX12_init 181 = .ok (.newarray .int, 2) := by decide +kernel
theorem dX12_init_183 : decode cX12_init 183 = .ok (.putfield 74, 3) := by decide +kernel
theorem dX12_init_186 : decode cX12_init 186 = .ok (.aload_n 0, 1) := by decide +kernel
theorem dX12_init_187 : decode cX12_init 187 = .ok (.bipush 7, 2) := by decide +kernel
theorem dX12_init_189 : decode cX12_init 189 = .ok (.newarray .int, 2) := by decide +kernel
theorem dX12_init_191 : decode cX12_init 191 = .ok (.putfield 77, 3) := by decide +kernel
theorem dX12_init_194 : decode cX12_init 194 = .ok (.aload_n 0, 1) := by decide +kernel
theorem dX12_init_195 : decode cX12_init 195 = .ok (.bipush 7, 2) := by decide +kernel
theorem dX12_init_197 : decode cX12_init 197 = .ok (.newarray .int, 2) := by decide +kernel
theorem dX12_init_199 : decode cX12_init 199 = .ok (.putfield 80, 3) := by decide +kernel
theorem dX12_init_202 : decode cX12_init 202 = .ok (.aload_n 0, 1) := by decide +kernel
theorem dX12_init_203 : decode cX12_init 203 = .ok (.bipush 7, 2) := by decide +kernel
theorem dX12_init_205 : decode cX12_init 205 = .ok (.newarray .int, 2) := by decide +kernel
theorem dX12_init_207 : decode cX12_init 207 = .ok (.putfield 83, 3) := by decide +kernel
theorem dX12_init_210 : decode cX12_init 210 = .ok (.aload_n 0, 1) := by decide +kernel
theorem dX12_init_211 : decode cX12_init 211 = .ok (.bipush 7, 2) := by decide +kernel
theorem dX12_init_213 : decode cX12_init 213 = .ok (.newarray .int, 2) := by decide +kernel
theorem dX12_init_215 : decode cX12_init 215 = .ok (.putfield 86, 3) := by decide +kernel
theorem dX12_init_218 : decode cX12_init 218 = .ok (.aload_n 0, 1) := by decide +kernel
theorem dX12_init_219 : decode cX12_init 219 = .ok (.bipush 7, 2) := by decide +kernel
theorem dX12_init_221 : decode cX12_init 221 = .ok (.newarray .int, 2) := by decide +kernel
theorem dX12_init_223 : decode cX12_init 223 = .ok (.putfield 89, 3) := by decide +kernel
theorem dX12_init_226 : decode cX12_init 226 = .ok (.aload_n 0, 1) := by decide +kernel
theorem dX12_init_227 : decode cX12_init 227 = .ok (.bipush 7, 2) := by decide +kernel
theorem dX12_init_229 : decode cX12_init 229 = .ok (.newarray .int, 2) := by decide +kernel
theorem dX12_init_231 : decode cX12_init 231 = .ok (.putfield 92, 3) := by decide +kernel
theorem dX12_init_234 : decode cX12_init 234 = .ok (.aload_n 0, 1) := by decide +kernel
theorem dX12_init_235 : decode cX12_init 235 = .ok (.bipush 20, 2) := by decide +kernel
theorem dX12_init_237 : decode cX12_init 237 = .ok (.newarray .int, 2) := by decide +kernel
theorem dX12_init_239 : decode cX12_init 239 = .ok (.putfield 95, 3) := by decide +kernel
theorem dX12_init_242 : decode cX12_init 242 = .ok (.aload_n 0, 1) := by decide +kernel
theorem dX12_init_243 : decode cX12_init 243 = .ok (.bipush 40, 2) := by decide +kernel
theorem dX12_init_245 : decode cX12_init 245 = .ok (.newarray .int, 2) := by decide +kernel
theorem dX12_init_247 : decode cX12_init 247 = .ok (.putfield 98, 3) := by decide +kernel
theorem dX12_init_250 : decode cX12_init 250 = .ok (.aload_n 0, 1) := by decide +kernel
theorem dX12_init_251 : decode cX12_init 251 = .ok (.bipush 40, 2) := by decide +kernel
theorem dX12_init_253 : decode cX12_init 253 = .ok (.newarray .int, 2) := by decide +kernel
theorem dX12_init_255 : decode cX12_init 255 = .ok (.putfield 101, 3) := by decide +kernel
theorem dX12_init_258 : decode cX12_init 258 = .ok (.aload_n 0, 1) := by decide +kernel
theorem dX12_init_259 : decode cX12_init 259 = .ok (.bipush 40, 2) := by decide +kernel
theorem dX12_init_261 : decode cX12_init 261 = .ok (.newarray .int, 2) := by decide +kernel
theorem dX12_init_263 : decode cX12_init 263 = .ok (.putfield 104, 3) := by decide +kernel
theorem dX12_init_266 : decode cX12_init 266 = .ok (.aload_n 0, 1) := by decide +kernel
theorem dX12_init_267 : decode cX12_init 267 = .ok (.bipush 40, 2) := by decide +kernel
theorem dX12_init_269 : decode cX12_init 269 = .ok (.newarray .int, 2) := by decide +kernel
theorem dX12_init_271 : decode cX12_init 271 = .ok (.putfield 107, 3) := by decide +kernel
theorem dX12_init_274 : decode cX12_init 274 = .ok (.aload_n 0, 1) := by decide +kernel
theorem dX12_init_275 : decode cX12_init 275 = .ok (.bipush 40, 2) := by decide +kernel
theorem dX12_init_277 : decode cX12_init 277 = .ok (.newarray .int, 2) := by decide +kernel
theorem dX12_init_279 : decode cX12_init 279 = .ok (.putfield 110, 3) := by decide +kernel
theorem dX12_init_282 : decode cX12_init 282 = .ok (.aload_n 0, 1) := by decide +kernel
theorem dX12_init_283 : decode cX12_init 283 = .ok (.bipush 40, 2) := by decide +kernel
theorem dX12_init_285 : decode cX12_init 285 = .ok (.newarray .int, 2) := by decide +kernel
theorem dX12_init_287 : decode cX12_init 287 = .ok (.putfield 113, 3) := by decide +kernel
theorem dX12_init_290 : decode cX12_init 290 = .ok (.aload_n 0, 1) := by decide +kernel
theorem dX12_init_291 : decode cX12_init 291 = .ok (.bipush 40, 2) := by decide +kernel
theorem dX12_init_293 : decode cX12_init 293 = .ok (.newarray .int, 2) := by decide +kernel
theorem dX12_init_295 : decode cX12_init 295 = .ok (.putfield 116, 3) := by decide +kernel
theorem dX12_init_298 : decode cX12_init 298 = .ok (.aload_n 0, 1) := by decide +kernel
theorem dX12_init_299 : decode cX12_init 299 = .ok (.bipush 40, 2) := by decide +kernel
theorem dX12_init_301 : decode cX12_init 301 = .ok (.newarray .int, 2) := by decide +kernel
theorem dX12_init_303 : decode cX12_init 303 = .ok (.putfield 119, 3) := by decide +kernel
theorem dX12_init_306 : decode cX12_init 306 = .ok (.aload_n 0, 1) := by decide +kernel
theorem dX12_init_307 : decode cX12_init 307 = .ok (.bipush 40, 2) := by decide +kernel
theorem dX12_init_309 : decode cX12_init 309 = .ok (.newarray .boolean, 2) := by decide +kernel
theorem dX12_init_311 : decode cX12_init 311 = .ok (.putfield 122, 3) := by decide +kernel
theorem dX12_init_314 : decode cX12_init 314 = .ok (.aload_n 0, 1) := by decide +kernel
theorem dX12_init_315 : decode cX12_init 315 = .ok (.bipush 40, 2) := by decide +kernel
theorem dX12_init_317 : decode cX12_init 317 = .ok (.newarray .int, 2) := by decide +kernel
theorem dX12_init_319 : decode cX12_init 319 = .ok (.putfield 125, 3) := by decide +kernel
theorem dX12_init_322 : decode cX12_init 322 = .ok (.aload_n 0, 1) := by decide +kernel
theorem dX12_init_323 : decode cX12_init 323 = .ok (.bipush 40, 2) := by decide +kernel
theorem dX12_init_325 : decode cX12_init 325 = .ok (.newarray .int, 2) := by decide +kernel
theorem dX12_init_327 : decode cX12_init 327 = .ok (.putfield 128, 3) := by decide +kernel
theorem dX12_init_330 : decode cX12_init 330 = .ok (.aload_n 0, 1) := by decide +kernel
theorem dX12_init_331 : decode cX12_init 331 = .ok (.bipush 40, 2) := by decide +kernel
theorem dX12_init_333 : decode cX12_init 333 = .ok (.newarray .boolean, 2) := by decide +kernel
theorem dX12_init_335 : decode cX12_init 335 = .ok (.putfield 131, 3) := by decide +kernel
theorem dX12_init_338 : decode cX12_init 338 = .ok (.aload_n 0, 1) := by decide +kernel
theorem dX12_init_339 : decode cX12_init 339 = .ok (.bipush 40, 2) := by decide +kernel
theorem dX12_init_341 : decode cX12_init 341 = .ok (.newarray .boolean, 2) := by decide +kernel
theorem dX12_init_343 : decode cX12_init 343 = .ok (.putfield 134, 3) := by decide +kernel
theorem dX12_init_346 : decode cX12_init 346 = .ok (.aload_n 0, 1) := by decide +kernel
theorem dX12_init_347 : decode cX12_init 347 = .ok (.sipush 640, 3) := by decide +kernel
theorem dX12_init_350 : decode cX12_init 350 = .ok (.newarray .int, 2) := by decide +kernel
theorem dX12_init_352 : decode cX12_init 352 = .ok (.putfield 137, 3) := by decide +kernel
theorem dX12_init_355 : decode cX12_init 355 = .ok (.aload_n 0, 1) := by decide +kernel
theorem dX12_init_356 : decode cX12_init 356 = .ok (.sipush 640, 3) := by decide +kernel
theorem dX12_init_359 : decode cX12_init 359 = .ok (.newarray .int, 2) := by decide +kernel
theorem dX12_init_361 : decode cX12_init 361 = .ok (.putfield 140, 3) := by decide +kernel
theorem dX12_init_364 : decode cX12_init 364 = .ok (.aload_n 0, 1) := by decide +kernel
theorem dX12_init_365 : decode cX12_init 365 = .ok (.sipush 640, 3) := by decide +kernel
theorem dX12_init_368 : decode cX12_init 368 = .ok (.newarray .int, 2) := by decide +kernel
theorem dX12_init_370 : decode cX12_init 370 = .ok (.putfield 143, 3) := by decide +kernel
theorem dX12_init_373 : decode cX12_init 373 = .ok (.aload_n 0, 1) := by decide +kernel
theorem dX12_init_374 : decode cX12_init 374 = .ok (.sipush 640, 3) := by decide +kernel
theorem dX12_init_377 : decode cX12_init 377 = .ok (.newarray .int, 2) := by decide +kernel
theorem dX12_init_379 : decode cX12_init 379 = .ok (.putfield 146, 3) := by decide +kernel
theorem dX12_init_382 : decode cX12_init 382 = .ok (.aload_n 0, 1) := by decide +kernel
theorem dX12_init_383 : decode cX12_init 383 = .ok (.sipush 640, 3) := by decide +kernel
theorem dX12_init_386 : decode cX12_init 386 = .ok (.newarray .boolean, 2) := by decide +kernel
theorem dX12_init_388 : decode cX12_init 388 = .ok (.putfield 149, 3) := by decide +kernel
theorem dX12_init_391 : decode cX12_init 391 = .ok (.aload_n 0, 1) := by decide +kernel
theorem dX12_init_392 : decode cX12_init 392 = .ok (.sipush 169, 3) := by decide +kernel
theorem dX12_init_395 : decode cX12_init 395 = .ok (.newarray .int, 2) := by decide +kernel
theorem dX12_init_397 : decode cX12_init 397 = .ok (.putfield 152, 3) := by decide +kernel
theorem dX12_init_400 : decode cX12_init 400 = .ok (.aload_n 0, 1) := by decide +kernel
theorem dX12_init_401 : decode cX12_init 401 = .ok (.sipush 169, 3) := by decide +kernel
theorem dX12_init_404 : decode cX12_init 404 = .ok (.newarray .int, 2) := by decide +kernel
theorem dX12_init_406 : decode cX12_init 406 = .ok (.putfield 155, 3) := by decide +kernel
theorem dX12_init_409 : decode cX12_init 409 = .ok (.aload_n 0, 1) := by decide +kernel
theorem dX12_init_410 : decode cX12_init 410 = .ok (.sipush 169, 3) := by decide +kernel
theorem dX12_init_413 : decode cX12_init 413 = .ok (.newarray .int, 2) := by decide +kernel
theorem dX12_init_415 : decode cX12_init 415 = .ok (.putfield 158, 3) := by decide +kernel
theorem dX12_init_418 : decode cX12_init 418 = .ok (.aload_n 0, 1) := by decide +kernel
theorem dX12_init_419 : decode cX12_init 419 = .ok (.sipush 169, 3) := by decide +kernel
theorem dX12_init_422 : decode cX12_init 422 = .ok (.newarray .int, 2) := by decide +kernel
theorem dX12_init_424 : decode cX12_init 424 = .ok (.putfield 161, 3) := by decide +kernel
theorem dX12_init_427 : decode cX12_init 427 = .ok (.aload_n 0, 1) := by decide +kernel
theorem dX12_init_428 : decode cX12_init 428 = .ok (.sipush 169, 3) := by decide +kernel
theorem dX12_init_431 : decode cX12_init 431 = .ok (.newarray .boolean, 2) := by decide +kernel
theorem dX12_init_433 : decode cX12_init 433 = .ok (.putfield 164, 3) := by decide +kernel
theorem dX12_init_436 : decode cX12_init 436 = .ok (.aload_n 0, 1) := by decide +kernel
theorem dX12_init_437 : decode cX12_init 437 = .ok (.sipush 4096, 3) := by decide +kernel
theorem dX12_init_440 : decode cX12_init 440 = .ok (.newarray .boolean, 2) := by decide +kernel
theorem dX12_init_442 : decode cX12_init 442 = .ok (.putfield 167, 3) := by decide +kernel
theorem dX12_init_445 : decode cX12_init 445 = .ok (.aload_n 0, 1) := by decide +kernel
theorem dX12_init_446 : decode cX12_init 446 = .ok (.bipush 12, 2) := by decide +kernel
theorem dX12_init_448 : decode cX12_init 448 = .ok (.newarray .int, 2) := by decide +kernel
theorem dX12_init_450 : decode cX12_init 450 = .ok (.putfield 170, 3) := by decide +kernel
theorem dX12_init_453 : decode cX12_init 453 = .ok (.aload_n 0, 1) := by decide +kernel
theorem dX12_init_454 : decode cX12_init 454 = .ok (.bipush 6, 2) := by decide +kernel
theorem dX12_init_456 : decode cX12_init 456 = .ok (.newarray .int, 2) := by decide +kernel
theorem dX12_init_458 : decode cX12_init 458 = .ok (.putfield 173, 3) := by decide +kernel
theorem dX12_init_461 : decode cX12_init 461 = .ok (.aload_n 0, 1) := by decide +kernel
theorem dX12_init_462 : decode cX12_init 462 = .ok (.bipush 6, 2) := by decide +kernel
theorem dX12_init_464 : decode cX12_init 464 = .ok (.newarray .int, 2) := by decide +kernel
theorem dX12_init_466 : decode cX12_init 466 = .ok (.putfield 176, 3) := by decide +kernel
theorem dX12_init_469 : decode cX12_init 469 = .ok (.aload_n 0, 1) := by decide +kernel
theorem dX12_init_470 : decode cX12_init 470 = .ok (.bipush 6, 2) := by decide +kernel
theorem dX12_init_472 : decode cX12_init 472 = .ok (.newarray .int, 2) := by decide +kernel
theorem dX12_init_474 : decode cX12_init 474 = .ok (.putfield 179, 3) := by decide +kernel
theorem dX12_init_477 : decode cX12_init 477 = .ok (.aload_n 0, 1) := by decide +kernel
theorem dX12_init_478 : decode cX12_init 478 = .ok (.bipush 6, 2) := by decide +kernel
theorem dX12_init_480 : decode cX12_init 480 = .ok (.newarray .int, 2) := by decide +kernel
theorem dX12_init_482 : decode cX12_init 482 = .ok (.putfield 182, 3) := by decide +kernel
theorem dX12_init_485 : decode cX12_init 485 = .ok (.aload_n 0, 1) := by decide +kernel
theorem dX12_init_486 : decode cX12_init 486 = .ok (.bipush 6, 2) := by decide +kernel
theorem dX12_init_488 : decode cX12_init 488 = .ok (.newarray .int, 2) := by decide +kernel
theorem dX12_init_490 : decode cX12_init 490 = .ok (.putfield 185, 3) := by decide +kernel
theorem dX12_init_493 : decode cX12_init 493 = .ok (.aload_n 0, 1) := by decide +kernel
theorem dX12_init_494 : decode cX12_init 494 = .ok (.bipush 6, 2) := by decide +kernel
theorem dX12_init_496 : decode cX12_init 496 = .ok (.newarray .int, 2) := by decide +kernel
theorem dX12_init_498 : decode cX12_init 498 = .ok (.putfield 188, 3) := by decide +kernel
theorem dX12_init_501 : decode cX12_init 501 = .ok (.aload_n 0, 1) := by decide +kernel
theorem dX12_init_502 : decode cX12_init 502 = .ok (.iconst 4, 1) := by decide +kernel
theorem dX12_init_503 : decode cX12_init 503 = .ok (.newarray .int, 2) := by decide +kernel
theorem dX12_init_505 : decode cX12_init 505 = .ok (.putfield 191, 3) := by decide +kernel
theorem dX12_init_508 : decode cX12_init 508 = .ok (.aload_n 0, 1) := by decide +kernel
theorem dX12_init_509 : decode cX12_init 509 = .ok (.bipush 48, 2) := by decide +kernel
theorem dX12_init_511 : decode cX12_init 511 = .ok (.newarray .boolean, 2) := by decide +kernel
theorem dX12_init_513 : decode cX12_init 513 = .ok (.putfield 194, 3) := by decide +kernel
theorem dX12_init_516 : decode cX12_init 516 = .ok (.aload_n 0, 1) := by decide +kernel
theorem dX12_init_517 : decode cX12_init 517 = .ok (.sipush 768, 3) := by decide +kernel
theorem dX12_init_520 : decode cX12_init 520 = .ok (.newarray .int, 2) := by decide +kernel
theorem dX12_init_522 : decode cX12_init 522 = .ok (.putfield 197, 3) := by decide +kernel
theorem dX12_init_525 : decode cX12_init 525 = .ok (.aload_n 0, 1) := by decide +kernel
theorem dX12_init_526 : decode cX12_init 526 = .ok (.iconst 4, 1) := by decide +kernel
theorem dX12_init_527 : decode cX12_init 527 = .ok (.newarray .int, 2) := by decide +kernel
theorem dX12_init_529 : decode cX12_init 529 = .ok (.putfield 200, 3) := by decide +kernel
theorem dX12_init_532 : decode cX12_init 532 = .ok (.aload_n 0, 1) := by decide +kernel
theorem dX12_init_533 : decode cX12_init 533 = .ok (.iconst 4, 1) := by decide +kernel
theorem dX12_init_534 : decode cX12_init 534 = .ok (.newarray .int, 2) := by decide +kernel
theorem dX12_init_536 : decode cX12_init 536 = .ok (.putfield 203, 3) := by decide +kernel
theorem dX12_init_539 : decode cX12_init 539 = .ok (.aload_n 0, 1) := by decide +kernel
theorem dX12_init_540 : decode cX12_init 540 = .ok (.sipush 2560, 3) := by decide +kernel
theorem dX12_init_543 : decode cX12_init 543 = .ok (.newarray .int, 2) := by decide +kernel
theorem dX12_init_545 : decode cX12_init 545 = .ok (.putfield 206, 3) := by decide +kernel
theorem dX12_init_548 : decode cX12_init 548 = .ok (.aload_n 0, 1) := by decide +kernel
theorem dX12_init_549 : decode cX12_init 549 = .ok (.sipush 2560, 3) := by decide +kernel
theorem dX12_init_552 : decode cX12_init 552 = .ok (.newarray .boolean, 2) := by decide +kernel
theorem dX12_init_554 : decode cX12_init 554 = .ok (.putfield 209, 3) := by decide +kernel
theorem dX12_init_557 : decode cX12_init 557 = .ok (.aload_n 0, 1) := by decide +kernel
theorem dX12_init_558 : decode cX12_init 558 = .ok (.sipush 160, 3) := by decide +kernel
theorem dX12_init_561 : decode cX12_init 561 = .ok (.newarray .int, 2) := by decide +kernel
theorem dX12_init_563 : decode cX12_init 563 = .ok (.putfield 212, 3) := by decide +kernel
theorem dX12_init_566 : decode cX12_init 566 = .ok (.aload_n 0, 1) := by decide +kernel
theorem dX12_init_567 : decode cX12_init 567 = .ok (.sipush 160, 3) := by decide +kernel
theorem dX12_init_570 : decode cX12_init 570 = .ok (.newarray .int, 2) := by decide +kernel
theorem dX12_init_572 : decode cX12_init 572 = .ok (.putfield 215, 3) := by decide +kernel
theorem dX12_init_575 : decode cX12_init 575 = .ok (.iconst 0, 1) := by decide +kernel
theorem dX12_init_576 : decode cX12_init 576 = .ok (.istore_n 1, 1) := by decide +kernel
theorem dX12_init_577 : decode cX12_init 577 = .ok (.iload_n 1, 1) := by decide +kernel
theorem dX12_init_578 : decode cX12_init 578 = .ok (.bipush 16, 2) := by decide +kernel
theorem dX12_init_580 : decode cX12_init 580 = .ok (.if_icmp .ge 16, 3) := by decide +kernel
theorem dX12_init_583 : decode cX12_init 583 = .ok (.aload_n 0, 1) := by decide +kernel
theorem dX12_init_584 : decode cX12_init 584 = .ok (.getfield 29, 3) := by decide +kernel
theorem dX12_init_587 : decode cX12_init 587 = .ok (.iload_n 1, 1) := by decide +kernel
theorem dX12_init_588 : decode cX12_init 588 = .ok (.iconst 1, 1) := by decide +kernel
theorem dX12_init_589 : decode cX12_init 589 = .ok (.bastore, 1) := by decide +kernel
theorem dX12_init_590 : decode cX12_init 590 = .ok (.iinc 1 1, 3) := by decide +kernel
theorem dX12_init_593 : decode cX12_init 593 = .ok (.goto (-16), 3) := by decide +kernel
theorem dX12_init_596 : decode cX12_init 596 = .ok (.return_, 1) := by decide +kernel
theorem dX12_thrown_0 : decode cX12_thrown 0 = .ok (.aload_n 0, 1) := by decide +kernel
theorem dX12_thrown_1 : decode cX12_thrown 1 = .ok (.getfield 218, 3) := by decide +kernel
theorem dX12_thrown_4 : decode cX12_thrown 4 = .ok (.ireturn, 1) := by decide +kernel
theorem dX12_within_0 : decode cX12_within 0 = .ok (.iload_n 0, 1) := by decide +kernel
theorem dX12_within_1 : decode cX12_within 1 = .ok (.iload_n 1, 1) := by decide +kernel
theorem dX12_within_2 : decode cX12_within 2 = .ok (.if_icmp .lt 12, 3) := by decide +kernel
theorem dX12_within_5 : decode cX12_within 5 = .ok (.iload_n 0, 1) := by decide +kernel
theorem dX12_within_6 : decode cX12_within 6 = .ok (.iload_n 2, 1) := by decide +kernel
theorem dX12_within_7 : decode cX12_within 7 = .ok (.if_icmp .gt 7, 3) := by decide +kernel
theorem dX12_within_10 : decode cX12_within 10 = .ok (.iconst 1, 1) := by decide +kernel
theorem dX12_within_11 : decode cX12_within 11 = .ok (.goto 4, 3) := by decide +kernel
theorem dX12_within_14 : decode cX12_within 14 = .ok (.iconst 0, 1) := by decide +kernel
theorem dX12_within_15 : decode cX12_within 15 = .ok (.ireturn, 1) := by decide +kernel
theorem dX12_isParcel_0 : decode cX12_isParcel 0 = .ok (.iload_n 1, 1) := by decide +kernel
theorem dX12_isParcel_1 : decode cX12_isParcel 1 = .ok (.iconst 0, 1) := by decide +kernel
theorem dX12_isParcel_2 : decode cX12_isParcel 2 = .ok (.bipush 11, 2) := by decide +kernel
theorem dX12_isParcel_4 : decode cX12_isParcel 4 = .ok (.invokestatic 222, 3) := by decide +kernel
theorem dX12_isParcel_7 : decode cX12_isParcel 7 = .ok (.ifCond .eq 16, 3) := by decide +kernel
theorem dX12_isParcel_10 : decode cX12_isParcel 10 = .ok (.aload_n 0, 1) := by decide +kernel
theorem dX12_isParcel_11 : decode cX12_isParcel 11 = .ok (.getfield 7, 3) := by decide +kernel
theorem dX12_isParcel_14 : decode cX12_isParcel 14 = .ok (.iload_n 1, 1) := by decide +kernel
theorem dX12_isParcel_15 : decode cX12_isParcel 15 = .ok (.baload, 1) := by decide +kernel
theorem dX12_isParcel_16 : decode cX12_isParcel 16 = .ok (.ifCond .eq 7, 3) := by decide +kernel
theorem dX12_isParcel_19 : decode cX12_isParcel 19 = .ok (.iconst 1, 1) := by decide +kernel
theorem dX12_isParcel_20 : decode cX12_isParcel 20 = .ok (.goto 4, 3) := by decide +kernel
theorem dX12_isParcel_23 : decode cX12_isParcel 23 = .ok (.iconst 0, 1) := by decide +kernel
theorem dX12_isParcel_24 : decode cX12_isParcel 24 = .ok (.ireturn, 1) := by decide +kernel
theorem dX12_isPerson_0 : decode cX12_isPerson 0 = .ok (.iload_n 0, 1) := by decide +kernel
theorem dX12_isPerson_1 : decode cX12_isPerson 1 = .ok (.ifCond .lt 13, 3) := by decide +kernel
theorem dX12_isPerson_4 : decode cX12_isPerson 4 = .ok (.iload_n 0, 1) := by decide +kernel
theorem dX12_isPerson_5 : decode cX12_isPerson 5 = .ok (.bipush 16, 2) := by decide +kernel
theorem dX12_isPerson_7 : decode cX12_isPerson 7 = .ok (.if_icmp .ge 7, 3) := by decide +kernel
theorem dX12_isPerson_10 : decode cX12_isPerson 10 = .ok (.iconst 1, 1) := by decide +kernel
theorem dX12_isPerson_11 : decode cX12_isPerson 11 = .ok (.goto 4, 3) := by decide +kernel
theorem dX12_isPerson_14 : decode cX12_isPerson 14 = .ok (.iconst 0, 1) := by decide +kernel
theorem dX12_isPerson_15 : decode cX12_isPerson 15 = .ok (.ireturn, 1) := by decide +kernel
theorem dX12_parcel_0 : decode cX12_parcel 0 = .ok (.aload_n 0, 1) := by decide +kernel
theorem dX12_parcel_1 : decode cX12_parcel 1 = .ok (.iconst 0, 1) := by decide +kernel
theorem dX12_parcel_2 : decode cX12_parcel 2 = .ok (.putfield 218, 3) := by decide +kernel
theorem dX12_parcel_5 : decode cX12_parcel 5 = .ok (.iload_n 1, 1) := by decide +kernel
theorem dX12_parcel_6 : decode cX12_parcel 6 = .ok (.iconst 0, 1) := by decide +kernel
theorem dX12_parcel_7 : decode cX12_parcel 7 = .ok (.bipush 11, 2) := by decide +kernel
theorem dX12_parcel_9 : decode cX12_parcel 9 = .ok (.invokestatic 222, 3) := by decide +kernel
theorem dX12_parcel_12 : decode cX12_parcel 12 = .ok (.ifCond .eq 19, 3) := by decide +kernel
theorem dX12_parcel_15 : decode cX12_parcel 15 = .ok (.aload_n 0, 1) := by decide +kernel
theorem dX12_parcel_16 : decode cX12_parcel 16 = .ok (.getfield 7, 3) := by decide +kernel
theorem dX12_parcel_19 : decode cX12_parcel 19 = .ok (.iload_n 1, 1) := by decide +kernel
theorem dX12_parcel_20 : decode cX12_parcel 20 = .ok (.baload, 1) := by decide +kernel
theorem dX12_parcel_21 : decode cX12_parcel 21 = .ok (.ifCond .ne 10, 3) := by decide +kernel
theorem dX12_parcel_24 : decode cX12_parcel 24 = .ok (.iload_n 2, 1) := by decide +kernel
theorem dX12_parcel_25 : decode cX12_parcel 25 = .ok (.invokestatic 226, 3) := by decide +kernel
theorem dX12_parcel_28 : decode cX12_parcel 28 = .ok (.ifCond .ne 5, 3) := by decide +kernel
theorem dX12_parcel_31 : decode cX12_parcel 31 = .ok (.iconst 0, 1) := by decide +kernel
theorem dX12_parcel_32 : decode cX12_parcel 32 = .ok (.ireturn, 1) := by decide +kernel
theorem dX12_parcel_33 : decode cX12_parcel 33 = .ok (.aload_n 0, 1) := by decide +kernel
theorem dX12_parcel_34 : decode cX12_parcel 34 = .ok (.getfield 7, 3) := by decide +kernel
theorem dX12_parcel_37 : decode cX12_parcel 37 = .ok (.iload_n 1, 1) := by decide +kernel
theorem dX12_parcel_38 : decode cX12_parcel 38 = .ok (.iconst 1, 1) := by decide +kernel
theorem dX12_parcel_39 : decode cX12_parcel 39 = .ok (.bastore, 1) := by decide +kernel
theorem dX12_parcel_40 : decode cX12_parcel 40 = .ok (.aload_n 0, 1) := by decide +kernel
theorem dX12_parcel_41 : decode cX12_parcel 41 = .ok (.getfield 13, 3) := by decide +kernel
theorem dX12_parcel_44 : decode cX12_parcel 44 = .ok (.bipush 16, 2) := by decide +kernel
theorem dX12_parcel_46 : decode cX12_parcel 46 = .ok (.iload_n 1, 1) := by decide +kernel
theorem dX12_parcel_47 : decode cX12_parcel 47 = .ok (.imul, 1) := by decide +kernel
theorem dX12_parcel_48 : decode cX12_parcel 48 = .ok (.iload_n 2, 1) := by decide +kernel
theorem dX12_parcel_49 : decode cX12_parcel 49 = .ok (.iadd, 1) := by decide +kernel
theorem dX12_parcel_50 : decode cX12_parcel 50 = .ok (.bipush 12, 2) := by decide +kernel
theorem dX12_parcel_52 : decode cX12_parcel 52 = .ok (.iastore, 1) := by decide +kernel
theorem dX12_parcel_53 : decode cX12_parcel 53 = .ok (.iconst 1, 1) := by decide +kernel
theorem dX12_parcel_54 : decode cX12_parcel 54 = .ok (.ireturn, 1) := by decide +kernel
theorem dX12_moves_0 : decode cX12_moves 0 = .ok (.aload_n 0, 1) := by decide +kernel
theorem dX12_moves_1 : decode cX12_moves 1 = .ok (.getfield 13, 3) := by decide +kernel
theorem dX12_moves_4 : decode cX12_moves 4 = .ok (.bipush 16, 2) := by decide +kernel
theorem dX12_moves_6 : decode cX12_moves 6 = .ok (.iload_n 1, 1) := by decide +kernel
theorem dX12_moves_7 : decode cX12_moves 7 = .ok (.imul, 1) := by decide +kernel
theorem dX12_moves_8 : decode cX12_moves 8 = .ok (.iload_n 2, 1) := by decide +kernel
theorem dX12_moves_9 : decode cX12_moves 9 = .ok (.iadd, 1) := by decide +kernel
theorem dX12_moves_10 : decode cX12_moves 10 = .ok (.dup2, 1) := by decide +kernel
theorem dX12_moves_11 : decode cX12_moves 11 = .ok (.iaload, 1) := by decide +kernel
theorem dX12_moves_12 : decode cX12_moves 12 = .ok (.iload 4, 2) := by decide +kernel
theorem dX12_moves_14 : decode cX12_moves 14 = .ok (.isub, 1) := by decide +kernel
theorem dX12_moves_15 : decode cX12_moves 15 = .ok (.iastore, 1) := by decide +kernel
theorem dX12_moves_16 : decode cX12_moves 16 = .ok (.aload_n 0, 1) := by decide +kernel
theorem dX12_moves_17 : decode cX12_moves 17 = .ok (.getfield 13, 3) := by decide +kernel
theorem dX12_moves_20 : decode cX12_moves 20 = .ok (.bipush 16, 2) := by decide +kernel
theorem dX12_moves_22 : decode cX12_moves 22 = .ok (.iload_n 1, 1) := by decide +kernel
theorem dX12_moves_23 : decode cX12_moves 23 = .ok (.imul, 1) := by decide +kernel
theorem dX12_moves_24 : decode cX12_moves 24 = .ok (.iload_n 3, 1) := by decide +kernel
theorem dX12_moves_25 : decode cX12_moves 25 = .ok (.iadd, 1) := by decide +kernel
theorem dX12_moves_26 : decode cX12_moves 26 = .ok (.dup2, 1) := by decide +kernel
theorem dX12_moves_27 : decode cX12_moves 27 = .ok (.iaload, 1) := by decide +kernel
theorem dX12_moves_28 : decode cX12_moves 28 = .ok (.iload 4, 2) := by decide +kernel
theorem dX12_moves_30 : decode cX12_moves 30 = .ok (.iadd, 1) := by decide +kernel
theorem dX12_moves_31 : decode cX12_moves 31 = .ok (.iastore, 1) := by decide +kernel
theorem dX12_moves_32 : decode cX12_moves 32 = .ok (.return_, 1) := by decide +kernel
theorem dX12_part_0 : decode cX12_part 0 = .ok (.aload_n 0, 1) := by decide +kernel
theorem dX12_part_1 : decode cX12_part 1 = .ok (.iconst 0, 1) := by decide +kernel
theorem dX12_part_2 : decode cX12_part 2 = .ok (.putfield 218, 3) := by decide +kernel
theorem dX12_part_5 : decode cX12_part 5 = .ok (.aload_n 0, 1) := by decide +kernel
theorem dX12_part_6 : decode cX12_part 6 = .ok (.iload_n 1, 1) := by decide +kernel
theorem dX12_part_7 : decode cX12_part 7 = .ok (.invokevirtual 230, 3) := by decide +kernel
theorem dX12_part_10 : decode cX12_part 10 = .ok (.ifCond .eq 49, 3) := by decide +kernel
theorem dX12_part_13 : decode cX12_part 13 = .ok (.iload_n 2, 1) := by decide +kernel
theorem dX12_part_14 : decode cX12_part 14 = .ok (.invokestatic 226, 3) := by decide +kernel
theorem dX12_part_17 : decode cX12_part 17 = .ok (.ifCond .eq 42, 3) := by decide +kernel
theorem dX12_part_20 : decode cX12_part 20 = .ok (.iload_n 3, 1) := by decide +kernel
theorem dX12_part_21 : decode cX12_part 21 = .ok (.invokestatic 226, 3) := by decide +kernel
theorem dX12_part_24 : decode cX12_part 24 = .ok (.ifCond .eq 35, 3) := by decide +kernel
theorem dX12_part_27 : decode cX12_part 27 = .ok (.iload_n 2, 1) := by decide +kernel
theorem dX12_part_28 : decode cX12_part 28 = .ok (.iload_n 3, 1) := by decide +kernel
theorem dX12_part_29 : decode cX12_part 29 = .ok (.if_icmp .eq 30, 3) := by decide +kernel
theorem dX12_part_32 : decode cX12_part 32 = .ok (.iload 4, 2) := by decide +kernel
theorem dX12_part_34 : decode cX12_part 34 = .ok (.iconst 1, 1) := by decide +kernel
theorem dX12_part_35 : decode cX12_part 35 = .ok (.bipush 12, 2) := by decide +kernel
theorem dX12_part_37 : decode cX12_part 37 = .ok (.invokestatic 222, 3) := by decide +kernel
theorem dX12_part_40 : decode cX12_part 40 = .ok (.ifCond .eq 19, 3) := by decide +kernel
theorem dX12_part_43 : decode cX12_part 43 = .ok (.aload_n 0, 1) := by decide +kernel
theorem dX12_part_44 : decode cX12_part 44 = .ok (.getfield 13, 3) := by decide +kernel
theorem dX12_part_47 : decode cX12_part 47 = .ok (.bipush 16, 2) := by decide +kernel
theorem dX12_part_49 : decode cX12_part 49 = .ok (.iload_n 1, 1) := by decide +kernel
theorem dX12_part_50 : decode cX12_part 50 = .ok (.imul, 1) := by decide +kernel
theorem dX12_part_51 : decode cX12_part 51 = .ok (.iload_n 2, 1) := by decide +kernel
theorem dX12_part_52 : decode cX12_part 52 = .ok (.iadd, 1) := by decide +kernel
theorem dX12_part_53 : decode cX12_part 53 = .ok (.iaload, 1) := by decide +kernel
theorem dX12_part_54 : decode cX12_part 54 = .ok (.iload 4, 2) := by decide +kernel
theorem dX12_part_56 : decode cX12_part 56 = .ok (.if_icmp .ge 5, 3) := by decide +kernel
theorem dX12_part_59 : decode cX12_part 59 = .ok (.iconst 0, 1) := by decide +kernel
theorem dX12_part_60 : decode cX12_part 60 = .ok (.ireturn, 1) := by decide +kernel
theorem dX12_part_61 : decode cX12_part 61 = .ok (.aload_n 0, 1) := by decide +kernel
theorem dX12_part_62 : decode cX12_part 62 = .ok (.iload_n 1, 1) := by decide +kernel
theorem dX12_part_63 : decode cX12_part 63 = .ok (.iload_n 2, 1) := by decide +kernel
theorem dX12_part_64 : decode cX12_part 64 = .ok (.iload_n 3, 1) := by decide +kernel
theorem dX12_part_65 : decode cX12_part 65 = .ok (.iload 4, 2) := by decide +kernel
theorem dX12_part_67 : decode cX12_part 67 = .ok (.invokevirtual 233, 3) := by decide +kernel
theorem dX12_part_70 : decode cX12_part 70 = .ok (.iconst 1, 1) := by decide +kernel
theorem dX12_part_71 : decode cX12_part 71 = .ok (.ireturn, 1) := by decide +kernel
theorem dX12_beside_0 : decode cX12_beside 0 = .ok (.aload_n 0, 1) := by decide +kernel
theorem dX12_beside_1 : decode cX12_beside 1 = .ok (.iconst 0, 1) := by decide +kernel
theorem dX12_beside_2 : decode cX12_beside 2 = .ok (.putfield 218, 3) := by decide +kernel
theorem dX12_beside_5 : decode cX12_beside 5 = .ok (.aload_n 0, 1) := by decide +kernel
theorem dX12_beside_6 : decode cX12_beside 6 = .ok (.iload_n 1, 1) := by decide +kernel
theorem dX12_beside_7 : decode cX12_beside 7 = .ok (.invokevirtual 230, 3) := by decide +kernel
theorem dX12_beside_10 : decode cX12_beside 10 = .ok (.ifCond .eq 25, 3) := by decide +kernel
theorem dX12_beside_13 : decode cX12_beside 13 = .ok (.aload_n 0, 1) := by decide +kernel
theorem dX12_beside_14 : decode cX12_beside 14 = .ok (.iload_n 2, 1) := by decide +kernel
theorem dX12_beside_15 : decode cX12_beside 15 = .ok (.invokevirtual 230, 3) := by decide +kernel
theorem dX12_beside_18 : decode cX12_beside 18 = .ok (.ifCond .eq 17, 3) := by decide +kernel
theorem dX12_beside_21 : decode cX12_beside 21 = .ok (.iload_n 1, 1) := by decide +kernel
theorem dX12_beside_22 : decode cX12_beside 22 = .ok (.iload_n 2, 1) := by decide +kernel
theorem dX12_beside_23 : decode cX12_beside 23 = .ok (.if_icmp .eq 12, 3) := by decide +kernel
theorem dX12_beside_26 : decode cX12_beside 26 = .ok (.iload_n 3, 1) := by decide +kernel
theorem dX12_beside_27 : decode cX12_beside 27 = .ok (.iconst 0, 1) := by decide +kernel
theorem dX12_beside_28 : decode cX12_beside 28 = .ok (.iconst 3, 1) := by decide +kernel
theorem dX12_beside_29 : decode cX12_beside 29 = .ok (.invokestatic 222, 3) := by decide +kernel
theorem dX12_beside_32 : decode cX12_beside 32 = .ok (.ifCond .ne 5, 3) := by decide +kernel
theorem dX12_beside_35 : decode cX12_beside 35 = .ok (.iconst 0, 1) := by decide +kernel
theorem dX12_beside_36 : decode cX12_beside 36 = .ok (.ireturn, 1) := by decide +kernel
theorem dX12_beside_37 : decode cX12_beside 37 = .ok (.aload_n 0, 1) := by decide +kernel
theorem dX12_beside_38 : decode cX12_beside 38 = .ok (.getfield 17, 3) := by decide +kernel
theorem dX12_beside_41 : decode cX12_beside 41 = .ok (.bipush 12, 2) := by decide +kernel
theorem dX12_beside_43 : decode cX12_beside 43 = .ok (.iload_n 1, 1) := by decide +kernel
theorem dX12_beside_44 : decode cX12_beside 44 = .ok (.imul, 1) := by decide +kernel
theorem dX12_beside_45 : decode cX12_beside 45 = .ok (.iload_n 2, 1) := by decide +kernel
theorem dX12_beside_46 : decode cX12_beside 46 = .ok (.iadd, 1) := by decide +kernel
theorem dX12_beside_47 : decode cX12_beside 47 = .ok (.iaload, 1) := by decide +kernel
theorem dX12_beside_48 : decode cX12_beside 48 = .ok (.iload_n 3, 1) := by decide +kernel
theorem dX12_beside_49 : decode cX12_beside 49 = .ok (.ishr, 1) := by decide +kernel
theorem dX12_beside_50 : decode cX12_beside 50 = .ok (.iconst 1, 1) := by decide +kernel
theorem dX12_beside_51 : decode cX12_beside 51 = .ok (.iand, 1) := by decide +kernel
theorem dX12_beside_52 : decode cX12_beside 52 = .ok (.iconst 1, 1) := by decide +kernel
theorem dX12_beside_53 : decode cX12_beside 53 = .ok (.if_icmp .ne 5, 3) := by decide +kernel
theorem dX12_beside_56 : decode cX12_beside 56 = .ok (.iconst 0, 1) := by decide +kernel
theorem dX12_beside_57 : decode cX12_beside 57 = .ok (.ireturn, 1) := by decide +kernel
theorem dX12_beside_58 : decode cX12_beside 58 = .ok (.aload_n 0, 1) := by decide +kernel
theorem dX12_beside_59 : decode cX12_beside 59 = .ok (.getfield 17, 3) := by decide +kernel
theorem dX12_beside_62 : decode cX12_beside 62 = .ok (.bipush 12, 2) := by decide +kernel
theorem dX12_beside_64 : decode cX12_beside 64 = .ok (.iload_n 1, 1) := by decide +kernel
theorem dX12_beside_65 : decode cX12_beside 65 = .ok (.imul, 1) := by decide +kernel
theorem dX12_beside_66 : decode cX12_beside 66 = .ok (.iload_n 2, 1) := by decide +kernel
theorem dX12_beside_67 : decode cX12_beside 67 = .ok (.iadd, 1) := by decide +kernel
theorem dX12_beside_68 : decode cX12_beside 68 = .ok (.dup2, 1) := by decide +kernel
theorem dX12_beside_69 : decode cX12_beside 69 = .ok (.iaload, 1) := by decide +kernel
theorem dX12_beside_70 : decode cX12_beside 70 = .ok (.iconst 1, 1) := by decide +kernel
theorem dX12_beside_71 : decode cX12_beside 71 = .ok (.iload_n 3, 1) := by decide +kernel
theorem dX12_beside_72 : decode cX12_beside 72 = .ok (.ishl, 1) := by decide +kernel
theorem dX12_beside_73 : decode cX12_beside 73 = .ok (.ior, 1) := by decide +kernel
theorem dX12_beside_74 : decode cX12_beside 74 = .ok (.iastore, 1) := by decide +kernel
theorem dX12_beside_75 : decode cX12_beside 75 = .ok (.aload_n 0, 1) := by decide +kernel
theorem dX12_beside_76 : decode cX12_beside 76 = .ok (.getfield 17, 3) := by decide +kernel
theorem dX12_beside_79 : decode cX12_beside 79 = .ok (.bipush 12, 2) := by decide +kernel
theorem dX12_beside_81 : decode cX12_beside 81 = .ok (.iload_n 2, 1) := by decide +kernel
theorem dX12_beside_82 : decode cX12_beside 82 = .ok (.imul, 1) := by decide +kernel
theorem dX12_beside_83 : decode cX12_beside 83 = .ok (.iload_n 1, 1) := by decide +kernel
theorem dX12_beside_84 : decode cX12_beside 84 = .ok (.iadd, 1) := by decide +kernel
theorem dX12_beside_85 : decode cX12_beside 85 = .ok (.dup2, 1) := by decide +kernel
theorem dX12_beside_86 : decode cX12_beside 86 = .ok (.iaload, 1) := by decide +kernel
theorem dX12_beside_87 : decode cX12_beside 87 = .ok (.iconst 1, 1) := by decide +kernel
theorem dX12_beside_88 : decode cX12_beside 88 = .ok (.iload_n 3, 1) := by decide +kernel
theorem dX12_beside_89 : decode cX12_beside 89 = .ok (.iconst 2, 1) := by decide +kernel
theorem dX12_beside_90 : decode cX12_beside 90 = .ok (.iadd, 1) := by decide +kernel
theorem dX12_beside_91 : decode cX12_beside 91 = .ok (.iconst 4, 1) := by decide +kernel
theorem dX12_beside_92 : decode cX12_beside 92 = .ok (.irem, 1) := by decide +kernel
theorem dX12_beside_93 : decode cX12_beside 93 = .ok (.ishl, 1) := by decide +kernel
theorem dX12_beside_94 : decode cX12_beside 94 = .ok (.ior, 1) := by decide +kernel
theorem dX12_beside_95 : decode cX12_beside 95 = .ok (.iastore, 1) := by decide +kernel
theorem dX12_beside_96 : decode cX12_beside 96 = .ok (.iconst 1, 1) := by decide +kernel
theorem dX12_beside_97 : decode cX12_beside 97 = .ok (.ireturn, 1) := by decide +kernel
theorem dX12_water_0 : decode cX12_water 0 = .ok (.aload_n 0, 1) := by decide +kernel
theorem dX12_water_1 : decode cX12_water 1 = .ok (.iconst 0, 1) := by decide +kernel
theorem dX12_water_2 : decode cX12_water 2 = .ok (.putfield 218, 3) := by decide +kernel
theorem dX12_water_5 : decode cX12_water 5 = .ok (.aload_n 0, 1) := by decide +kernel
theorem dX12_water_6 : decode cX12_water 6 = .ok (.iload_n 1, 1) := by decide +kernel
theorem dX12_water_7 : decode cX12_water 7 = .ok (.invokevirtual 230, 3) := by decide +kernel
theorem dX12_water_10 : decode cX12_water 10 = .ok (.ifCond .eq 30, 3) := by decide +kernel
theorem dX12_water_13 : decode cX12_water 13 = .ok (.aload_n 0, 1) := by decide +kernel
theorem dX12_water_14 : decode cX12_water 14 = .ok (.iload_n 2, 1) := by decide +kernel
theorem dX12_water_15 : decode cX12_water 15 = .ok (.invokevirtual 230, 3) := by decide +kernel
theorem dX12_water_18 : decode cX12_water 18 = .ok (.ifCond .eq 22, 3) := by decide +kernel
theorem dX12_water_21 : decode cX12_water 21 = .ok (.iload_n 1, 1) := by decide +kernel
theorem dX12_water_22 : decode cX12_water 22 = .ok (.iload_n 2, 1) := by decide +kernel
theorem dX12_water_23 : decode cX12_water 23 = .ok (.if_icmp .eq 17, 3) := by decide +kernel
theorem dX12_water_26 : decode cX12_water 26 = .ok (.aload_n 0, 1) := by decide +kernel
theorem dX12_water_27 : decode cX12_water 27 = .ok (.getfield 20, 3) := by decide +kernel
theorem dX12_water_30 : decode cX12_water 30 = .ok (.bipush 12, 2) := by decide +kernel
theorem dX12_water_32 : decode cX12_water 32 = .ok (.iload_n 1, 1) := by decide +kernel
theorem dX12_water_33 : decode cX12_water 33 = .ok (.imul, 1) := by decide +kernel
theorem dX12_water_34 : decode cX12_water 34 = .ok (.iload_n 2, 1) := by decide +kernel
theorem dX12_water_35 : decode cX12_water 35 = .ok (.iadd, 1) := by decide +kernel
theorem dX12_water_36 : decode cX12_water 36 = .ok (.baload, 1) := by decide +kernel
theorem dX12_water_37 : decode cX12_water 37 = .ok (.ifCond .eq 5, 3) := by decide +kernel
theorem dX12_water_40 : decode cX12_water 40 = .ok (.iconst 0, 1) := by decide +kernel
theorem dX12_water_41 : decode cX12_water 41 = .ok (.ireturn, 1) := by decide +kernel
theorem dX12_water_42 : decode cX12_water 42 = .ok (.aload_n 0, 1) := by decide +kernel
theorem dX12_water_43 : decode cX12_water 43 = .ok (.getfield 20, 3) := by decide +kernel
theorem dX12_water_46 : decode cX12_water 46 = .ok (.bipush 12, 2) := by decide +kernel
theorem dX12_water_48 : decode cX12_water 48 = .ok (.iload_n 1, 1) := by decide +kernel
theorem dX12_water_49 : decode cX12_water 49 = .ok (.imul, 1) := by decide +kernel
theorem dX12_water_50 : decode cX12_water 50 = .ok (.iload_n 2, 1) := by decide +kernel
theorem dX12_water_51 : decode cX12_water 51 = .ok (.iadd, 1) := by decide +kernel
theorem dX12_water_52 : decode cX12_water 52 = .ok (.iconst 1, 1) := by decide +kernel
theorem dX12_water_53 : decode cX12_water 53 = .ok (.bastore, 1) := by decide +kernel
theorem dX12_water_54 : decode cX12_water 54 = .ok (.aload_n 0, 1) := by decide +kernel
theorem dX12_water_55 : decode cX12_water 55 = .ok (.getfield 20, 3) := by decide +kernel
theorem dX12_water_58 : decode cX12_water 58 = .ok (.bipush 12, 2) := by decide +kernel
theorem dX12_water_60 : decode cX12_water 60 = .ok (.iload_n 2, 1) := by decide +kernel
theorem dX12_water_61 : decode cX12_water 61 = .ok (.imul, 1) := by decide +kernel
theorem dX12_water_62 : decode cX12_water 62 = .ok (.iload_n 1, 1) := by decide +kernel
theorem dX12_water_63 : decode cX12_water 63 = .ok (.iadd, 1) := by decide +kernel
theorem dX12_water_64 : decode cX12_water 64 = .ok (.iconst 1, 1) := by decide +kernel
theorem dX12_water_65 : decode cX12_water 65 = .ok (.bastore, 1) := by decide +kernel
theorem dX12_water_66 : decode cX12_water 66 = .ok (.iconst 1, 1) := by decide +kernel
theorem dX12_water_67 : decode cX12_water 67 = .ok (.ireturn, 1) := by decide +kernel
theorem dX12_kin_0 : decode cX12_kin 0 = .ok (.aload_n 0, 1) := by decide +kernel
theorem dX12_kin_1 : decode cX12_kin 1 = .ok (.iconst 0, 1) := by decide +kernel
theorem dX12_kin_2 : decode cX12_kin 2 = .ok (.putfield 218, 3) := by decide +kernel
theorem dX12_kin_5 : decode cX12_kin 5 = .ok (.iload_n 1, 1) := by decide +kernel
theorem dX12_kin_6 : decode cX12_kin 6 = .ok (.invokestatic 226, 3) := by decide +kernel
theorem dX12_kin_9 : decode cX12_kin 9 = .ok (.ifCond .eq 24, 3) := by decide +kernel
theorem dX12_kin_12 : decode cX12_kin 12 = .ok (.iload_n 2, 1) := by decide +kernel
theorem dX12_kin_13 : decode cX12_kin 13 = .ok (.invokestatic 226, 3) := by decide +kernel
theorem dX12_kin_16 : decode cX12_kin 16 = .ok (.ifCond .eq 17, 3) := by decide +kernel
theorem dX12_kin_19 : decode cX12_kin 19 = .ok (.iload_n 1, 1) := by decide +kernel
theorem dX12_kin_20 : decode cX12_kin 20 = .ok (.iload_n 2, 1) := by decide +kernel
theorem dX12_kin_21 : decode cX12_kin 21 = .ok (.if_icmp .eq 12, 3) := by decide +kernel
theorem dX12_kin_24 : decode cX12_kin 24 = .ok (.iload_n 3, 1) := by decide +kernel
theorem dX12_kin_25 : decode cX12_kin 25 = .ok (.iconst 0, 1) := by decide +kernel
theorem dX12_kin_26 : decode cX12_kin 26 = .ok (.iconst 3, 1) := by decide +kernel
theorem dX12_kin_27 : decode cX12_kin 27 = .ok (.invokestatic 222, 3) := by decide +kernel
theorem dX12_kin_30 : decode cX12_kin 30 = .ok (.ifCond .ne 5, 3) := by decide +kernel
theorem dX12_kin_33 : decode cX12_kin 33 = .ok (.iconst 0, 1) := by decide +kernel
theorem dX12_kin_34 : decode cX12_kin 34 = .ok (.ireturn, 1) := by decide +kernel
theorem dX12_kin_35 : decode cX12_kin 35 = .ok (.aload_n 0, 1) := by decide +kernel
theorem dX12_kin_36 : decode cX12_kin 36 = .ok (.getfield 23, 3) := by decide +kernel
theorem dX12_kin_39 : decode cX12_kin 39 = .ok (.bipush 16, 2) := by decide +kernel
theorem dX12_kin_41 : decode cX12_kin 41 = .ok (.iload_n 1, 1) := by decide +kernel
theorem dX12_kin_42 : decode cX12_kin 42 = .ok (.imul, 1) := by decide +kernel
theorem dX12_kin_43 : decode cX12_kin 43 = .ok (.iload_n 2, 1) := by decide +kernel
theorem dX12_kin_44 : decode cX12_kin 44 = .ok (.iadd, 1) := by decide +kernel
theorem dX12_kin_45 : decode cX12_kin 45 = .ok (.iload_n 3, 1) := by decide +kernel
theorem dX12_kin_46 : decode cX12_kin 46 = .ok (.iastore, 1) := by decide +kernel
theorem dX12_kin_47 : decode cX12_kin 47 = .ok (.aload_n 0, 1) := by decide +kernel
theorem dX12_kin_48 : decode cX12_kin 48 = .ok (.getfield 23, 3) := by decide +kernel
theorem dX12_kin_51 : decode cX12_kin 51 = .ok (.bipush 16, 2) := by decide +kernel
theorem dX12_kin_53 : decode cX12_kin 53 = .ok (.iload_n 2, 1) := by decide +kernel
theorem dX12_kin_54 : decode cX12_kin 54 = .ok (.imul, 1) := by decide +kernel
theorem dX12_kin_55 : decode cX12_kin 55 = .ok (.iload_n 1, 1) := by decide +kernel
theorem dX12_kin_56 : decode cX12_kin 56 = .ok (.iadd, 1) := by decide +kernel
theorem dX12_kin_57 : decode cX12_kin 57 = .ok (.iload_n 3, 1) := by decide +kernel
theorem dX12_kin_58 : decode cX12_kin 58 = .ok (.iastore, 1) := by decide +kernel
theorem dX12_kin_59 : decode cX12_kin 59 = .ok (.iconst 1, 1) := by decide +kernel
theorem dX12_kin_60 : decode cX12_kin 60 = .ok (.ireturn, 1) := by decide +kernel
theorem dX12_need_0 : decode cX12_need 0 = .ok (.aload_n 0, 1) := by decide +kernel
theorem dX12_need_1 : decode cX12_need 1 = .ok (.iconst 0, 1) := by decide +kernel
theorem dX12_need_2 : decode cX12_need 2 = .ok (.putfield 218, 3) := by decide +kernel
theorem dX12_need_5 : decode cX12_need 5 = .ok (.iload_n 1, 1) := by decide +kernel
theorem dX12_need_6 : decode cX12_need 6 = .ok (.invokestatic 226, 3) := by decide +kernel
theorem dX12_need_9 : decode cX12_need 9 = .ok (.ifCond .ne 5, 3) := by decide +kernel
theorem dX12_need_12 : decode cX12_need 12 = .ok (.iconst 0, 1) := by decide +kernel
theorem dX12_need_13 : decode cX12_need 13 = .ok (.ireturn, 1) := by decide +kernel
theorem dX12_need_14 : decode cX12_need 14 = .ok (.aload_n 0, 1) := by decide +kernel
theorem dX12_need_15 : decode cX12_need 15 = .ok (.getfield 26, 3) := by decide +kernel
theorem dX12_need_18 : decode cX12_need 18 = .ok (.iload_n 1, 1) := by decide +kernel
theorem dX12_need_19 : decode cX12_need 19 = .ok (.iload_n 2, 1) := by decide +kernel
theorem dX12_need_20 : decode cX12_need 20 = .ok (.bastore, 1) := by decide +kernel
theorem dX12_need_21 : decode cX12_need 21 = .ok (.iconst 1, 1) := by decide +kernel
theorem dX12_need_22 : decode cX12_need 22 = .ok (.ireturn, 1) := by decide +kernel
theorem dX12_care_0 : decode cX12_care 0 = .ok (.aload_n 0, 1) := by decide +kernel
theorem dX12_care_1 : decode cX12_care 1 = .ok (.iconst 0, 1) := by decide +kernel
theorem dX12_care_2 : decode cX12_care 2 = .ok (.putfield 218, 3) := by decide +kernel
theorem dX12_care_5 : decode cX12_care 5 = .ok (.iload_n 1, 1) := by decide +kernel
theorem dX12_care_6 : decode cX12_care 6 = .ok (.invokestatic 226, 3) := by decide +kernel
theorem dX12_care_9 : decode cX12_care 9 = .ok (.ifCond .ne 5, 3) := by decide +kernel
theorem dX12_care_12 : decode cX12_care 12 = .ok (.iconst 0, 1) := by decide +kernel
theorem dX12_care_13 : decode cX12_care 13 = .ok (.ireturn, 1) := by decide +kernel
theorem dX12_care_14 : decode cX12_care 14 = .ok (.aload_n 0, 1) := by decide +kernel
theorem dX12_care_15 : decode cX12_care 15 = .ok (.getfield 29, 3) := by decide +kernel
theorem dX12_care_18 : decode cX12_care 18 = .ok (.iload_n 1, 1) := by decide +kernel
theorem dX12_care_19 : decode cX12_care 19 = .ok (.iload_n 2, 1) := by decide +kernel
theorem dX12_care_20 : decode cX12_care 20 = .ok (.bastore, 1) := by decide +kernel
theorem dX12_care_21 : decode cX12_care 21 = .ok (.iconst 1, 1) := by decide +kernel
theorem dX12_care_22 : decode cX12_care 22 = .ok (.ireturn, 1) := by decide +kernel
theorem dX12_days_0 : decode cX12_days 0 = .ok (.aload_n 0, 1) := by decide +kernel
theorem dX12_days_1 : decode cX12_days 1 = .ok (.iconst 0, 1) := by decide +kernel
theorem dX12_days_2 : decode cX12_days 2 = .ok (.putfield 218, 3) := by decide +kernel
theorem dX12_days_5 : decode cX12_days 5 = .ok (.iload_n 1, 1) := by decide +kernel
theorem dX12_days_6 : decode cX12_days 6 = .ok (.iconst 0, 1) := by decide +kernel
theorem dX12_days_7 : decode cX12_days 7 = .ok (.sipush 1000, 3) := by decide +kernel
theorem dX12_days_10 : decode cX12_days 10 = .ok (.invokestatic 222, 3) := by decide +kernel
theorem dX12_days_13 : decode cX12_days 13 = .ok (.ifCond .eq 15, 3) := by decide +kernel
theorem dX12_days_16 : decode cX12_days 16 = .ok (.aload_n 0, 1) := by decide +kernel
theorem dX12_days_17 : decode cX12_days 17 = .ok (.getfield 237, 3) := by decide +kernel
theorem dX12_days_20 : decode cX12_days 20 = .ok (.iload_n 1, 1) := by decide +kernel
theorem dX12_days_21 : decode cX12_days 21 = .ok (.iadd, 1) := by decide +kernel
theorem dX12_days_22 : decode cX12_days 22 = .ok (.sipush 9999, 3) := by decide +kernel
theorem dX12_days_25 : decode cX12_days 25 = .ok (.if_icmp .le 5, 3) := by decide +kernel
theorem dX12_days_28 : decode cX12_days 28 = .ok (.iconst (-1), 1) := by decide +kernel
theorem dX12_days_29 : decode cX12_days 29 = .ok (.ireturn, 1) := by decide +kernel
theorem dX12_days_30 : decode cX12_days 30 = .ok (.aload_n 0, 1) := by decide +kernel
theorem dX12_days_31 : decode cX12_days 31 = .ok (.dup, 1) := by decide +kernel
theorem dX12_days_32 : decode cX12_days 32 = .ok (.getfield 237, 3) := by decide +kernel
theorem dX12_days_35 : decode cX12_days 35 = .ok (.iload_n 1, 1) := by decide +kernel
theorem dX12_days_36 : decode cX12_days 36 = .ok (.iadd, 1) := by decide +kernel
theorem dX12_days_37 : decode cX12_days 37 = .ok (.putfield 237, 3) := by decide +kernel
theorem dX12_days_40 : decode cX12_days 40 = .ok (.aload_n 0, 1) := by decide +kernel
theorem dX12_days_41 : decode cX12_days 41 = .ok (.getfield 237, 3) := by decide +kernel
theorem dX12_days_44 : decode cX12_days 44 = .ok (.ireturn, 1) := by decide +kernel
theorem dX12_holds_0 : decode cX12_holds 0 = .ok (.aload_n 0, 1) := by decide +kernel
theorem dX12_holds_1 : decode cX12_holds 1 = .ok (.iconst 0, 1) := by decide +kernel
theorem dX12_holds_2 : decode cX12_holds 2 = .ok (.putfield 218, 3) := by decide +kernel
theorem dX12_holds_5 : decode cX12_holds 5 = .ok (.aload_n 0, 1) := by decide +kernel
theorem dX12_holds_6 : decode cX12_holds 6 = .ok (.iload_n 1, 1) := by decide +kernel
theorem dX12_holds_7 : decode cX12_holds 7 = .ok (.invokevirtual 230, 3) := by decide +kernel
theorem dX12_holds_10 : decode cX12_holds 10 = .ok (.ifCond .eq 24, 3) := by decide +kernel
theorem dX12_holds_13 : decode cX12_holds 13 = .ok (.iload_n 2, 1) := by decide +kernel
theorem dX12_holds_14 : decode cX12_holds 14 = .ok (.invokestatic 226, 3) := by decide +kernel
theorem dX12_holds_17 : decode cX12_holds 17 = .ok (.ifCond .eq 17, 3) := by decide +kernel
theorem dX12_holds_20 : decode cX12_holds 20 = .ok (.aload_n 0, 1) := by decide +kernel
theorem dX12_holds_21 : decode cX12_holds 21 = .ok (.getfield 13, 3) := by decide +kernel
theorem dX12_holds_24 : decode cX12_holds 24 = .ok (.bipush 16, 2) := by decide +kernel
theorem dX12_holds_26 : decode cX12_holds 26 = .ok (.iload_n 1, 1) := by decide +kernel
theorem dX12_holds_27 : decode cX12_holds 27 = .ok (.imul, 1) := by decide +kernel
theorem dX12_holds_28 : decode cX12_holds 28 = .ok (.iload_n 2, 1) := by decide +kernel
theorem dX12_holds_29 : decode cX12_holds 29 = .ok (.iadd, 1) := by decide +kernel
theorem dX12_holds_30 : decode cX12_holds 30 = .ok (.iaload, 1) := by decide +kernel
theorem dX12_holds_31 : decode cX12_holds 31 = .ok (.goto 4, 3) := by decide +kernel
theorem dX12_holds_34 : decode cX12_holds 34 = .ok (.iconst (-1), 1) := by decide +kernel
theorem dX12_holds_35 : decode cX12_holds 35 = .ok (.ireturn, 1) := by decide +kernel
theorem dX12_joins_0 : decode cX12_joins 0 = .ok (.iload_n 3, 1) := by decide +kernel
theorem dX12_joins_1 : decode cX12_joins 1 = .ok (.iconst 2, 1) := by decide +kernel
theorem dX12_joins_2 : decode cX12_joins 2 = .ok (.if_icmp .ne 25, 3) := by decide +kernel
theorem dX12_joins_5 : decode cX12_joins 5 = .ok (.aload_n 0, 1) := by decide +kernel
theorem dX12_joins_6 : decode cX12_joins 6 = .ok (.getfield 17, 3) := by decide +kernel
theorem dX12_joins_9 : decode cX12_joins 9 = .ok (.bipush 12, 2) := by decide +kernel
theorem dX12_joins_11 : decode cX12_joins 11 = .ok (.iload_n 1, 1) := by decide +kernel
theorem dX12_joins_12 : decode cX12_joins 12 = .ok (.imul, 1) := by decide +kernel
theorem dX12_joins_13 : decode cX12_joins 13 = .ok (.iload_n 2, 1) := by decide +kernel
theorem dX12_joins_14 : decode cX12_joins 14 = .ok (.iadd, 1) := by decide +kernel
theorem dX12_joins_15 : decode cX12_joins 15 = .ok (.iaload, 1) := by decide +kernel
theorem dX12_joins_16 : decode cX12_joins 16 = .ok (.ifCond .le 7, 3) := by decide +kernel
theorem dX12_joins_19 : decode cX12_joins 19 = .ok (.iconst 1, 1) := by decide +kernel
theorem dX12_joins_20 : decode cX12_joins 20 = .ok (.goto 18, 3) := by decide +kernel
theorem dX12_joins_23 : decode cX12_joins 23 = .ok (.iconst 0, 1) := by decide +kernel
theorem dX12_joins_24 : decode cX12_joins 24 = .ok (.goto 14, 3) := by decide +kernel
theorem dX12_joins_27 : decode cX12_joins 27 = .ok (.aload_n 0, 1) := by decide +kernel
theorem dX12_joins_28 : decode cX12_joins 28 = .ok (.getfield 20, 3) := by decide +kernel
theorem dX12_joins_31 : decode cX12_joins 31 = .ok (.bipush 12, 2) := by decide +kernel
theorem dX12_joins_33 : decode cX12_joins 33 = .ok (.iload_n 1, 1) := by decide +kernel
theorem dX12_joins_34 : decode cX12_joins 34 = .ok (.imul, 1) := by decide +kernel
theorem dX12_joins_35 : decode cX12_joins 35 = .ok (.iload_n 2, 1) := by decide +kernel
theorem dX12_joins_36 : decode cX12_joins 36 = .ok (.iadd, 1) := by decide +kernel
theorem dX12_joins_37 : decode cX12_joins 37 = .ok (.baload, 1) := by decide +kernel
theorem dX12_joins_38 : decode cX12_joins 38 = .ok (.ireturn, 1) := by decide +kernel
theorem dX12_weight_0 : decode cX12_weight 0 = .ok (.iload_n 1, 1) := by decide +kernel
theorem dX12_weight_1 : decode cX12_weight 1 = .ok (.ifCond .ne 24, 3) := by decide +kernel
theorem dX12_weight_4 : decode cX12_weight 4 = .ok (.aload_n 0, 1) := by decide +kernel
theorem dX12_weight_5 : decode cX12_weight 5 = .ok (.getfield 23, 3) := by decide +kernel
theorem dX12_weight_8 : decode cX12_weight 8 = .ok (.bipush 16, 2) := by decide +kernel
theorem dX12_weight_10 : decode cX12_weight 10 = .ok (.iload_n 3, 1) := by decide +kernel
theorem dX12_weight_11 : decode cX12_weight 11 = .ok (.imul, 1) := by decide +kernel
theorem dX12_weight_12 : decode cX12_weight 12 = .ok (.iload 4, 2) := by decide +kernel
theorem dX12_weight_14 : decode cX12_weight 14 = .ok (.iadd, 1) := by decide +kernel
theorem dX12_weight_15 : decode cX12_weight 15 = .ok (.iaload, 1) := by decide +kernel
theorem dX12_weight_16 : decode cX12_weight 16 = .ok (.ifCond .le 7, 3) := by decide +kernel
theorem dX12_weight_19 : decode cX12_weight 19 = .ok (.iconst 1, 1) := by decide +kernel
theorem dX12_weight_20 : decode cX12_weight 20 = .ok (.goto 4, 3) := by decide +kernel
theorem dX12_weight_23 : decode cX12_weight 23 = .ok (.iconst 0, 1) := by decide +kernel
theorem dX12_weight_24 : decode cX12_weight 24 = .ok (.ireturn, 1) := by decide +kernel
theorem dX12_weight_25 : decode cX12_weight 25 = .ok (.iload_n 1, 1) := by decide +kernel
theorem dX12_weight_26 : decode cX12_weight 26 = .ok (.iconst 1, 1) := by decide +kernel
theorem dX12_weight_27 : decode cX12_weight 27 = .ok (.if_icmp .ne 16, 3) := by decide +kernel
theorem dX12_weight_30 : decode cX12_weight 30 = .ok (.aload_n 0, 1) := by decide +kernel
theorem dX12_weight_31 : decode cX12_weight 31 = .ok (.getfield 13, 3) := by decide +kernel
theorem dX12_weight_34 : decode cX12_weight 34 = .ok (.bipush 16, 2) := by decide +kernel
theorem dX12_weight_36 : decode cX12_weight 36 = .ok (.iload_n 2, 1) := by decide +kernel
theorem dX12_weight_37 : decode cX12_weight 37 = .ok (.imul, 1) := by decide +kernel
theorem dX12_weight_38 : decode cX12_weight 38 = .ok (.iload 4, 2) := by decide +kernel
theorem dX12_weight_40 : decode cX12_weight 40 = .ok (.iadd, 1) := by decide +kernel
theorem dX12_weight_41 : decode cX12_weight 41 = .ok (.iaload, 1) := by decide +kernel
theorem dX12_weight_42 : decode cX12_weight 42 = .ok (.ireturn, 1) := by decide +kernel
theorem dX12_weight_43 : decode cX12_weight 43 = .ok (.iconst 0, 1) := by decide +kernel
theorem dX12_weight_44 : decode cX12_weight 44 = .ok (.istore 5, 2) := by decide +kernel
theorem dX12_weight_46 : decode cX12_weight 46 = .ok (.iconst 0, 1) := by decide +kernel
theorem dX12_weight_47 : decode cX12_weight 47 = .ok (.istore 6, 2) := by decide +kernel
theorem dX12_weight_49 : decode cX12_weight 49 = .ok (.iload 6, 2) := by decide +kernel
theorem dX12_weight_51 : decode cX12_weight 51 = .ok (.bipush 12, 2) := by decide +kernel
theorem dX12_weight_53 : decode cX12_weight 53 = .ok (.if_icmp .ge 42, 3) := by decide +kernel
theorem dX12_weight_56 : decode cX12_weight 56 = .ok (.iload 5, 2) := by decide +kernel
theorem dX12_weight_58 : decode cX12_weight 58 = .ok (.aload_n 0, 1) := by decide +kernel
theorem dX12_weight_59 : decode cX12_weight 59 = .ok (.iload_n 2, 1) := by decide +kernel
theorem dX12_weight_60 : decode cX12_weight 60 = .ok (.iload 6, 2) := by decide +kernel
theorem dX12_weight_62 : decode cX12_weight 62 = .ok (.iload_n 1, 1) := by decide +kernel
theorem dX12_weight_63 : decode cX12_weight 63 = .ok (.invokevirtual 240, 3) := by decide +kernel
theorem dX12_weight_66 : decode cX12_weight 66 = .ok (.ifCond .eq 19, 3) := by decide +kernel
theorem dX12_weight_69 : decode cX12_weight 69 = .ok (.aload_n 0, 1) := by decide +kernel
theorem dX12_weight_70 : decode cX12_weight 70 = .ok (.getfield 13, 3) := by decide +kernel
theorem dX12_weight_73 : decode cX12_weight 73 = .ok (.bipush 16, 2) := by decide +kernel
theorem dX12_weight_75 : decode cX12_weight 75 = .ok (.iload 6, 2) := by decide +kernel
theorem dX12_weight_77 : decode cX12_weight 77 = .ok (.imul, 1) := by decide +kernel
theorem dX12_weight_78 : decode cX12_weight 78 = .ok (.iload 4, 2) := by decide +kernel
theorem dX12_weight_80 : decode cX12_weight 80 = .ok (.iadd, 1) := by decide +kernel
theorem dX12_weight_81 : decode cX12_weight 81 = .ok (.iaload, 1) := by decide +kernel
theorem dX12_weight_82 : decode cX12_weight 82 = .ok (.goto 4, 3) := by decide +kernel
theorem dX12_weight_85 : decode cX12_weight 85 = .ok (.iconst 0, 1) := by decide +kernel
theorem dX12_weight_86 : decode cX12_weight 86 = .ok (.iadd, 1) := by decide +kernel
theorem dX12_weight_87 : decode cX12_weight 87 = .ok (.istore 5, 2) := by decide +kernel
theorem dX12_weight_89 : decode cX12_weight 89 = .ok (.iinc 6 1, 3) := by decide +kernel
theorem dX12_weight_92 : decode cX12_weight 92 = .ok (.goto (-43), 3) := by decide +kernel
theorem dX12_weight_95 : decode cX12_weight 95 = .ok (.iload 5, 2) := by decide +kernel
theorem dX12_weight_97 : decode cX12_weight 97 = .ok (.ireturn, 1) := by decide +kernel
theorem dX12_stands_0 : decode cX12_stands 0 = .ok (.aload_n 0, 1) := by decide +kernel
theorem dX12_stands_1 : decode cX12_stands 1 = .ok (.iconst 0, 1) := by decide +kernel
theorem dX12_stands_2 : decode cX12_stands 2 = .ok (.putfield 218, 3) := by decide +kernel
theorem dX12_stands_5 : decode cX12_stands 5 = .ok (.aload_n 0, 1) := by decide +kernel
theorem dX12_stands_6 : decode cX12_stands 6 = .ok (.iload_n 1, 1) := by decide +kernel
theorem dX12_stands_7 : decode cX12_stands 7 = .ok (.invokevirtual 230, 3) := by decide +kernel
theorem dX12_stands_10 : decode cX12_stands 10 = .ok (.ifCond .eq 17, 3) := by decide +kernel
theorem dX12_stands_13 : decode cX12_stands 13 = .ok (.iload_n 2, 1) := by decide +kernel
theorem dX12_stands_14 : decode cX12_stands 14 = .ok (.invokestatic 226, 3) := by decide +kernel
theorem dX12_stands_17 : decode cX12_stands 17 = .ok (.ifCond .eq 10, 3) := by decide +kernel
theorem dX12_stands_20 : decode cX12_stands 20 = .ok (.iload_n 3, 1) := by decide +kernel
theorem dX12_stands_21 : decode cX12_stands 21 = .ok (.invokestatic 226, 3) := by decide +kernel
theorem dX12_stands_24 : decode cX12_stands 24 = .ok (.ifCond .ne 5, 3) := by decide +kernel
theorem dX12_stands_27 : decode cX12_stands 27 = .ok (.iconst (-1), 1) := by decide +kernel
theorem dX12_stands_28 : decode cX12_stands 28 = .ok (.ireturn, 1) := by decide +kernel
theorem dX12_stands_29 : decode cX12_stands 29 = .ok (.iconst 0, 1) := by decide +kernel
theorem dX12_stands_30 : decode cX12_stands 30 = .ok (.istore 4, 2) := by decide +kernel
theorem dX12_stands_32 : decode cX12_stands 32 = .ok (.iconst 0, 1) := by decide +kernel
theorem dX12_stands_33 : decode cX12_stands 33 = .ok (.istore 5, 2) := by decide +kernel
theorem dX12_stands_35 : decode cX12_stands 35 = .ok (.iload 5, 2) := by decide +kernel
theorem dX12_stands_37 : decode cX12_stands 37 = .ok (.iconst 4, 1) := by decide +kernel
theorem dX12_stands_38 : decode cX12_stands 38 = .ok (.if_icmp .ge 34, 3) := by decide +kernel
theorem dX12_stands_41 : decode cX12_stands 41 = .ok (.iload 4, 2) := by decide +kernel
theorem dX12_stands_43 : decode cX12_stands 43 = .ok (.aload_n 0, 1) := by decide +kernel
theorem dX12_stands_44 : decode cX12_stands 44 = .ok (.iload 5, 2) := by decide +kernel
theorem dX12_stands_46 : decode cX12_stands 46 = .ok (.iload_n 1, 1) := by decide +kernel
theorem dX12_stands_47 : decode cX12_stands 47 = .ok (.iload_n 2, 1) := by decide +kernel
theorem dX12_stands_48 : decode cX12_stands 48 = .ok (.iload_n 3, 1) := by decide +kernel
theorem dX12_stands_49 : decode cX12_stands 49 = .ok (.invokevirtual 243, 3) := by decide +kernel
theorem dX12_stands_52 : decode cX12_stands 52 = .ok (.ifCond .le 10, 3) := by decide +kernel
theorem dX12_stands_55 : decode cX12_stands 55 = .ok (.iconst 1, 1) := by decide +kernel
theorem dX12_stands_56 : decode cX12_stands 56 = .ok (.iload 5, 2) := by decide +kernel
theorem dX12_stands_58 : decode cX12_stands 58 = .ok (.ishl, 1) := by decide +kernel
theorem dX12_stands_59 : decode cX12_stands 59 = .ok (.goto 4, 3) := by decide +kernel
theorem dX12_stands_62 : decode cX12_stands 62 = .ok (.iconst 0, 1) := by decide +kernel
theorem dX12_stands_63 : decode cX12_stands 63 = .ok (.ior, 1) := by decide +kernel
theorem dX12_stands_64 : decode cX12_stands 64 = .ok (.istore 4, 2) := by decide +kernel
theorem dX12_stands_66 : decode cX12_stands 66 = .ok (.iinc 5 1, 3) := by decide +kernel
theorem dX12_stands_69 : decode cX12_stands 69 = .ok (.goto (-34), 3) := by decide +kernel
theorem dX12_stands_72 : decode cX12_stands 72 = .ok (.iload 4, 2) := by decide +kernel
theorem dX12_stands_74 : decode cX12_stands 74 = .ok (.ireturn, 1) := by decide +kernel
theorem dX12_feed_0 : decode cX12_feed 0 = .ok (.aload_n 0, 1) := by decide +kernel
theorem dX12_feed_1 : decode cX12_feed 1 = .ok (.iconst 0, 1) := by decide +kernel
theorem dX12_feed_2 : decode cX12_feed 2 = .ok (.putfield 218, 3) := by decide +kernel
theorem dX12_feed_5 : decode cX12_feed 5 = .ok (.iconst 0, 1) := by decide +kernel
theorem dX12_feed_6 : decode cX12_feed 6 = .ok (.istore 7, 2) := by decide +kernel
theorem dX12_feed_8 : decode cX12_feed 8 = .ok (.iload 7, 2) := by decide +kernel
theorem dX12_feed_10 : decode cX12_feed 10 = .ok (.bipush 24, 2) := by decide +kernel
theorem dX12_feed_12 : decode cX12_feed 12 = .ok (.if_icmp .ge 108, 3) := by decide +kernel
theorem dX12_feed_15 : decode cX12_feed 15 = .ok (.iload 7, 2) := by decide +kernel
theorem dX12_feed_17 : decode cX12_feed 17 = .ok (.bipush 8, 2) := by decide +kernel
theorem dX12_feed_19 : decode cX12_feed 19 = .ok (.if_icmp .ge 7, 3) := by decide +kernel
theorem dX12_feed_22 : decode cX12_feed 22 = .ok (.lload_n 1, 1) := by decide +kernel
theorem dX12_feed_23 : decode cX12_feed 23 = .ok (.goto 16, 3) := by decide +kernel
theorem dX12_feed_26 : decode cX12_feed 26 = .ok (.iload 7, 2) := by decide +kernel
theorem dX12_feed_28 : decode cX12_feed 28 = .ok (.bipush 16, 2) := by decide +kernel
theorem dX12_feed_30 : decode cX12_feed 30 = .ok (.if_icmp .ge 7, 3) := by decide +kernel
theorem dX12_feed_33 : decode cX12_feed 33 = .ok (.lload_n 3, 1) := by decide +kernel
theorem dX12_feed_34 : decode cX12_feed 34 = .ok (.goto 5, 3) := by decide +kernel
theorem dX12_feed_37 : decode cX12_feed 37 = .ok (.lload 5, 2) := by decide +kernel
theorem dX12_feed_39 : decode cX12_feed 39 = .ok (.lstore 8, 2) := by decide +kernel
theorem dX12_feed_41 : decode cX12_feed 41 = .ok (.lload 8, 2) := by decide +kernel
theorem dX12_feed_43 : decode cX12_feed 43 = .ok (.bipush 56, 2) := by decide +kernel
theorem dX12_feed_45 : decode cX12_feed 45 = .ok (.bipush 8, 2) := by decide +kernel
theorem dX12_feed_47 : decode cX12_feed 47 = .ok (.iload 7, 2) := by decide +kernel
theorem dX12_feed_49 : decode cX12_feed 49 = .ok (.bipush 7, 2) := by decide +kernel
theorem dX12_feed_51 : decode cX12_feed 51 = .ok (.iand, 1) := by decide +kernel
theorem dX12_feed_52 : decode cX12_feed 52 = .ok (.imul, 1) := by decide +kernel
theorem dX12_feed_53 : decode cX12_feed 53 = .ok (.isub, 1) := by decide +kernel
theorem dX12_feed_54 : decode cX12_feed 54 = .ok (.lushr, 1) := by decide +kernel
theorem dX12_feed_55 : decode cX12_feed 55 = .ok (.ldc2_w 247, 3) := by decide +kernel
theorem dX12_feed_58 : decode cX12_feed 58 = .ok (.land, 1) := by decide +kernel
theorem dX12_feed_59 : decode cX12_feed 59 = .ok (.l2i, 1) := by decide +kernel
theorem dX12_feed_60 : decode cX12_feed 60 = .ok (.istore 10, 2) := by decide +kernel
theorem dX12_feed_62 : decode cX12_feed 62 = .ok (.aload_n 0, 1) := by decide +kernel
theorem dX12_feed_63 : decode cX12_feed 63 = .ok (.getfield 249, 3) := by decide +kernel
theorem dX12_feed_66 : decode cX12_feed 66 = .ok (.sipush 1000, 3) := by decide +kernel
theorem dX12_feed_69 : decode cX12_feed 69 = .ok (.if_icmp .ge 45, 3) := by decide +kernel
theorem dX12_feed_72 : decode cX12_feed 72 = .ok (.iload 10, 2) := by decide +kernel
theorem dX12_feed_74 : decode cX12_feed 74 = .ok (.bipush 10, 2) := by decide +kernel
theorem dX12_feed_76 : decode cX12_feed 76 = .ok (.if_icmp .eq 17, 3) := by decide +kernel
theorem dX12_feed_79 : decode cX12_feed 79 = .ok (.iload 10, 2) := by decide +kernel
theorem dX12_feed_81 : decode cX12_feed 81 = .ok (.bipush 32, 2) := by decide +kernel
theorem dX12_feed_83 : decode cX12_feed 83 = .ok (.if_icmp .lt 31, 3) := by decide +kernel
theorem dX12_feed_86 : decode cX12_feed 86 = .ok (.iload 10, 2) := by decide +kernel
theorem dX12_feed_88 : decode cX12_feed 88 = .ok (.bipush 126, 2) := by decide +kernel
theorem dX12_feed_90 : decode cX12_feed 90 = .ok (.if_icmp .gt 24, 3) := by decide +kernel
theorem dX12_feed_93 : decode cX12_feed 93 = .ok (.aload_n 0, 1) := by decide +kernel
theorem dX12_feed_94 : decode cX12_feed 94 = .ok (.getfield 32, 3) := by decide +kernel
theorem dX12_feed_97 : decode cX12_feed 97 = .ok (.aload_n 0, 1) := by decide +kernel
theorem dX12_feed_98 : decode cX12_feed 98 = .ok (.getfield 249, 3) := by decide +kernel
theorem dX12_feed_101 : decode cX12_feed 101 = .ok (.iload 10, 2) := by decide +kernel
theorem dX12_feed_103 : decode cX12_feed 103 = .ok (.iastore, 1) := by decide +kernel
theorem dX12_feed_104 : decode cX12_feed 104 = .ok (.aload_n 0, 1) := by decide +kernel
theorem dX12_feed_105 : decode cX12_feed 105 = .ok (.dup, 1) := by decide +kernel
theorem dX12_feed_106 : decode cX12_feed 106 = .ok (.getfield 249, 3) := by decide +kernel
theorem dX12_feed_109 : decode cX12_feed 109 = .ok (.iconst 1, 1) := by decide +kernel
theorem dX12_feed_110 : decode cX12_feed 110 = .ok (.iadd, 1) := by decide +kernel
theorem dX12_feed_111 : decode cX12_feed 111 = .ok (.putfield 249, 3) := by decide +kernel
theorem dX12_feed_114 : decode cX12_feed 114 = .ok (.iinc 7 1, 3) := by decide +kernel
theorem dX12_feed_117 : decode cX12_feed 117 = .ok (.goto (-109), 3) := by decide +kernel
theorem dX12_feed_120 : decode cX12_feed 120 = .ok (.aload_n 0, 1) := by decide +kernel
theorem dX12_feed_121 : decode cX12_feed 121 = .ok (.getfield 249, 3) := by decide +kernel
theorem dX12_feed_124 : decode cX12_feed 124 = .ok (.ireturn, 1) := by decide +kernel
theorem dX12_signAt_0 : decode cX12_signAt 0 = .ok (.iload_n 1, 1) := by decide +kernel
theorem dX12_signAt_1 : decode cX12_signAt 1 = .ok (.aload_n 0, 1) := by decide +kernel
theorem dX12_signAt_2 : decode cX12_signAt 2 = .ok (.getfield 252, 3) := by decide +kernel
theorem dX12_signAt_5 : decode cX12_signAt 5 = .ok (.if_icmp .ge 12, 3) := by decide +kernel
theorem dX12_signAt_8 : decode cX12_signAt 8 = .ok (.aload_n 0, 1) := by decide +kernel
theorem dX12_signAt_9 : decode cX12_signAt 9 = .ok (.getfield 32, 3) := by decide +kernel
theorem dX12_signAt_12 : decode cX12_signAt 12 = .ok (.iload_n 1, 1) := by decide +kernel
theorem dX12_signAt_13 : decode cX12_signAt 13 = .ok (.iaload, 1) := by decide +kernel
theorem dX12_signAt_14 : decode cX12_signAt 14 = .ok (.goto 4, 3) := by decide +kernel
theorem dX12_signAt_17 : decode cX12_signAt 17 = .ok (.iconst 0, 1) := by decide +kernel
theorem dX12_signAt_18 : decode cX12_signAt 18 = .ok (.ireturn, 1) := by decide +kernel
theorem dX12_nextToken_0 : decode cX12_nextToken 0 = .ok (.aload_n 0, 1) := by decide +kernel
theorem dX12_nextToken_1 : decode cX12_nextToken 1 = .ok (.getfield 255, 3) := by decide +kernel
theorem dX12_nextToken_4 : decode cX12_nextToken 4 = .ok (.aload_n 0, 1) := by decide +kernel
theorem dX12_nextToken_5 : decode cX12_nextToken 5 = .ok (.getfield 252, 3) := by decide +kernel
theorem dX12_nextToken_8 : decode cX12_nextToken 8 = .ok (.if_icmp .ge 44, 3) := by decide +kernel
theorem dX12_nextToken_11 : decode cX12_nextToken 11 = .ok (.aload_n 0, 1) := by decide +kernel
theorem dX12_nextToken_12 : decode cX12_nextToken 12 = .ok (.getfield 32, 3) := by decide +kernel
theorem dX12_nextToken_15 : decode cX12_nextToken 15 = .ok (.aload_n 0, 1) := by decide +kernel
theorem dX12_nextToken_16 : decode cX12_nextToken 16 = .ok (.getfield 255, 3) := by decide +kernel
theorem dX12_nextToken_19 : decode cX12_nextToken 19 = .ok (.iaload, 1) := by decide +kernel
theorem dX12_nextToken_20 : decode cX12_nextToken 20 = .ok (.bipush 32, 2) := by decide +kernel
theorem dX12_nextToken_22 : decode cX12_nextToken 22 = .ok (.if_icmp .eq 17, 3) := by decide +kernel
theorem dX12_nextToken_25 : decode cX12_nextToken 25 = .ok (.aload_n 0, 1) := by decide +kernel
theorem dX12_nextToken_26 : decode cX12_nextToken 26 = .ok (.getfield 32, 3) := by decide +kernel
theorem dX12_nextToken_29 : decode cX12_nextToken 29 = .ok (.aload_n 0, 1) := by decide +kernel
theorem dX12_nextToken_30 : decode cX12_nextToken 30 = .ok (.getfield 255, 3) := by decide +kernel
theorem dX12_nextToken_33 : decode cX12_nextToken 33 = .ok (.iaload, 1) := by decide +kernel
theorem dX12_nextToken_34 : decode cX12_nextToken 34 = .ok (.bipush 10, 2) := by decide +kernel
theorem dX12_nextToken_36 : decode cX12_nextToken 36 = .ok (.if_icmp .ne 16, 3) := by decide +kernel
theorem dX12_nextToken_39 : decode cX12_nextToken 39 = .ok (.aload_n 0, 1) := by decide +kernel
theorem dX12_nextToken_40 : decode cX12_nextToken 40 = .ok (.dup, 1) := by decide +kernel
theorem dX12_nextToken_41 : decode cX12_nextToken 41 = .ok (.getfield 255, 3) := by decide +kernel
theorem dX12_nextToken_44 : decode cX12_nextToken 44 = .ok (.iconst 1, 1) := by decide +kernel
theorem dX12_nextToken_45 : decode cX12_nextToken 45 = .ok (.iadd, 1) := by decide +kernel
theorem dX12_nextToken_46 : decode cX12_nextToken 46 = .ok (.putfield 255, 3) := by decide +kernel
theorem dX12_nextToken_49 : decode cX12_nextToken 49 = .ok (.goto (-49), 3) := by decide +kernel
theorem dX12_nextToken_52 : decode cX12_nextToken 52 = .ok (.aload_n 0, 1) := by decide +kernel
theorem dX12_nextToken_53 : decode cX12_nextToken 53 = .ok (.aload_n 0, 1) := by decide +kernel
theorem dX12_nextToken_54 : decode cX12_nextToken 54 = .ok (.getfield 255, 3) := by decide +kernel
theorem dX12_nextToken_57 : decode cX12_nextToken 57 = .ok (.putfield 258, 3) := by decide +kernel
theorem dX12_nextToken_60 : decode cX12_nextToken 60 = .ok (.aload_n 0, 1) := by decide +kernel
theorem dX12_nextToken_61 : decode cX12_nextToken 61 = .ok (.lconst 0, 1) := by decide +kernel
theorem dX12_nextToken_62 : decode cX12_nextToken 62 = .ok (.putfield 261, 3) := by decide +kernel
theorem dX12_nextToken_65 : decode cX12_nextToken 65 = .ok (.aload_n 0, 1) := by decide +kernel
theorem dX12_nextToken_66 : decode cX12_nextToken 66 = .ok (.iconst 0, 1) := by decide +kernel
theorem dX12_nextToken_67 : decode cX12_nextToken 67 = .ok (.putfield 265, 3) := by decide +kernel
theorem dX12_nextToken_70 : decode cX12_nextToken 70 = .ok (.aload_n 0, 1) := by decide +kernel
theorem dX12_nextToken_71 : decode cX12_nextToken 71 = .ok (.getfield 255, 3) := by decide +kernel
theorem dX12_nextToken_74 : decode cX12_nextToken 74 = .ok (.aload_n 0, 1) := by decide +kernel
theorem dX12_nextToken_75 : decode cX12_nextToken 75 = .ok (.getfield 252, 3) := by decide +kernel
theorem dX12_nextToken_78 : decode cX12_nextToken 78 = .ok (.if_icmp .ne 9, 3) := by decide +kernel
theorem dX12_nextToken_81 : decode cX12_nextToken 81 = .ok (.aload_n 0, 1) := by decide +kernel
theorem dX12_nextToken_82 : decode cX12_nextToken 82 = .ok (.iconst 0, 1) := by decide +kernel
theorem dX12_nextToken_83 : decode cX12_nextToken 83 = .ok (.putfield 268, 3) := by decide +kernel
theorem dX12_nextToken_86 : decode cX12_nextToken 86 = .ok (.return_, 1) := by decide +kernel
theorem dX12_nextToken_87 : decode cX12_nextToken 87 = .ok (.aload_n 0, 1) := by decide +kernel
theorem dX12_nextToken_88 : decode cX12_nextToken 88 = .ok (.getfield 32, 3) := by decide +kernel
theorem dX12_nextToken_91 : decode cX12_nextToken 91 = .ok (.aload_n 0, 1) := by decide +kernel
theorem dX12_nextToken_92 : decode cX12_nextToken 92 = .ok (.getfield 255, 3) := by decide +kernel
theorem dX12_nextToken_95 : decode cX12_nextToken 95 = .ok (.iaload, 1) := by decide +kernel
theorem dX12_nextToken_96 : decode cX12_nextToken 96 = .ok (.istore_n 1, 1) := by decide +kernel
theorem dX12_nextToken_97 : decode cX12_nextToken 97 = .ok (.iload_n 1, 1) := by decide +kernel
theorem dX12_nextToken_98 : decode cX12_nextToken 98 = .ok (.bipush 97, 2) := by decide +kernel
theorem dX12_nextToken_100 : decode cX12_nextToken 100 = .ok (.if_icmp .lt 112, 3) := by decide +kernel
theorem dX12_nextToken_103 : decode cX12_nextToken 103 = .ok (.iload_n 1, 1) := by decide +kernel
theorem dX12_nextToken_104 : decode cX12_nextToken 104 = .ok (.bipush 122, 2) := by decide +kernel
theorem dX12_nextToken_106 : decode cX12_nextToken 106 = .ok (.if_icmp .gt 106, 3) := by decide +kernel
theorem dX12_nextToken_109 : decode cX12_nextToken 109 = .ok (.aload_n 0, 1) := by decide +kernel
theorem dX12_nextToken_110 : decode cX12_nextToken 110 = .ok (.aload_n 0, 1) := by decide +kernel
theorem dX12_nextToken_111 : decode cX12_nextToken 111 = .ok (.getfield 255, 3) := by decide +kernel
theorem dX12_nextToken_114 : decode cX12_nextToken 114 = .ok (.invokevirtual 271, 3) := by decide +kernel
theorem dX12_nextToken_117 : decode cX12_nextToken 117 = .ok (.bipush 97, 2) := by decide +kernel
theorem dX12_nextToken_119 : decode cX12_nextToken 119 = .ok (.if_icmp .lt 69, 3) := by decide +kernel
theorem dX12_nextToken_122 : decode cX12_nextToken 122 = .ok (.aload_n 0, 1) := by decide +kernel
theorem dX12_nextToken_123 : decode cX12_nextToken 123 = .ok (.aload_n 0, 1) := by decide +kernel
theorem dX12_nextToken_124 : decode cX12_nextToken 124 = .ok (.getfield 255, 3) := by decide +kernel
theorem dX12_nextToken_127 : decode cX12_nextToken 127 = .ok (.invokevirtual 271, 3) := by decide +kernel
theorem dX12_nextToken_130 : decode cX12_nextToken 130 = .ok (.bipush 122, 2) := by decide +kernel
theorem dX12_nextToken_132 : decode cX12_nextToken 132 = .ok (.if_icmp .gt 56, 3) := by decide +kernel
theorem dX12_nextToken_135 : decode cX12_nextToken 135 = .ok (.aload_n 0, 1) := by decide +kernel
theorem dX12_nextToken_136 : decode cX12_nextToken 136 = .ok (.getfield 255, 3) := by decide +kernel
theorem dX12_nextToken_139 : decode cX12_nextToken 139 = .ok (.aload_n 0, 1) := by decide +kernel
theorem dX12_nextToken_140 : decode cX12_nextToken 140 = .ok (.getfield 258, 3) := by decide +kernel
theorem dX12_nextToken_143 : decode cX12_nextToken 143 = .ok (.isub, 1) := by decide +kernel
theorem dX12_nextToken_144 : decode cX12_nextToken 144 = .ok (.bipush 8, 2) := by decide +kernel
theorem dX12_nextToken_146 : decode cX12_nextToken 146 = .ok (.if_icmp .ge 29, 3) := by decide +kernel
theorem dX12_nextToken_149 : decode cX12_nextToken 149 = .ok (.aload_n 0, 1) := by decide +kernel
theorem dX12_nextToken_150 : decode cX12_nextToken 150 = .ok (.aload_n 0, 1) := by decide +kernel
theorem dX12_nextToken_151 : decode cX12_nextToken 151 = .ok (.getfield 261, 3) := by decide +kernel
theorem dX12_nextToken_154 : decode cX12_nextToken 154 = .ok (.ldc2_w 275, 3) := by decide +kernel
theorem dX12_nextToken_157 : decode cX12_nextToken 157 = .ok (.lmul, 1) := by decide +kernel
theorem dX12_nextToken_158 : decode cX12_nextToken 158 = .ok (.aload_n 0, 1) := by decide +kernel
theorem dX12_nextToken_159 : decode cX12_nextToken 159 = .ok (.aload_n 0, 1) := by decide +kernel
theorem dX12_nextToken_160 : decode cX12_nextToken 160 = .ok (.getfield 255, 3) := by decide +kernel
theorem dX12_nextToken_163 : decode cX12_nextToken 163 = .ok (.invokevirtual 271, 3) := by decide +kernel
theorem dX12_nextToken_166 : decode cX12_nextToken 166 = .ok (.i2l, 1) := by decide +kernel
theorem dX12_nextToken_167 : decode cX12_nextToken 167 = .ok (.ladd, 1) := by decide +kernel
theorem dX12_nextToken_168 : decode cX12_nextToken 168 = .ok (.ldc2_w 277, 3) := by decide +kernel
theorem dX12_nextToken_171 : decode cX12_nextToken 171 = .ok (.lsub, 1) := by decide +kernel
theorem dX12_nextToken_172 : decode cX12_nextToken 172 = .ok (.putfield 261, 3) := by decide +kernel
theorem dX12_nextToken_175 : decode cX12_nextToken 175 = .ok (.aload_n 0, 1) := by decide +kernel
theorem dX12_nextToken_176 : decode cX12_nextToken 176 = .ok (.dup, 1) := by decide +kernel
theorem dX12_nextToken_177 : decode cX12_nextToken 177 = .ok (.getfield 255, 3) := by decide +kernel
theorem dX12_nextToken_180 : decode cX12_nextToken 180 = .ok (.iconst 1, 1) := by decide +kernel
theorem dX12_nextToken_181 : decode cX12_nextToken 181 = .ok (.iadd, 1) := by decide +kernel
theorem dX12_nextToken_182 : decode cX12_nextToken 182 = .ok (.putfield 255, 3) := by decide +kernel
theorem dX12_nextToken_185 : decode cX12_nextToken 185 = .ok (.goto (-76), 3) := by decide +kernel
theorem dX12_nextToken_188 : decode cX12_nextToken 188 = .ok (.aload_n 0, 1) := by decide +kernel
theorem dX12_nextToken_189 : decode cX12_nextToken 189 = .ok (.aload_n 0, 1) := by decide +kernel
theorem dX12_nextToken_190 : decode cX12_nextToken 190 = .ok (.getfield 255, 3) := by decide +kernel
theorem dX12_nextToken_193 : decode cX12_nextToken 193 = .ok (.aload_n 0, 1) := by decide +kernel
theorem dX12_nextToken_194 : decode cX12_nextToken 194 = .ok (.getfield 258, 3) := by decide +kernel
theorem dX12_nextToken_197 : decode cX12_nextToken 197 = .ok (.isub, 1) := by decide +kernel
theorem dX12_nextToken_198 : decode cX12_nextToken 198 = .ok (.bipush 8, 2) := by decide +kernel
theorem dX12_nextToken_200 : decode cX12_nextToken 200 = .ok (.if_icmp .le 7, 3) := by decide +kernel
theorem dX12_nextToken_203 : decode cX12_nextToken 203 = .ok (.iconst 4, 1) := by decide +kernel
theorem dX12_nextToken_204 : decode cX12_nextToken 204 = .ok (.goto 4, 3) := by decide +kernel
theorem dX12_nextToken_207 : decode cX12_nextToken 207 = .ok (.iconst 1, 1) := by decide +kernel
theorem dX12_nextToken_208 : decode cX12_nextToken 208 = .ok (.putfield 268, 3) := by decide +kernel
theorem dX12_nextToken_211 : decode cX12_nextToken 211 = .ok (.return_, 1) := by decide +kernel
theorem dX12_nextToken_212 : decode cX12_nextToken 212 = .ok (.iload_n 1, 1) := by decide +kernel
theorem dX12_nextToken_213 : decode cX12_nextToken 213 = .ok (.bipush 48, 2) := by decide +kernel
theorem dX12_nextToken_215 : decode cX12_nextToken 215 = .ok (.if_icmp .lt 107, 3) := by decide +kernel
theorem dX12_nextToken_218 : decode cX12_nextToken 218 = .ok (.iload_n 1, 1) := by decide +kernel
theorem dX12_nextToken_219 : decode cX12_nextToken 219 = .ok (.bipush 57, 2) := by decide +kernel
theorem dX12_nextToken_221 : decode cX12_nextToken 221 = .ok (.if_icmp .gt 101, 3) := by decide +kernel
theorem dX12_nextToken_224 : decode cX12_nextToken 224 = .ok (.aload_n 0, 1) := by decide +kernel
theorem dX12_nextToken_225 : decode cX12_nextToken 225 = .ok (.aload_n 0, 1) := by decide +kernel
theorem dX12_nextToken_226 : decode cX12_nextToken 226 = .ok (.getfield 255, 3) := by decide +kernel
theorem dX12_nextToken_229 : decode cX12_nextToken 229 = .ok (.invokevirtual 271, 3) := by decide +kernel
theorem dX12_nextToken_232 : decode cX12_nextToken 232 = .ok (.bipush 48, 2) := by decide +kernel
theorem dX12_nextToken_234 : decode cX12_nextToken 234 = .ok (.if_icmp .lt 65, 3) := by decide +kernel
theorem dX12_nextToken_237 : decode cX12_nextToken 237 = .ok (.aload_n 0, 1) := by decide +kernel
theorem dX12_nextToken_238 : decode cX12_nextToken 238 = .ok (.aload_n 0, 1) := by decide +kernel
theorem dX12_nextToken_239 : decode cX12_nextToken 239 = .ok (.getfield 255, 3) := by decide +kernel
theorem dX12_nextToken_242 : decode cX12_nextToken 242 = .ok (.invokevirtual 271, 3) := by decide +kernel
theorem dX12_nextToken_245 : decode cX12_nextToken 245 = .ok (.bipush 57, 2) := by decide +kernel
theorem dX12_nextToken_247 : decode cX12_nextToken 247 = .ok (.if_icmp .gt 52, 3) := by decide +kernel
theorem dX12_nextToken_250 : decode cX12_nextToken 250 = .ok (.aload_n 0, 1) := by decide +kernel
theorem dX12_nextToken_251 : decode cX12_nextToken 251 = .ok (.getfield 255, 3) := by decide +kernel
theorem dX12_nextToken_254 : decode cX12_nextToken 254 = .ok (.aload_n 0, 1) := by decide +kernel
theorem dX12_nextToken_255 : decode cX12_nextToken 255 = .ok (.getfield 258, 3) := by decide +kernel
theorem dX12_nextToken_258 : decode cX12_nextToken 258 = .ok (.isub, 1) := by decide +kernel
theorem dX12_nextToken_259 : decode cX12_nextToken 259 = .ok (.iconst 4, 1) := by decide +kernel
theorem dX12_nextToken_260 : decode cX12_nextToken 260 = .ok (.if_icmp .ge 26, 3) := by decide +kernel
theorem dX12_nextToken_263 : decode cX12_nextToken 263 = .ok (.aload_n 0, 1) := by decide +kernel
theorem dX12_nextToken_264 : decode cX12_nextToken 264 = .ok (.aload_n 0, 1) := by decide +kernel
theorem dX12_nextToken_265 : decode cX12_nextToken 265 = .ok (.getfield 265, 3) := by decide +kernel
theorem dX12_nextToken_268 : decode cX12_nextToken 268 = .ok (.bipush 10, 2) := by decide +kernel
theorem dX12_nextToken_270 : decode cX12_nextToken 270 = .ok (.imul, 1) := by decide +kernel
theorem dX12_nextToken_271 : decode cX12_nextToken 271 = .ok (.aload_n 0, 1) := by decide +kernel
theorem dX12_nextToken_272 : decode cX12_nextToken 272 = .ok (.aload_n 0, 1) := by decide +kernel
theorem dX12_nextToken_273 : decode cX12_nextToken 273 = .ok (.getfield 255, 3) := by decide +kernel
theorem dX12_nextToken_276 : decode cX12_nextToken 276 = .ok (.invokevirtual 271, 3) := by decide +kernel
theorem dX12_nextToken_279 : decode cX12_nextToken 279 = .ok (.iadd, 1) := by decide +kernel
theorem dX12_nextToken_280 : decode cX12_nextToken 280 = .ok (.bipush 48, 2) := by decide +kernel
theorem dX12_nextToken_282 : decode cX12_nextToken 282 = .ok (.isub, 1) := by decide +kernel
theorem dX12_nextToken_283 : decode cX12_nextToken 283 = .ok (.putfield 265, 3) := by decide +kernel
theorem dX12_nextToken_286 : decode cX12_nextToken 286 = .ok (.aload_n 0, 1) := by decide +kernel
theorem dX12_nextToken_287 : decode cX12_nextToken 287 = .ok (.dup, 1) := by decide +kernel
theorem dX12_nextToken_288 : decode cX12_nextToken 288 = .ok (.getfield 255, 3) := by decide +kernel
theorem dX12_nextToken_291 : decode cX12_nextToken 291 = .ok (.iconst 1, 1) := by decide +kernel
theorem dX12_nextToken_292 : decode cX12_nextToken 292 = .ok (.iadd, 1) := by decide +kernel
theorem dX12_nextToken_293 : decode cX12_nextToken 293 = .ok (.putfield 255, 3) := by decide +kernel
theorem dX12_nextToken_296 : decode cX12_nextToken 296 = .ok (.goto (-72), 3) := by decide +kernel
theorem dX12_nextToken_299 : decode cX12_nextToken 299 = .ok (.aload_n 0, 1) := by decide +kernel
theorem dX12_nextToken_300 : decode cX12_nextToken 300 = .ok (.aload_n 0, 1) := by decide +kernel
theorem dX12_nextToken_301 : decode cX12_nextToken 301 = .ok (.getfield 255, 3) := by decide +kernel
theorem dX12_nextToken_304 : decode cX12_nextToken 304 = .ok (.aload_n 0, 1) := by decide +kernel
theorem dX12_nextToken_305 : decode cX12_nextToken 305 = .ok (.getfield 258, 3) := by decide +kernel
theorem dX12_nextToken_308 : decode cX12_nextToken 308 = .ok (.isub, 1) := by decide +kernel
theorem dX12_nextToken_309 : decode cX12_nextToken 309 = .ok (.iconst 4, 1) := by decide +kernel
theorem dX12_nextToken_310 : decode cX12_nextToken 310 = .ok (.if_icmp .le 7, 3) := by decide +kernel
theorem dX12_nextToken_313 : decode cX12_nextToken 313 = .ok (.iconst 4, 1) := by decide +kernel
theorem dX12_nextToken_314 : decode cX12_nextToken 314 = .ok (.goto 4, 3) := by decide +kernel
theorem dX12_nextToken_317 : decode cX12_nextToken 317 = .ok (.iconst 2, 1) := by decide +kernel
theorem dX12_nextToken_318 : decode cX12_nextToken 318 = .ok (.putfield 268, 3) := by decide +kernel
theorem dX12_nextToken_321 : decode cX12_nextToken 321 = .ok (.return_, 1) := by decide +kernel
theorem dX12_nextToken_322 : decode cX12_nextToken 322 = .ok (.aload_n 0, 1) := by decide +kernel
theorem dX12_nextToken_323 : decode cX12_nextToken 323 = .ok (.dup, 1) := by decide +kernel
theorem dX12_nextToken_324 : decode cX12_nextToken 324 = .ok (.getfield 255, 3) := by decide +kernel
theorem dX12_nextToken_327 : decode cX12_nextToken 327 = .ok (.iconst 1, 1) := by decide +kernel
theorem dX12_nextToken_328 : decode cX12_nextToken 328 = .ok (.iadd, 1) := by decide +kernel
theorem dX12_nextToken_329 : decode cX12_nextToken 329 = .ok (.putfield 255, 3) := by decide +kernel
theorem dX12_nextToken_332 : decode cX12_nextToken 332 = .ok (.aload_n 0, 1) := by decide +kernel
theorem dX12_nextToken_333 : decode cX12_nextToken 333 = .ok (.iload_n 1, 1) := by decide +kernel
theorem dX12_nextToken_334 : decode cX12_nextToken 334 = .ok (.bipush 40, 2) := by decide +kernel
theorem dX12_nextToken_336 : decode cX12_nextToken 336 = .ok (.if_icmp .lt 9, 3) := by decide +kernel
theorem dX12_nextToken_339 : decode cX12_nextToken 339 = .ok (.iload_n 1, 1) := by decide +kernel
theorem dX12_nextToken_340 : decode cX12_nextToken 340 = .ok (.bipush 43, 2) := by decide +kernel
theorem dX12_nextToken_342 : decode cX12_nextToken 342 = .ok (.if_icmp .le 21, 3) := by decide +kernel
theorem dX12_nextToken_345 : decode cX12_nextToken 345 = .ok (.iload_n 1, 1) := by decide +kernel
theorem dX12_nextToken_346 : decode cX12_nextToken 346 = .ok (.bipush 45, 2) := by decide +kernel
theorem dX12_nextToken_348 : decode cX12_nextToken 348 = .ok (.if_icmp .eq 15, 3) := by decide +kernel
theorem dX12_nextToken_351 : decode cX12_nextToken 351 = .ok (.iload_n 1, 1) := by decide +kernel
theorem dX12_nextToken_352 : decode cX12_nextToken 352 = .ok (.bipush 59, 2) := by decide +kernel
theorem dX12_nextToken_354 : decode cX12_nextToken 354 = .ok (.if_icmp .lt 13, 3) := by decide +kernel
theorem dX12_nextToken_357 : decode cX12_nextToken 357 = .ok (.iload_n 1, 1) := by decide +kernel
theorem dX12_nextToken_358 : decode cX12_nextToken 358 = .ok (.bipush 61, 2) := by decide +kernel
theorem dX12_nextToken_360 : decode cX12_nextToken 360 = .ok (.if_icmp .gt 7, 3) := by decide +kernel
theorem dX12_nextToken_363 : decode cX12_nextToken 363 = .ok (.iconst 3, 1) := by decide +kernel
theorem dX12_nextToken_364 : decode cX12_nextToken 364 = .ok (.goto 4, 3) := by decide +kernel
theorem dX12_nextToken_367 : decode cX12_nextToken 367 = .ok (.iconst 4, 1) := by decide +kernel
theorem dX12_nextToken_368 : decode cX12_nextToken 368 = .ok (.putfield 268, 3) := by decide +kernel
theorem dX12_nextToken_371 : decode cX12_nextToken 371 = .ok (.return_, 1) := by decide +kernel
theorem dX12_isWord_0 : decode cX12_isWord 0 = .ok (.aload_n 0, 1) := by decide +kernel
theorem dX12_isWord_1 : decode cX12_isWord 1 = .ok (.getfield 268, 3) := by decide +kernel
theorem dX12_isWord_4 : decode cX12_isWord 4 = .ok (.iconst 1, 1) := by decide +kernel
theorem dX12_isWord_5 : decode cX12_isWord 5 = .ok (.if_icmp .ne 16, 3) := by decide +kernel
theorem dX12_isWord_8 : decode cX12_isWord 8 = .ok (.aload_n 0, 1) := by decide +kernel
theorem dX12_isWord_9 : decode cX12_isWord 9 = .ok (.getfield 261, 3) := by decide +kernel
theorem dX12_isWord_12 : decode cX12_isWord 12 = .ok (.lload_n 1, 1) := by decide +kernel
theorem dX12_isWord_13 : decode cX12_isWord 13 = .ok (.lcmp, 1) := by decide +kernel
theorem dX12_isWord_14 : decode cX12_isWord 14 = .ok (.ifCond .ne 7, 3) := by decide +kernel
theorem dX12_isWord_17 : decode cX12_isWord 17 = .ok (.iconst 1, 1) := by decide +kernel
theorem dX12_isWord_18 : decode cX12_isWord 18 = .ok (.goto 4, 3) := by decide +kernel
theorem dX12_isWord_21 : decode cX12_isWord 21 = .ok (.iconst 0, 1) := by decide +kernel
theorem dX12_isWord_22 : decode cX12_isWord 22 = .ok (.ireturn, 1) := by decide +kernel
theorem dX12_isSign_0 : decode cX12_isSign 0 = .ok (.aload_n 0, 1) := by decide +kernel
theorem dX12_isSign_1 : decode cX12_isSign 1 = .ok (.getfield 268, 3) := by decide +kernel
theorem dX12_isSign_4 : decode cX12_isSign 4 = .ok (.iconst 3, 1) := by decide +kernel
theorem dX12_isSign_5 : decode cX12_isSign 5 = .ok (.if_icmp .ne 20, 3) := by decide +kernel
theorem dX12_isSign_8 : decode cX12_isSign 8 = .ok (.aload_n 0, 1) := by decide +kernel
theorem dX12_isSign_9 : decode cX12_isSign 9 = .ok (.getfield 32, 3) := by decide +kernel
theorem dX12_isSign_12 : decode cX12_isSign 12 = .ok (.aload_n 0, 1) := by decide +kernel
theorem dX12_isSign_13 : decode cX12_isSign 13 = .ok (.getfield 258, 3) := by decide +kernel
theorem dX12_isSign_16 : decode cX12_isSign 16 = .ok (.iaload, 1) := by decide +kernel
theorem dX12_isSign_17 : decode cX12_isSign 17 = .ok (.iload_n 1, 1) := by decide +kernel
theorem dX12_isSign_18 : decode cX12_isSign 18 = .ok (.if_icmp .ne 7, 3) := by decide +kernel
theorem dX12_isSign_21 : decode cX12_isSign 21 = .ok (.iconst 1, 1) := by decide +kernel
theorem dX12_isSign_22 : decode cX12_isSign 22 = .ok (.goto 4, 3) := by decide +kernel
theorem dX12_isSign_25 : decode cX12_isSign 25 = .ok (.iconst 0, 1) := by decide +kernel
theorem dX12_isSign_26 : decode cX12_isSign 26 = .ok (.ireturn, 1) := by decide +kernel
theorem dX12_fails_0 : decode cX12_fails 0 = .ok (.aload_n 0, 1) := by decide +kernel
theorem dX12_fails_1 : decode cX12_fails 1 = .ok (.iload_n 1, 1) := by decide +kernel
theorem dX12_fails_2 : decode cX12_fails 2 = .ok (.bipush 16, 2) := by decide +kernel
theorem dX12_fails_4 : decode cX12_fails 4 = .ok (.aload_n 0, 1) := by decide +kernel
theorem dX12_fails_5 : decode cX12_fails 5 = .ok (.getfield 258, 3) := by decide +kernel
theorem dX12_fails_8 : decode cX12_fails 8 = .ok (.imul, 1) := by decide +kernel
theorem dX12_fails_9 : decode cX12_fails 9 = .ok (.iadd, 1) := by decide +kernel
theorem dX12_fails_10 : decode cX12_fails 10 = .ok (.putfield 279, 3) := by decide +kernel
theorem dX12_fails_13 : decode cX12_fails 13 = .ok (.iconst 0, 1) := by decide +kernel
theorem dX12_fails_14 : decode cX12_fails 14 = .ok (.ireturn, 1) := by decide +kernel
theorem dX12_puts_0 : decode cX12_puts 0 = .ok (.aload_n 0, 1) := by decide +kernel
theorem dX12_puts_1 : decode cX12_puts 1 = .ok (.getfield 59, 3) := by decide +kernel
theorem dX12_puts_4 : decode cX12_puts 4 = .ok (.aload_n 0, 1) := by decide +kernel
theorem dX12_puts_5 : decode cX12_puts 5 = .ok (.getfield 282, 3) := by decide +kernel
theorem dX12_puts_8 : decode cX12_puts 8 = .ok (.iload_n 1, 1) := by decide +kernel
theorem dX12_puts_9 : decode cX12_puts 9 = .ok (.iastore, 1) := by decide +kernel
theorem dX12_puts_10 : decode cX12_puts 10 = .ok (.aload_n 0, 1) := by decide +kernel
theorem dX12_puts_11 : decode cX12_puts 11 = .ok (.dup, 1) := by decide +kernel
theorem dX12_puts_12 : decode cX12_puts 12 = .ok (.getfield 282, 3) := by decide +kernel
theorem dX12_puts_15 : decode cX12_puts 15 = .ok (.iconst 1, 1) := by decide +kernel
theorem dX12_puts_16 : decode cX12_puts 16 = .ok (.iadd, 1) := by decide +kernel
theorem dX12_puts_17 : decode cX12_puts 17 = .ok (.putfield 282, 3) := by decide +kernel
theorem dX12_puts_20 : decode cX12_puts 20 = .ok (.return_, 1) := by decide +kernel
theorem dX12_fact_0 : decode cX12_fact 0 = .ok (.aload_n 0, 1) := by decide +kernel
theorem dX12_fact_1 : decode cX12_fact 1 = .ok (.getfield 268, 3) := by decide +kernel
theorem dX12_fact_4 : decode cX12_fact 4 = .ok (.iconst 1, 1) := by decide +kernel
theorem dX12_fact_5 : decode cX12_fact 5 = .ok (.if_icmp .eq 5, 3) := by decide +kernel
theorem dX12_fact_8 : decode cX12_fact 8 = .ok (.iconst 0, 1) := by decide +kernel
theorem dX12_fact_9 : decode cX12_fact 9 = .ok (.ireturn, 1) := by decide +kernel
theorem dX12_fact_10 : decode cX12_fact 10 = .ok (.aload_n 0, 1) := by decide +kernel
theorem dX12_fact_11 : decode cX12_fact 11 = .ok (.getfield 261, 3) := by decide +kernel
theorem dX12_fact_14 : decode cX12_fact 14 = .ok (.ldc2_w 285, 3) := by decide +kernel
theorem dX12_fact_17 : decode cX12_fact 17 = .ok (.lcmp, 1) := by decide +kernel
theorem dX12_fact_18 : decode cX12_fact 18 = .ok (.ifCond .ne 5, 3) := by decide +kernel
theorem dX12_fact_21 : decode cX12_fact 21 = .ok (.iconst 1, 1) := by decide +kernel
theorem dX12_fact_22 : decode cX12_fact 22 = .ok (.ireturn, 1) := by decide +kernel
theorem dX12_fact_23 : decode cX12_fact 23 = .ok (.aload_n 0, 1) := by decide +kernel
theorem dX12_fact_24 : decode cX12_fact 24 = .ok (.getfield 261, 3) := by decide +kernel
theorem dX12_fact_27 : decode cX12_fact 27 = .ok (.ldc2_w 287, 3) := by decide +kernel
theorem dX12_fact_30 : decode cX12_fact 30 = .ok (.lcmp, 1) := by decide +kernel
theorem dX12_fact_31 : decode cX12_fact 31 = .ok (.ifCond .ne 5, 3) := by decide +kernel
theorem dX12_fact_34 : decode cX12_fact 34 = .ok (.iconst 2, 1) := by decide +kernel
theorem dX12_fact_35 : decode cX12_fact 35 = .ok (.ireturn, 1) := by decide +kernel
theorem dX12_fact_36 : decode cX12_fact 36 = .ok (.aload_n 0, 1) := by decide +kernel
theorem dX12_fact_37 : decode cX12_fact 37 = .ok (.getfield 261, 3) := by decide +kernel
theorem dX12_fact_40 : decode cX12_fact 40 = .ok (.ldc2_w 289, 3) := by decide +kernel
theorem dX12_fact_43 : decode cX12_fact 43 = .ok (.lcmp, 1) := by decide +kernel
theorem dX12_fact_44 : decode cX12_fact 44 = .ok (.ifCond .ne 5, 3) := by decide +kernel
theorem dX12_fact_47 : decode cX12_fact 47 = .ok (.iconst 3, 1) := by decide +kernel
theorem dX12_fact_48 : decode cX12_fact 48 = .ok (.ireturn, 1) := by decide +kernel
theorem dX12_fact_49 : decode cX12_fact 49 = .ok (.aload_n 0, 1) := by decide +kernel
theorem dX12_fact_50 : decode cX12_fact 50 = .ok (.getfield 261, 3) := by decide +kernel
theorem dX12_fact_53 : decode cX12_fact 53 = .ok (.ldc2_w 291, 3) := by decide +kernel
theorem dX12_fact_56 : decode cX12_fact 56 = .ok (.lcmp, 1) := by decide +kernel
theorem dX12_fact_57 : decode cX12_fact 57 = .ok (.ifCond .ne 5, 3) := by decide +kernel
theorem dX12_fact_60 : decode cX12_fact 60 = .ok (.iconst 4, 1) := by decide +kernel
theorem dX12_fact_61 : decode cX12_fact 61 = .ok (.ireturn, 1) := by decide +kernel
theorem dX12_fact_62 : decode cX12_fact 62 = .ok (.aload_n 0, 1) := by decide +kernel
theorem dX12_fact_63 : decode cX12_fact 63 = .ok (.getfield 261, 3) := by decide +kernel
theorem dX12_fact_66 : decode cX12_fact 66 = .ok (.ldc2_w 293, 3) := by decide +kernel
theorem dX12_fact_69 : decode cX12_fact 69 = .ok (.lcmp, 1) := by decide +kernel
theorem dX12_fact_70 : decode cX12_fact 70 = .ok (.ifCond .ne 5, 3) := by decide +kernel
theorem dX12_fact_73 : decode cX12_fact 73 = .ok (.iconst 5, 1) := by decide +kernel
theorem dX12_fact_74 : decode cX12_fact 74 = .ok (.ireturn, 1) := by decide +kernel
theorem dX12_fact_75 : decode cX12_fact 75 = .ok (.aload_n 0, 1) := by decide +kernel
theorem dX12_fact_76 : decode cX12_fact 76 = .ok (.getfield 261, 3) := by decide +kernel
theorem dX12_fact_79 : decode cX12_fact 79 = .ok (.ldc2_w 295, 3) := by decide +kernel
theorem dX12_fact_82 : decode cX12_fact 82 = .ok (.lcmp, 1) := by decide +kernel
theorem dX12_fact_83 : decode cX12_fact 83 = .ok (.ifCond .ne 6, 3) := by decide +kernel
theorem dX12_fact_86 : decode cX12_fact 86 = .ok (.bipush 6, 2) := by decide +kernel
theorem dX12_fact_88 : decode cX12_fact 88 = .ok (.ireturn, 1) := by decide +kernel
theorem dX12_fact_89 : decode cX12_fact 89 = .ok (.aload_n 0, 1) := by decide +kernel
theorem dX12_fact_90 : decode cX12_fact 90 = .ok (.getfield 261, 3) := by decide +kernel
theorem dX12_fact_93 : decode cX12_fact 93 = .ok (.ldc2_w 297, 3) := by decide +kernel
theorem dX12_fact_96 : decode cX12_fact 96 = .ok (.lcmp, 1) := by decide +kernel
theorem dX12_fact_97 : decode cX12_fact 97 = .ok (.ifCond .ne 6, 3) := by decide +kernel
theorem dX12_fact_100 : decode cX12_fact 100 = .ok (.bipush 10, 2) := by decide +kernel
theorem dX12_fact_102 : decode cX12_fact 102 = .ok (.ireturn, 1) := by decide +kernel
theorem dX12_fact_103 : decode cX12_fact 103 = .ok (.aload_n 0, 1) := by decide +kernel
theorem dX12_fact_104 : decode cX12_fact 104 = .ok (.getfield 261, 3) := by decide +kernel
theorem dX12_fact_107 : decode cX12_fact 107 = .ok (.ldc2_w 299, 3) := by decide +kernel
theorem dX12_fact_110 : decode cX12_fact 110 = .ok (.lcmp, 1) := by decide +kernel
theorem dX12_fact_111 : decode cX12_fact 111 = .ok (.ifCond .ne 6, 3) := by decide +kernel
theorem dX12_fact_114 : decode cX12_fact 114 = .ok (.bipush 11, 2) := by decide +kernel
theorem dX12_fact_116 : decode cX12_fact 116 = .ok (.ireturn, 1) := by decide +kernel
theorem dX12_fact_117 : decode cX12_fact 117 = .ok (.aload_n 0, 1) := by decide +kernel
theorem dX12_fact_118 : decode cX12_fact 118 = .ok (.getfield 261, 3) := by decide +kernel
theorem dX12_fact_121 : decode cX12_fact 121 = .ok (.ldc2_w 301, 3) := by decide +kernel
theorem dX12_fact_124 : decode cX12_fact 124 = .ok (.lcmp, 1) := by decide +kernel
theorem dX12_fact_125 : decode cX12_fact 125 = .ok (.ifCond .ne 6, 3) := by decide +kernel
theorem dX12_fact_128 : decode cX12_fact 128 = .ok (.bipush 12, 2) := by decide +kernel
theorem dX12_fact_130 : decode cX12_fact 130 = .ok (.ireturn, 1) := by decide +kernel
theorem dX12_fact_131 : decode cX12_fact 131 = .ok (.aload_n 0, 1) := by decide +kernel
theorem dX12_fact_132 : decode cX12_fact 132 = .ok (.getfield 261, 3) := by decide +kernel
theorem dX12_fact_135 : decode cX12_fact 135 = .ok (.ldc2_w 303, 3) := by decide +kernel
theorem dX12_fact_138 : decode cX12_fact 138 = .ok (.lcmp, 1) := by decide +kernel
theorem dX12_fact_139 : decode cX12_fact 139 = .ok (.ifCond .ne 6, 3) := by decide +kernel
theorem dX12_fact_142 : decode cX12_fact 142 = .ok (.bipush 13, 2) := by decide +kernel
theorem dX12_fact_144 : decode cX12_fact 144 = .ok (.ireturn, 1) := by decide +kernel
theorem dX12_fact_145 : decode cX12_fact 145 = .ok (.aload_n 0, 1) := by decide +kernel
theorem dX12_fact_146 : decode cX12_fact 146 = .ok (.getfield 261, 3) := by decide +kernel
theorem dX12_fact_149 : decode cX12_fact 149 = .ok (.ldc2_w 305, 3) := by decide +kernel
theorem dX12_fact_152 : decode cX12_fact 152 = .ok (.lcmp, 1) := by decide +kernel
theorem dX12_fact_153 : decode cX12_fact 153 = .ok (.ifCond .ne 6, 3) := by decide +kernel
theorem dX12_fact_156 : decode cX12_fact 156 = .ok (.bipush 14, 2) := by decide +kernel
theorem dX12_fact_158 : decode cX12_fact 158 = .ok (.ireturn, 1) := by decide +kernel
theorem dX12_fact_159 : decode cX12_fact 159 = .ok (.aload_n 0, 1) := by decide +kernel
theorem dX12_fact_160 : decode cX12_fact 160 = .ok (.invokevirtual 307, 3) := by decide +kernel
theorem dX12_fact_163 : decode cX12_fact 163 = .ok (.ifCond .ge 7, 3) := by decide +kernel
theorem dX12_fact_166 : decode cX12_fact 166 = .ok (.iconst 0, 1) := by decide +kernel
theorem dX12_fact_167 : decode cX12_fact 167 = .ok (.goto 10, 3) := by decide +kernel
theorem dX12_fact_170 : decode cX12_fact 170 = .ok (.bipush 7, 2) := by decide +kernel
theorem dX12_fact_172 : decode cX12_fact 172 = .ok (.aload_n 0, 1) := by decide +kernel
theorem dX12_fact_173 : decode cX12_fact 173 = .ok (.invokevirtual 307, 3) := by decide +kernel
theorem dX12_fact_176 : decode cX12_fact 176 = .ok (.iadd, 1) := by decide +kernel
theorem dX12_fact_177 : decode cX12_fact 177 = .ok (.ireturn, 1) := by decide +kernel
theorem dX12_form_0 : decode cX12_form 0 = .ok (.aload_n 0, 1) := by decide +kernel
theorem dX12_form_1 : decode cX12_form 1 = .ok (.ldc2_w 311, 3) := by decide +kernel
theorem dX12_form_4 : decode cX12_form 4 = .ok (.invokevirtual 313, 3) := by decide +kernel
theorem dX12_form_7 : decode cX12_form 7 = .ok (.ifCond .eq 7, 3) := by decide +kernel
theorem dX12_form_10 : decode cX12_form 10 = .ok (.iconst 0, 1) := by decide +kernel
theorem dX12_form_11 : decode cX12_form 11 = .ok (.goto 32, 3) := by decide +kernel
theorem dX12_form_14 : decode cX12_form 14 = .ok (.aload_n 0, 1) := by decide +kernel
theorem dX12_form_15 : decode cX12_form 15 = .ok (.ldc2_w 317, 3) := by decide +kernel
theorem dX12_form_18 : decode cX12_form 18 = .ok (.invokevirtual 313, 3) := by decide +kernel
theorem dX12_form_21 : decode cX12_form 21 = .ok (.ifCond .eq 7, 3) := by decide +kernel
theorem dX12_form_24 : decode cX12_form 24 = .ok (.iconst 1, 1) := by decide +kernel
theorem dX12_form_25 : decode cX12_form 25 = .ok (.goto 18, 3) := by decide +kernel
theorem dX12_form_28 : decode cX12_form 28 = .ok (.aload_n 0, 1) := by decide +kernel
theorem dX12_form_29 : decode cX12_form 29 = .ok (.ldc2_w 319, 3) := by decide +kernel
theorem dX12_form_32 : decode cX12_form 32 = .ok (.invokevirtual 313, 3) := by decide +kernel
theorem dX12_form_35 : decode cX12_form 35 = .ok (.ifCond .eq 7, 3) := by decide +kernel
theorem dX12_form_38 : decode cX12_form 38 = .ok (.iconst 2, 1) := by decide +kernel
theorem dX12_form_39 : decode cX12_form 39 = .ok (.goto 4, 3) := by decide +kernel
theorem dX12_form_42 : decode cX12_form 42 = .ok (.iconst (-1), 1) := by decide +kernel
theorem dX12_form_43 : decode cX12_form 43 = .ok (.ireturn, 1) := by decide +kernel
theorem dX12_reads_0 : decode cX12_reads 0 = .ok (.iconst 0, 1) := by decide +kernel
theorem dX12_reads_1 : decode cX12_reads 1 = .ok (.istore_n 1, 1) := by decide +kernel
theorem dX12_reads_2 : decode cX12_reads 2 = .ok (.iconst 1, 1) := by decide +kernel
theorem dX12_reads_3 : decode cX12_reads 3 = .ok (.istore_n 2, 1) := by decide +kernel
theorem dX12_reads_4 : decode cX12_reads 4 = .ok (.aload_n 0, 1) := by decide +kernel
theorem dX12_reads_5 : decode cX12_reads 5 = .ok (.getfield 65, 3) := by decide +kernel
theorem dX12_reads_8 : decode cX12_reads 8 = .ok (.iconst 0, 1) := by decide +kernel
theorem dX12_reads_9 : decode cX12_reads 9 = .ok (.iconst 0, 1) := by decide +kernel
theorem dX12_reads_10 : decode cX12_reads 10 = .ok (.bastore, 1) := by decide +kernel
theorem dX12_reads_11 : decode cX12_reads 11 = .ok (.iload_n 2, 1) := by decide +kernel
theorem dX12_reads_12 : decode cX12_reads 12 = .ok (.ifCond .eq 167, 3) := by decide +kernel
theorem dX12_reads_15 : decode cX12_reads 15 = .ok (.aload_n 0, 1) := by decide +kernel
theorem dX12_reads_16 : decode cX12_reads 16 = .ok (.invokevirtual 321, 3) := by decide +kernel
theorem dX12_reads_19 : decode cX12_reads 19 = .ok (.istore_n 3, 1) := by decide +kernel
theorem dX12_reads_20 : decode cX12_reads 20 = .ok (.aload_n 0, 1) := by decide +kernel
theorem dX12_reads_21 : decode cX12_reads 21 = .ok (.ldc2_w 324, 3) := by decide +kernel
theorem dX12_reads_24 : decode cX12_reads 24 = .ok (.invokevirtual 313, 3) := by decide +kernel
theorem dX12_reads_27 : decode cX12_reads 27 = .ok (.istore 4, 2) := by decide +kernel
theorem dX12_reads_29 : decode cX12_reads 29 = .ok (.aload_n 0, 1) := by decide +kernel
theorem dX12_reads_30 : decode cX12_reads 30 = .ok (.bipush 40, 2) := by decide +kernel
theorem dX12_reads_32 : decode cX12_reads 32 = .ok (.invokevirtual 326, 3) := by decide +kernel
theorem dX12_reads_35 : decode cX12_reads 35 = .ok (.istore 5, 2) := by decide +kernel
theorem dX12_reads_37 : decode cX12_reads 37 = .ok (.iload_n 3, 1) := by decide +kernel
theorem dX12_reads_38 : decode cX12_reads 38 = .ok (.ifCond .ne 27, 3) := by decide +kernel
theorem dX12_reads_41 : decode cX12_reads 41 = .ok (.iload 4, 2) := by decide +kernel
theorem dX12_reads_43 : decode cX12_reads 43 = .ok (.ifCond .ne 22, 3) := by decide +kernel
theorem dX12_reads_46 : decode cX12_reads 46 = .ok (.iload 5, 2) := by decide +kernel
theorem dX12_reads_48 : decode cX12_reads 48 = .ok (.ifCond .ne 17, 3) := by decide +kernel
theorem dX12_reads_51 : decode cX12_reads 51 = .ok (.aload_n 0, 1) := by decide +kernel
theorem dX12_reads_52 : decode cX12_reads 52 = .ok (.getfield 268, 3) := by decide +kernel
theorem dX12_reads_55 : decode cX12_reads 55 = .ok (.iconst 2, 1) := by decide +kernel
theorem dX12_reads_56 : decode cX12_reads 56 = .ok (.if_icmp .eq 9, 3) := by decide +kernel
theorem dX12_reads_59 : decode cX12_reads 59 = .ok (.aload_n 0, 1) := by decide +kernel
theorem dX12_reads_60 : decode cX12_reads 60 = .ok (.iconst 1, 1) := by decide +kernel
theorem dX12_reads_61 : decode cX12_reads 61 = .ok (.invokevirtual 329, 3) := by decide +kernel
theorem dX12_reads_64 : decode cX12_reads 64 = .ok (.ireturn, 1) := by decide +kernel
theorem dX12_reads_65 : decode cX12_reads 65 = .ok (.iload_n 1, 1) := by decide +kernel
theorem dX12_reads_66 : decode cX12_reads 66 = .ok (.iconst 5, 1) := by decide +kernel
theorem dX12_reads_67 : decode cX12_reads 67 = .ok (.if_icmp .ne 9, 3) := by decide +kernel
theorem dX12_reads_70 : decode cX12_reads 70 = .ok (.aload_n 0, 1) := by decide +kernel
theorem dX12_reads_71 : decode cX12_reads 71 = .ok (.iconst 5, 1) := by decide +kernel
theorem dX12_reads_72 : decode cX12_reads 72 = .ok (.invokevirtual 329, 3) := by decide +kernel
theorem dX12_reads_75 : decode cX12_reads 75 = .ok (.ireturn, 1) := by decide +kernel
theorem dX12_reads_76 : decode cX12_reads 76 = .ok (.iload 4, 2) := by decide +kernel
theorem dX12_reads_78 : decode cX12_reads 78 = .ok (.ifCond .ne 8, 3) := by decide +kernel
theorem dX12_reads_81 : decode cX12_reads 81 = .ok (.iload 5, 2) := by decide +kernel
theorem dX12_reads_83 : decode cX12_reads 83 = .ok (.ifCond .eq 48, 3) := by decide +kernel
theorem dX12_reads_86 : decode cX12_reads 86 = .ok (.aload_n 0, 1) := by decide +kernel
theorem dX12_reads_87 : decode cX12_reads 87 = .ok (.iload 4, 2) := by decide +kernel
theorem dX12_reads_89 : decode cX12_reads 89 = .ok (.ifCond .eq 8, 3) := by decide +kernel
theorem dX12_reads_92 : decode cX12_reads 92 = .ok (.bipush 30, 2) := by decide +kernel
theorem dX12_reads_94 : decode cX12_reads 94 = .ok (.goto 5, 3) := by decide +kernel
theorem dX12_reads_97 : decode cX12_reads 97 = .ok (.bipush 28, 2) := by decide +kernel
theorem dX12_reads_99 : decode cX12_reads 99 = .ok (.invokevirtual 332, 3) := by decide +kernel
theorem dX12_reads_102 : decode cX12_reads 102 = .ok (.iinc 1 1, 3) := by decide +kernel
theorem dX12_reads_105 : decode cX12_reads 105 = .ok (.aload_n 0, 1) := by decide +kernel
theorem dX12_reads_106 : decode cX12_reads 106 = .ok (.getfield 62, 3) := by decide +kernel
theorem dX12_reads_109 : decode cX12_reads 109 = .ok (.iload_n 1, 1) := by decide +kernel
theorem dX12_reads_110 : decode cX12_reads 110 = .ok (.iload 4, 2) := by decide +kernel
theorem dX12_reads_112 : decode cX12_reads 112 = .ok (.ifCond .eq 7, 3) := by decide +kernel
theorem dX12_reads_115 : decode cX12_reads 115 = .ok (.iconst 1, 1) := by decide +kernel
theorem dX12_reads_116 : decode cX12_reads 116 = .ok (.goto 4, 3) := by decide +kernel
theorem dX12_reads_119 : decode cX12_reads 119 = .ok (.iconst 2, 1) := by decide +kernel
theorem dX12_reads_120 : decode cX12_reads 120 = .ok (.iastore, 1) := by decide +kernel
theorem dX12_reads_121 : decode cX12_reads 121 = .ok (.aload_n 0, 1) := by decide +kernel
theorem dX12_reads_122 : decode cX12_reads 122 = .ok (.getfield 65, 3) := by decide +kernel
theorem dX12_reads_125 : decode cX12_reads 125 = .ok (.iload_n 1, 1) := by decide +kernel
theorem dX12_reads_126 : decode cX12_reads 126 = .ok (.iconst 0, 1) := by decide +kernel
theorem dX12_reads_127 : decode cX12_reads 127 = .ok (.bastore, 1) := by decide +kernel
theorem dX12_reads_128 : decode cX12_reads 128 = .ok (.goto 44, 3) := by decide +kernel
theorem dX12_reads_131 : decode cX12_reads 131 = .ok (.aload_n 0, 1) := by decide +kernel
theorem dX12_reads_132 : decode cX12_reads 132 = .ok (.iload_n 3, 1) := by decide +kernel
theorem dX12_reads_133 : decode cX12_reads 133 = .ok (.ifCond .le 7, 3) := by decide +kernel
theorem dX12_reads_136 : decode cX12_reads 136 = .ok (.iload_n 3, 1) := by decide +kernel
theorem dX12_reads_137 : decode cX12_reads 137 = .ok (.goto 10, 3) := by decide +kernel
theorem dX12_reads_140 : decode cX12_reads 140 = .ok (.bipush 100, 2) := by decide +kernel
theorem dX12_reads_142 : decode cX12_reads 142 = .ok (.aload_n 0, 1) := by decide +kernel
theorem dX12_reads_143 : decode cX12_reads 143 = .ok (.getfield 265, 3) := by decide +kernel
theorem dX12_reads_146 : decode cX12_reads 146 = .ok (.iadd, 1) := by decide +kernel
theorem dX12_reads_147 : decode cX12_reads 147 = .ok (.invokevirtual 332, 3) := by decide +kernel
theorem dX12_reads_150 : decode cX12_reads 150 = .ok (.iconst 0, 1) := by decide +kernel
theorem dX12_reads_151 : decode cX12_reads 151 = .ok (.istore_n 2, 1) := by decide +kernel
theorem dX12_reads_152 : decode cX12_reads 152 = .ok (.iload_n 1, 1) := by decide +kernel
theorem dX12_reads_153 : decode cX12_reads 153 = .ok (.ifCond .le 19, 3) := by decide +kernel
theorem dX12_reads_156 : decode cX12_reads 156 = .ok (.aload_n 0, 1) := by decide +kernel
theorem dX12_reads_157 : decode cX12_reads 157 = .ok (.getfield 62, 3) := by decide +kernel
theorem dX12_reads_160 : decode cX12_reads 160 = .ok (.iload_n 1, 1) := by decide +kernel
theorem dX12_reads_161 : decode cX12_reads 161 = .ok (.iaload, 1) := by decide +kernel
theorem dX12_reads_162 : decode cX12_reads 162 = .ok (.iconst 1, 1) := by decide +kernel
theorem dX12_reads_163 : decode cX12_reads 163 = .ok (.if_icmp .ne 9, 3) := by decide +kernel
theorem dX12_reads_166 : decode cX12_reads 166 = .ok (.iinc 1 (-1), 3) := by decide +kernel
theorem dX12_reads_169 : decode cX12_reads 169 = .ok (.goto (-17), 3) := by decide +kernel
theorem dX12_reads_172 : decode cX12_reads 172 = .ok (.aload_n 0, 1) := by decide +kernel
theorem dX12_reads_173 : decode cX12_reads 173 = .ok (.invokevirtual 336, 3) := by decide +kernel
theorem dX12_reads_176 : decode cX12_reads 176 = .ok (.goto (-165), 3) := by decide +kernel
theorem dX12_reads_179 : decode cX12_reads 179 = .ok (.aload_n 0, 1) := by decide +kernel
theorem dX12_reads_180 : decode cX12_reads 180 = .ok (.bipush 43, 2) := by decide +kernel
theorem dX12_reads_182 : decode cX12_reads 182 = .ok (.invokevirtual 326, 3) := by decide +kernel
theorem dX12_reads_185 : decode cX12_reads 185 = .ok (.ifCond .ne 21, 3) := by decide +kernel
theorem dX12_reads_188 : decode cX12_reads 188 = .ok (.aload_n 0, 1) := by decide +kernel
theorem dX12_reads_189 : decode cX12_reads 189 = .ok (.bipush 45, 2) := by decide +kernel
theorem dX12_reads_191 : decode cX12_reads 191 = .ok (.invokevirtual 326, 3) := by decide +kernel
theorem dX12_reads_194 : decode cX12_reads 194 = .ok (.ifCond .ne 12, 3) := by decide +kernel
theorem dX12_reads_197 : decode cX12_reads 197 = .ok (.aload_n 0, 1) := by decide +kernel
theorem dX12_reads_198 : decode cX12_reads 198 = .ok (.bipush 42, 2) := by decide +kernel
theorem dX12_reads_200 : decode cX12_reads 200 = .ok (.invokevirtual 326, 3) := by decide +kernel
theorem dX12_reads_203 : decode cX12_reads 203 = .ok (.ifCond .eq 42, 3) := by decide +kernel
theorem dX12_reads_206 : decode cX12_reads 206 = .ok (.aload_n 0, 1) := by decide +kernel
theorem dX12_reads_207 : decode cX12_reads 207 = .ok (.aload_n 0, 1) := by decide +kernel
theorem dX12_reads_208 : decode cX12_reads 208 = .ok (.bipush 43, 2) := by decide +kernel
theorem dX12_reads_210 : decode cX12_reads 210 = .ok (.invokevirtual 326, 3) := by decide +kernel
theorem dX12_reads_213 : decode cX12_reads 213 = .ok (.ifCond .eq 8, 3) := by decide +kernel
theorem dX12_reads_216 : decode cX12_reads 216 = .ok (.bipush 20, 2) := by decide +kernel
theorem dX12_reads_218 : decode cX12_reads 218 = .ok (.goto 19, 3) := by decide +kernel
theorem dX12_reads_221 : decode cX12_reads 221 = .ok (.aload_n 0, 1) := by decide +kernel
theorem dX12_reads_222 : decode cX12_reads 222 = .ok (.bipush 45, 2) := by decide +kernel
theorem dX12_reads_224 : decode cX12_reads 224 = .ok (.invokevirtual 326, 3) := by decide +kernel
theorem dX12_reads_227 : decode cX12_reads 227 = .ok (.ifCond .eq 8, 3) := by decide +kernel
theorem dX12_reads_230 : decode cX12_reads 230 = .ok (.bipush 21, 2) := by decide +kernel
theorem dX12_reads_232 : decode cX12_reads 232 = .ok (.goto 5, 3) := by decide +kernel
theorem dX12_reads_235 : decode cX12_reads 235 = .ok (.bipush 22, 2) := by decide +kernel
theorem dX12_reads_237 : decode cX12_reads 237 = .ok (.invokevirtual 332, 3) := by decide +kernel
theorem dX12_reads_240 : decode cX12_reads 240 = .ok (.iconst 1, 1) := by decide +kernel
theorem dX12_reads_241 : decode cX12_reads 241 = .ok (.istore_n 2, 1) := by decide +kernel
theorem dX12_reads_242 : decode cX12_reads 242 = .ok (.goto 182, 3) := by decide +kernel
theorem dX12_reads_245 : decode cX12_reads 245 = .ok (.aload_n 0, 1) := by decide +kernel
theorem dX12_reads_246 : decode cX12_reads 246 = .ok (.bipush 60, 2) := by decide +kernel
theorem dX12_reads_248 : decode cX12_reads 248 = .ok (.invokevirtual 326, 3) := by decide +kernel
theorem dX12_reads_251 : decode cX12_reads 251 = .ok (.ifCond .ne 12, 3) := by decide +kernel
theorem dX12_reads_254 : decode cX12_reads 254 = .ok (.aload_n 0, 1) := by decide +kernel
theorem dX12_reads_255 : decode cX12_reads 255 = .ok (.bipush 61, 2) := by decide +kernel
theorem dX12_reads_257 : decode cX12_reads 257 = .ok (.invokevirtual 326, 3) := by decide +kernel
theorem dX12_reads_260 : decode cX12_reads 260 = .ok (.ifCond .eq 44, 3) := by decide +kernel
theorem dX12_reads_263 : decode cX12_reads 263 = .ok (.aload_n 0, 1) := by decide +kernel
theorem dX12_reads_264 : decode cX12_reads 264 = .ok (.getfield 65, 3) := by decide +kernel
theorem dX12_reads_267 : decode cX12_reads 267 = .ok (.iload_n 1, 1) := by decide +kernel
theorem dX12_reads_268 : decode cX12_reads 268 = .ok (.baload, 1) := by decide +kernel
theorem dX12_reads_269 : decode cX12_reads 269 = .ok (.ifCond .ne 35, 3) := by decide +kernel
theorem dX12_reads_272 : decode cX12_reads 272 = .ok (.aload_n 0, 1) := by decide +kernel
theorem dX12_reads_273 : decode cX12_reads 273 = .ok (.aload_n 0, 1) := by decide +kernel
theorem dX12_reads_274 : decode cX12_reads 274 = .ok (.bipush 60, 2) := by decide +kernel
theorem dX12_reads_276 : decode cX12_reads 276 = .ok (.invokevirtual 326, 3) := by decide +kernel
theorem dX12_reads_279 : decode cX12_reads 279 = .ok (.ifCond .eq 8, 3) := by decide +kernel
theorem dX12_reads_282 : decode cX12_reads 282 = .ok (.bipush 24, 2) := by decide +kernel
theorem dX12_reads_284 : decode cX12_reads 284 = .ok (.goto 5, 3) := by decide +kernel
theorem dX12_reads_287 : decode cX12_reads 287 = .ok (.bipush 25, 2) := by decide +kernel
theorem dX12_reads_289 : decode cX12_reads 289 = .ok (.invokevirtual 332, 3) := by decide +kernel
theorem dX12_reads_292 : decode cX12_reads 292 = .ok (.aload_n 0, 1) := by decide +kernel
theorem dX12_reads_293 : decode cX12_reads 293 = .ok (.getfield 65, 3) := by decide +kernel
theorem dX12_reads_296 : decode cX12_reads 296 = .ok (.iload_n 1, 1) := by decide +kernel
theorem dX12_reads_297 : decode cX12_reads 297 = .ok (.iconst 1, 1) := by decide +kernel
theorem dX12_reads_298 : decode cX12_reads 298 = .ok (.bastore, 1) := by decide +kernel
theorem dX12_reads_299 : decode cX12_reads 299 = .ok (.iconst 1, 1) := by decide +kernel
theorem dX12_reads_300 : decode cX12_reads 300 = .ok (.istore_n 2, 1) := by decide +kernel
theorem dX12_reads_301 : decode cX12_reads 301 = .ok (.goto 123, 3) := by decide +kernel
theorem dX12_reads_304 : decode cX12_reads 304 = .ok (.aload_n 0, 1) := by decide +kernel
theorem dX12_reads_305 : decode cX12_reads 305 = .ok (.ldc2_w 339, 3) := by decide +kernel
theorem dX12_reads_308 : decode cX12_reads 308 = .ok (.invokevirtual 313, 3) := by decide +kernel
theorem dX12_reads_311 : decode cX12_reads 311 = .ok (.ifCond .ne 13, 3) := by decide +kernel
theorem dX12_reads_314 : decode cX12_reads 314 = .ok (.aload_n 0, 1) := by decide +kernel
theorem dX12_reads_315 : decode cX12_reads 315 = .ok (.ldc2_w 341, 3) := by decide +kernel
theorem dX12_reads_318 : decode cX12_reads 318 = .ok (.invokevirtual 313, 3) := by decide +kernel
theorem dX12_reads_321 : decode cX12_reads 321 = .ok (.ifCond .eq 36, 3) := by decide +kernel
theorem dX12_reads_324 : decode cX12_reads 324 = .ok (.aload_n 0, 1) := by decide +kernel
theorem dX12_reads_325 : decode cX12_reads 325 = .ok (.aload_n 0, 1) := by decide +kernel
theorem dX12_reads_326 : decode cX12_reads 326 = .ok (.ldc2_w 339, 3) := by decide +kernel
theorem dX12_reads_329 : decode cX12_reads 329 = .ok (.invokevirtual 313, 3) := by decide +kernel
theorem dX12_reads_332 : decode cX12_reads 332 = .ok (.ifCond .eq 8, 3) := by decide +kernel
theorem dX12_reads_335 : decode cX12_reads 335 = .ok (.bipush 26, 2) := by decide +kernel
theorem dX12_reads_337 : decode cX12_reads 337 = .ok (.goto 5, 3) := by decide +kernel
theorem dX12_reads_340 : decode cX12_reads 340 = .ok (.bipush 27, 2) := by decide +kernel
theorem dX12_reads_342 : decode cX12_reads 342 = .ok (.invokevirtual 332, 3) := by decide +kernel
theorem dX12_reads_345 : decode cX12_reads 345 = .ok (.aload_n 0, 1) := by decide +kernel
theorem dX12_reads_346 : decode cX12_reads 346 = .ok (.getfield 65, 3) := by decide +kernel
theorem dX12_reads_349 : decode cX12_reads 349 = .ok (.iload_n 1, 1) := by decide +kernel
theorem dX12_reads_350 : decode cX12_reads 350 = .ok (.iconst 0, 1) := by decide +kernel
theorem dX12_reads_351 : decode cX12_reads 351 = .ok (.bastore, 1) := by decide +kernel
theorem dX12_reads_352 : decode cX12_reads 352 = .ok (.iconst 1, 1) := by decide +kernel
theorem dX12_reads_353 : decode cX12_reads 353 = .ok (.istore_n 2, 1) := by decide +kernel
theorem dX12_reads_354 : decode cX12_reads 354 = .ok (.goto 70, 3) := by decide +kernel
theorem dX12_reads_357 : decode cX12_reads 357 = .ok (.aload_n 0, 1) := by decide +kernel
theorem dX12_reads_358 : decode cX12_reads 358 = .ok (.bipush 41, 2) := by decide +kernel
theorem dX12_reads_360 : decode cX12_reads 360 = .ok (.invokevirtual 326, 3) := by decide +kernel
theorem dX12_reads_363 : decode cX12_reads 363 = .ok (.ifCond .eq 36, 3) := by decide +kernel
theorem dX12_reads_366 : decode cX12_reads 366 = .ok (.iload_n 1, 1) := by decide +kernel
theorem dX12_reads_367 : decode cX12_reads 367 = .ok (.ifCond .le 32, 3) := by decide +kernel
theorem dX12_reads_370 : decode cX12_reads 370 = .ok (.aload_n 0, 1) := by decide +kernel
theorem dX12_reads_371 : decode cX12_reads 371 = .ok (.bipush 29, 2) := by decide +kernel
theorem dX12_reads_373 : decode cX12_reads 373 = .ok (.invokevirtual 332, 3) := by decide +kernel
theorem dX12_reads_376 : decode cX12_reads 376 = .ok (.iinc 1 (-1), 3) := by decide +kernel
theorem dX12_reads_379 : decode cX12_reads 379 = .ok (.iload_n 1, 1) := by decide +kernel
theorem dX12_reads_380 : decode cX12_reads 380 = .ok (.ifCond .le 44, 3) := by decide +kernel
theorem dX12_reads_383 : decode cX12_reads 383 = .ok (.aload_n 0, 1) := by decide +kernel
theorem dX12_reads_384 : decode cX12_reads 384 = .ok (.getfield 62, 3) := by decide +kernel
theorem dX12_reads_387 : decode cX12_reads 387 = .ok (.iload_n 1, 1) := by decide +kernel
theorem dX12_reads_388 : decode cX12_reads 388 = .ok (.iaload, 1) := by decide +kernel
theorem dX12_reads_389 : decode cX12_reads 389 = .ok (.iconst 1, 1) := by decide +kernel
theorem dX12_reads_390 : decode cX12_reads 390 = .ok (.if_icmp .ne 34, 3) := by decide +kernel
theorem dX12_reads_393 : decode cX12_reads 393 = .ok (.iinc 1 (-1), 3) := by decide +kernel
theorem dX12_reads_396 : decode cX12_reads 396 = .ok (.goto (-17), 3) := by decide +kernel
theorem dX12_reads_399 : decode cX12_reads 399 = .ok (.iload_n 1, 1) := by decide +kernel
theorem dX12_reads_400 : decode cX12_reads 400 = .ok (.ifCond .ne 18, 3) := by decide +kernel
theorem dX12_reads_403 : decode cX12_reads 403 = .ok (.aload_n 0, 1) := by decide +kernel
theorem dX12_reads_404 : decode cX12_reads 404 = .ok (.bipush 59, 2) := by decide +kernel
theorem dX12_reads_406 : decode cX12_reads 406 = .ok (.invokevirtual 326, 3) := by decide +kernel
theorem dX12_reads_409 : decode cX12_reads 409 = .ok (.ifCond .eq 9, 3) := by decide +kernel
theorem dX12_reads_412 : decode cX12_reads 412 = .ok (.aload_n 0, 1) := by decide +kernel
theorem dX12_reads_413 : decode cX12_reads 413 = .ok (.invokevirtual 336, 3) := by decide +kernel
theorem dX12_reads_416 : decode cX12_reads 416 = .ok (.iconst 1, 1) := by decide +kernel
theorem dX12_reads_417 : decode cX12_reads 417 = .ok (.ireturn, 1) := by decide +kernel
theorem dX12_reads_418 : decode cX12_reads 418 = .ok (.aload_n 0, 1) := by decide +kernel
theorem dX12_reads_419 : decode cX12_reads 419 = .ok (.iconst 1, 1) := by decide +kernel
theorem dX12_reads_420 : decode cX12_reads 420 = .ok (.invokevirtual 329, 3) := by decide +kernel
theorem dX12_reads_423 : decode cX12_reads 423 = .ok (.ireturn, 1) := by decide +kernel
theorem dX12_reads_424 : decode cX12_reads 424 = .ok (.aload_n 0, 1) := by decide +kernel
theorem dX12_reads_425 : decode cX12_reads 425 = .ok (.invokevirtual 336, 3) := by decide +kernel
theorem dX12_reads_428 : decode cX12_reads 428 = .ok (.goto (-417), 3) := by decide +kernel
theorem dX12_readsWhen_0 : decode cX12_readsWhen 0 = .ok (.aload_n 0, 1) := by decide +kernel
theorem dX12_readsWhen_1 : decode cX12_readsWhen 1 = .ok (.ldc2_w 343, 3) := by decide +kernel
theorem dX12_readsWhen_4 : decode cX12_readsWhen 4 = .ok (.invokevirtual 313, 3) := by decide +kernel
theorem dX12_readsWhen_7 : decode cX12_readsWhen 7 = .ok (.ifCond .ne 9, 3) := by decide +kernel
theorem dX12_readsWhen_10 : decode cX12_readsWhen 10 = .ok (.aload_n 0, 1) := by decide +kernel
theorem dX12_readsWhen_11 : decode cX12_readsWhen 11 = .ok (.iconst 1, 1) := by decide +kernel
theorem dX12_readsWhen_12 : decode cX12_readsWhen 12 = .ok (.invokevirtual 329, 3) := by decide +kernel
theorem dX12_readsWhen_15 : decode cX12_readsWhen 15 = .ok (.ireturn, 1) := by decide +kernel
theorem dX12_readsWhen_16 : decode cX12_readsWhen 16 = .ok (.aload_n 0, 1) := by decide +kernel
theorem dX12_readsWhen_17 : decode cX12_readsWhen 17 = .ok (.invokevirtual 336, 3) := by decide +kernel
theorem dX12_readsWhen_20 : decode cX12_readsWhen 20 = .ok (.aload_n 0, 1) := by decide +kernel
theorem dX12_readsWhen_21 : decode cX12_readsWhen 21 = .ok (.getfield 50, 3) := by decide +kernel
theorem dX12_readsWhen_24 : decode cX12_readsWhen 24 = .ok (.iload_n 1, 1) := by decide +kernel
theorem dX12_readsWhen_25 : decode cX12_readsWhen 25 = .ok (.iconst 1, 1) := by decide +kernel
theorem dX12_readsWhen_26 : decode cX12_readsWhen 26 = .ok (.bastore, 1) := by decide +kernel
theorem dX12_readsWhen_27 : decode cX12_readsWhen 27 = .ok (.aload_n 0, 1) := by decide +kernel
theorem dX12_readsWhen_28 : decode cX12_readsWhen 28 = .ok (.getfield 53, 3) := by decide +kernel
theorem dX12_readsWhen_31 : decode cX12_readsWhen 31 = .ok (.iload_n 1, 1) := by decide +kernel
theorem dX12_readsWhen_32 : decode cX12_readsWhen 32 = .ok (.aload_n 0, 1) := by decide +kernel
theorem dX12_readsWhen_33 : decode cX12_readsWhen 33 = .ok (.getfield 282, 3) := by decide +kernel
theorem dX12_readsWhen_36 : decode cX12_readsWhen 36 = .ok (.iastore, 1) := by decide +kernel
theorem dX12_readsWhen_37 : decode cX12_readsWhen 37 = .ok (.aload_n 0, 1) := by decide +kernel
theorem dX12_readsWhen_38 : decode cX12_readsWhen 38 = .ok (.invokevirtual 345, 3) := by decide +kernel
theorem dX12_readsWhen_41 : decode cX12_readsWhen 41 = .ok (.ifCond .ne 5, 3) := by decide +kernel
theorem dX12_readsWhen_44 : decode cX12_readsWhen 44 = .ok (.iconst 0, 1) := by decide +kernel
theorem dX12_readsWhen_45 : decode cX12_readsWhen 45 = .ok (.ireturn, 1) := by decide +kernel
theorem dX12_readsWhen_46 : decode cX12_readsWhen 46 = .ok (.aload_n 0, 1) := by decide +kernel
theorem dX12_readsWhen_47 : decode cX12_readsWhen 47 = .ok (.getfield 56, 3) := by decide +kernel
theorem dX12_readsWhen_50 : decode cX12_readsWhen 50 = .ok (.iload_n 1, 1) := by decide +kernel
theorem dX12_readsWhen_51 : decode cX12_readsWhen 51 = .ok (.aload_n 0, 1) := by decide +kernel
theorem dX12_readsWhen_52 : decode cX12_readsWhen 52 = .ok (.getfield 282, 3) := by decide +kernel
theorem dX12_readsWhen_55 : decode cX12_readsWhen 55 = .ok (.iastore, 1) := by decide +kernel
theorem dX12_readsWhen_56 : decode cX12_readsWhen 56 = .ok (.iconst 1, 1) := by decide +kernel
theorem dX12_readsWhen_57 : decode cX12_readsWhen 57 = .ok (.ireturn, 1) := by decide +kernel
theorem dX12_readsFirst_0 : decode cX12_readsFirst 0 = .ok (.aload_n 0, 1) := by decide +kernel
theorem dX12_readsFirst_1 : decode cX12_readsFirst 1 = .ok (.ldc2_w 349, 3) := by decide +kernel
theorem dX12_readsFirst_4 : decode cX12_readsFirst 4 = .ok (.invokevirtual 313, 3) := by decide +kernel
theorem dX12_readsFirst_7 : decode cX12_readsFirst 7 = .ok (.ifCond .eq 7, 3) := by decide +kernel
theorem dX12_readsFirst_10 : decode cX12_readsFirst 10 = .ok (.iconst 0, 1) := by decide +kernel
theorem dX12_readsFirst_11 : decode cX12_readsFirst 11 = .ok (.goto 46, 3) := by decide +kernel
theorem dX12_readsFirst_14 : decode cX12_readsFirst 14 = .ok (.aload_n 0, 1) := by decide +kernel
theorem dX12_readsFirst_15 : decode cX12_readsFirst 15 = .ok (.ldc2_w 351, 3) := by decide +kernel
theorem dX12_readsFirst_18 : decode cX12_readsFirst 18 = .ok (.invokevirtual 313, 3) := by decide +kernel
theorem dX12_readsFirst_21 : decode cX12_readsFirst 21 = .ok (.ifCond .eq 7, 3) := by decide +kernel
theorem dX12_readsFirst_24 : decode cX12_readsFirst 24 = .ok (.iconst 1, 1) := by decide +kernel
theorem dX12_readsFirst_25 : decode cX12_readsFirst 25 = .ok (.goto 32, 3) := by decide +kernel
theorem dX12_readsFirst_28 : decode cX12_readsFirst 28 = .ok (.aload_n 0, 1) := by decide +kernel
theorem dX12_readsFirst_29 : decode cX12_readsFirst 29 = .ok (.ldc2_w 353, 3) := by decide +kernel
theorem dX12_readsFirst_32 : decode cX12_readsFirst 32 = .ok (.invokevirtual 313, 3) := by decide +kernel
theorem dX12_readsFirst_35 : decode cX12_readsFirst 35 = .ok (.ifCond .eq 7, 3) := by decide +kernel
theorem dX12_readsFirst_38 : decode cX12_readsFirst 38 = .ok (.iconst 2, 1) := by decide +kernel
theorem dX12_readsFirst_39 : decode cX12_readsFirst 39 = .ok (.goto 18, 3) := by decide +kernel
theorem dX12_readsFirst_42 : decode cX12_readsFirst 42 = .ok (.aload_n 0, 1) := by decide +kernel
theorem dX12_readsFirst_43 : decode cX12_readsFirst 43 = .ok (.ldc2_w 355, 3) := by decide +kernel
theorem dX12_readsFirst_46 : decode cX12_readsFirst 46 = .ok (.invokevirtual 313, 3) := by decide +kernel
theorem dX12_readsFirst_49 : decode cX12_readsFirst 49 = .ok (.ifCond .eq 7, 3) := by decide +kernel
theorem dX12_readsFirst_52 : decode cX12_readsFirst 52 = .ok (.iconst 3, 1) := by decide +kernel
theorem dX12_readsFirst_53 : decode cX12_readsFirst 53 = .ok (.goto 4, 3) := by decide +kernel
theorem dX12_readsFirst_56 : decode cX12_readsFirst 56 = .ok (.iconst (-1), 1) := by decide +kernel
theorem dX12_readsFirst_57 : decode cX12_readsFirst 57 = .ok (.istore_n 2, 1) := by decide +kernel
theorem dX12_readsFirst_58 : decode cX12_readsFirst 58 = .ok (.iload_n 2, 1) := by decide +kernel
theorem dX12_readsFirst_59 : decode cX12_readsFirst 59 = .ok (.ifCond .ge 9, 3) := by decide +kernel
theorem dX12_readsFirst_62 : decode cX12_readsFirst 62 = .ok (.aload_n 0, 1) := by decide +kernel
theorem dX12_readsFirst_63 : decode cX12_readsFirst 63 = .ok (.iconst 1, 1) := by decide +kernel
theorem dX12_readsFirst_64 : decode cX12_readsFirst 64 = .ok (.invokevirtual 329, 3) := by decide +kernel
theorem dX12_readsFirst_67 : decode cX12_readsFirst 67 = .ok (.ireturn, 1) := by decide +kernel
theorem dX12_readsFirst_68 : decode cX12_readsFirst 68 = .ok (.aload_n 0, 1) := by decide +kernel
theorem dX12_readsFirst_69 : decode cX12_readsFirst 69 = .ok (.getfield 41, 3) := by decide +kernel
theorem dX12_readsFirst_72 : decode cX12_readsFirst 72 = .ok (.iload_n 1, 1) := by decide +kernel
theorem dX12_readsFirst_73 : decode cX12_readsFirst 73 = .ok (.iload_n 2, 1) := by decide +kernel
theorem dX12_readsFirst_74 : decode cX12_readsFirst 74 = .ok (.iastore, 1) := by decide +kernel
theorem dX12_readsFirst_75 : decode cX12_readsFirst 75 = .ok (.aload_n 0, 1) := by decide +kernel
theorem dX12_readsFirst_76 : decode cX12_readsFirst 76 = .ok (.invokevirtual 336, 3) := by decide +kernel
theorem dX12_readsFirst_79 : decode cX12_readsFirst 79 = .ok (.aload_n 0, 1) := by decide +kernel
theorem dX12_readsFirst_80 : decode cX12_readsFirst 80 = .ok (.ldc2_w 357, 3) := by decide +kernel
theorem dX12_readsFirst_83 : decode cX12_readsFirst 83 = .ok (.invokevirtual 313, 3) := by decide +kernel
theorem dX12_readsFirst_86 : decode cX12_readsFirst 86 = .ok (.ifCond .ne 9, 3) := by decide +kernel
theorem dX12_readsFirst_89 : decode cX12_readsFirst 89 = .ok (.aload_n 0, 1) := by decide +kernel
theorem dX12_readsFirst_90 : decode cX12_readsFirst 90 = .ok (.iconst 1, 1) := by decide +kernel
theorem dX12_readsFirst_91 : decode cX12_readsFirst 91 = .ok (.invokevirtual 329, 3) := by decide +kernel
theorem dX12_readsFirst_94 : decode cX12_readsFirst 94 = .ok (.ireturn, 1) := by decide +kernel
theorem dX12_readsFirst_95 : decode cX12_readsFirst 95 = .ok (.aload_n 0, 1) := by decide +kernel
theorem dX12_readsFirst_96 : decode cX12_readsFirst 96 = .ok (.invokevirtual 336, 3) := by decide +kernel
theorem dX12_readsFirst_99 : decode cX12_readsFirst 99 = .ok (.aload_n 0, 1) := by decide +kernel
theorem dX12_readsFirst_100 : decode cX12_readsFirst 100 = .ok (.getfield 44, 3) := by decide +kernel
theorem dX12_readsFirst_103 : decode cX12_readsFirst 103 = .ok (.iload_n 1, 1) := by decide +kernel
theorem dX12_readsFirst_104 : decode cX12_readsFirst 104 = .ok (.iconst 0, 1) := by decide +kernel
theorem dX12_readsFirst_105 : decode cX12_readsFirst 105 = .ok (.iastore, 1) := by decide +kernel
theorem dX12_readsFirst_106 : decode cX12_readsFirst 106 = .ok (.aload_n 0, 1) := by decide +kernel
theorem dX12_readsFirst_107 : decode cX12_readsFirst 107 = .ok (.invokevirtual 307, 3) := by decide +kernel
theorem dX12_readsFirst_110 : decode cX12_readsFirst 110 = .ok (.ifCond .lt 48, 3) := by decide +kernel
theorem dX12_readsFirst_113 : decode cX12_readsFirst 113 = .ok (.aload_n 0, 1) := by decide +kernel
theorem dX12_readsFirst_114 : decode cX12_readsFirst 114 = .ok (.getfield 44, 3) := by decide +kernel
theorem dX12_readsFirst_117 : decode cX12_readsFirst 117 = .ok (.iload_n 1, 1) := by decide +kernel
theorem dX12_readsFirst_118 : decode cX12_readsFirst 118 = .ok (.iaload, 1) := by decide +kernel
theorem dX12_readsFirst_119 : decode cX12_readsFirst 119 = .ok (.aload_n 0, 1) := by decide +kernel
theorem dX12_readsFirst_120 : decode cX12_readsFirst 120 = .ok (.invokevirtual 307, 3) := by decide +kernel
theorem dX12_readsFirst_123 : decode cX12_readsFirst 123 = .ok (.ishr, 1) := by decide +kernel
theorem dX12_readsFirst_124 : decode cX12_readsFirst 124 = .ok (.iconst 1, 1) := by decide +kernel
theorem dX12_readsFirst_125 : decode cX12_readsFirst 125 = .ok (.iand, 1) := by decide +kernel
theorem dX12_readsFirst_126 : decode cX12_readsFirst 126 = .ok (.iconst 1, 1) := by decide +kernel
theorem dX12_readsFirst_127 : decode cX12_readsFirst 127 = .ok (.if_icmp .ne 9, 3) := by decide +kernel
theorem dX12_readsFirst_130 : decode cX12_readsFirst 130 = .ok (.aload_n 0, 1) := by decide +kernel
theorem dX12_readsFirst_131 : decode cX12_readsFirst 131 = .ok (.iconst 3, 1) := by decide +kernel
theorem dX12_readsFirst_132 : decode cX12_readsFirst 132 = .ok (.invokevirtual 329, 3) := by decide +kernel
theorem dX12_readsFirst_135 : decode cX12_readsFirst 135 = .ok (.ireturn, 1) := by decide +kernel
theorem dX12_readsFirst_136 : decode cX12_readsFirst 136 = .ok (.aload_n 0, 1) := by decide +kernel
theorem dX12_readsFirst_137 : decode cX12_readsFirst 137 = .ok (.getfield 44, 3) := by decide +kernel
theorem dX12_readsFirst_140 : decode cX12_readsFirst 140 = .ok (.iload_n 1, 1) := by decide +kernel
theorem dX12_readsFirst_141 : decode cX12_readsFirst 141 = .ok (.dup2, 1) := by decide +kernel
theorem dX12_readsFirst_142 : decode cX12_readsFirst 142 = .ok (.iaload, 1) := by decide +kernel
theorem dX12_readsFirst_143 : decode cX12_readsFirst 143 = .ok (.iconst 1, 1) := by decide +kernel
theorem dX12_readsFirst_144 : decode cX12_readsFirst 144 = .ok (.aload_n 0, 1) := by decide +kernel
theorem dX12_readsFirst_145 : decode cX12_readsFirst 145 = .ok (.invokevirtual 307, 3) := by decide +kernel
theorem dX12_readsFirst_148 : decode cX12_readsFirst 148 = .ok (.ishl, 1) := by decide +kernel
theorem dX12_readsFirst_149 : decode cX12_readsFirst 149 = .ok (.ior, 1) := by decide +kernel
theorem dX12_readsFirst_150 : decode cX12_readsFirst 150 = .ok (.iastore, 1) := by decide +kernel
theorem dX12_readsFirst_151 : decode cX12_readsFirst 151 = .ok (.aload_n 0, 1) := by decide +kernel
theorem dX12_readsFirst_152 : decode cX12_readsFirst 152 = .ok (.invokevirtual 336, 3) := by decide +kernel
theorem dX12_readsFirst_155 : decode cX12_readsFirst 155 = .ok (.goto (-49), 3) := by decide +kernel
theorem dX12_readsFirst_158 : decode cX12_readsFirst 158 = .ok (.aload_n 0, 1) := by decide +kernel
theorem dX12_readsFirst_159 : decode cX12_readsFirst 159 = .ok (.getfield 44, 3) := by decide +kernel
theorem dX12_readsFirst_162 : decode cX12_readsFirst 162 = .ok (.iload_n 1, 1) := by decide +kernel
theorem dX12_readsFirst_163 : decode cX12_readsFirst 163 = .ok (.iaload, 1) := by decide +kernel
theorem dX12_readsFirst_164 : decode cX12_readsFirst 164 = .ok (.ifCond .eq 13, 3) := by decide +kernel
theorem dX12_readsFirst_167 : decode cX12_readsFirst 167 = .ok (.aload_n 0, 1) := by decide +kernel
theorem dX12_readsFirst_168 : decode cX12_readsFirst 168 = .ok (.ldc2_w 359, 3) := by decide +kernel
theorem dX12_readsFirst_171 : decode cX12_readsFirst 171 = .ok (.invokevirtual 313, 3) := by decide +kernel
theorem dX12_readsFirst_174 : decode cX12_readsFirst 174 = .ok (.ifCond .ne 9, 3) := by decide +kernel
theorem dX12_readsFirst_177 : decode cX12_readsFirst 177 = .ok (.aload_n 0, 1) := by decide +kernel
theorem dX12_readsFirst_178 : decode cX12_readsFirst 178 = .ok (.iconst 1, 1) := by decide +kernel
theorem dX12_readsFirst_179 : decode cX12_readsFirst 179 = .ok (.invokevirtual 329, 3) := by decide +kernel
theorem dX12_readsFirst_182 : decode cX12_readsFirst 182 = .ok (.ireturn, 1) := by decide +kernel
theorem dX12_readsFirst_183 : decode cX12_readsFirst 183 = .ok (.aload_n 0, 1) := by decide +kernel
theorem dX12_readsFirst_184 : decode cX12_readsFirst 184 = .ok (.invokevirtual 336, 3) := by decide +kernel
theorem dX12_readsFirst_187 : decode cX12_readsFirst 187 = .ok (.aload_n 0, 1) := by decide +kernel
theorem dX12_readsFirst_188 : decode cX12_readsFirst 188 = .ok (.getfield 268, 3) := by decide +kernel
theorem dX12_readsFirst_191 : decode cX12_readsFirst 191 = .ok (.iconst 2, 1) := by decide +kernel
theorem dX12_readsFirst_192 : decode cX12_readsFirst 192 = .ok (.if_icmp .eq 9, 3) := by decide +kernel
theorem dX12_readsFirst_195 : decode cX12_readsFirst 195 = .ok (.aload_n 0, 1) := by decide +kernel
theorem dX12_readsFirst_196 : decode cX12_readsFirst 196 = .ok (.iconst 1, 1) := by decide +kernel
theorem dX12_readsFirst_197 : decode cX12_readsFirst 197 = .ok (.invokevirtual 329, 3) := by decide +kernel
theorem dX12_readsFirst_200 : decode cX12_readsFirst 200 = .ok (.ireturn, 1) := by decide +kernel
theorem dX12_readsFirst_201 : decode cX12_readsFirst 201 = .ok (.aload_n 0, 1) := by decide +kernel
theorem dX12_readsFirst_202 : decode cX12_readsFirst 202 = .ok (.getfield 265, 3) := by decide +kernel
theorem dX12_readsFirst_205 : decode cX12_readsFirst 205 = .ok (.sipush 999, 3) := by decide +kernel
theorem dX12_readsFirst_208 : decode cX12_readsFirst 208 = .ok (.if_icmp .le 9, 3) := by decide +kernel
theorem dX12_readsFirst_211 : decode cX12_readsFirst 211 = .ok (.aload_n 0, 1) := by decide +kernel
theorem dX12_readsFirst_212 : decode cX12_readsFirst 212 = .ok (.iconst 4, 1) := by decide +kernel
theorem dX12_readsFirst_213 : decode cX12_readsFirst 213 = .ok (.invokevirtual 329, 3) := by decide +kernel
theorem dX12_readsFirst_216 : decode cX12_readsFirst 216 = .ok (.ireturn, 1) := by decide +kernel
theorem dX12_readsFirst_217 : decode cX12_readsFirst 217 = .ok (.aload_n 0, 1) := by decide +kernel
theorem dX12_readsFirst_218 : decode cX12_readsFirst 218 = .ok (.getfield 47, 3) := by decide +kernel
theorem dX12_readsFirst_221 : decode cX12_readsFirst 221 = .ok (.iload_n 1, 1) := by decide +kernel
theorem dX12_readsFirst_222 : decode cX12_readsFirst 222 = .ok (.aload_n 0, 1) := by decide +kernel
theorem dX12_readsFirst_223 : decode cX12_readsFirst 223 = .ok (.getfield 265, 3) := by decide +kernel
theorem dX12_readsFirst_226 : decode cX12_readsFirst 226 = .ok (.iastore, 1) := by decide +kernel
theorem dX12_readsFirst_227 : decode cX12_readsFirst 227 = .ok (.aload_n 0, 1) := by decide +kernel
theorem dX12_readsFirst_228 : decode cX12_readsFirst 228 = .ok (.invokevirtual 336, 3) := by decide +kernel
theorem dX12_readsFirst_231 : decode cX12_readsFirst 231 = .ok (.aload_n 0, 1) := by decide +kernel
theorem dX12_readsFirst_232 : decode cX12_readsFirst 232 = .ok (.getfield 50, 3) := by decide +kernel
theorem dX12_readsFirst_235 : decode cX12_readsFirst 235 = .ok (.iload_n 1, 1) := by decide +kernel
theorem dX12_readsFirst_236 : decode cX12_readsFirst 236 = .ok (.iconst 0, 1) := by decide +kernel
theorem dX12_readsFirst_237 : decode cX12_readsFirst 237 = .ok (.bastore, 1) := by decide +kernel
theorem dX12_readsFirst_238 : decode cX12_readsFirst 238 = .ok (.aload_n 0, 1) := by decide +kernel
theorem dX12_readsFirst_239 : decode cX12_readsFirst 239 = .ok (.bipush 59, 2) := by decide +kernel
theorem dX12_readsFirst_241 : decode cX12_readsFirst 241 = .ok (.invokevirtual 326, 3) := by decide +kernel
theorem dX12_readsFirst_244 : decode cX12_readsFirst 244 = .ok (.ifCond .ne 9, 3) := by decide +kernel
theorem dX12_readsFirst_247 : decode cX12_readsFirst 247 = .ok (.aload_n 0, 1) := by decide +kernel
theorem dX12_readsFirst_248 : decode cX12_readsFirst 248 = .ok (.iload_n 1, 1) := by decide +kernel
theorem dX12_readsFirst_249 : decode cX12_readsFirst 249 = .ok (.invokevirtual 361, 3) := by decide +kernel
theorem dX12_readsFirst_252 : decode cX12_readsFirst 252 = .ok (.ireturn, 1) := by decide +kernel
theorem dX12_readsFirst_253 : decode cX12_readsFirst 253 = .ok (.aload_n 0, 1) := by decide +kernel
theorem dX12_readsFirst_254 : decode cX12_readsFirst 254 = .ok (.invokevirtual 336, 3) := by decide +kernel
theorem dX12_readsFirst_257 : decode cX12_readsFirst 257 = .ok (.iconst 1, 1) := by decide +kernel
theorem dX12_readsFirst_258 : decode cX12_readsFirst 258 = .ok (.ireturn, 1) := by decide +kernel
theorem dX12_readsWay_0 : decode cX12_readsWay 0 = .ok (.iload_n 1, 1) := by decide +kernel
theorem dX12_readsWay_1 : decode cX12_readsWay 1 = .ok (.ifCond .eq 13, 3) := by decide +kernel
theorem dX12_readsWay_4 : decode cX12_readsWay 4 = .ok (.aload_n 0, 1) := by decide +kernel
theorem dX12_readsWay_5 : decode cX12_readsWay 5 = .ok (.ldc2_w 289, 3) := by decide +kernel
theorem dX12_readsWay_8 : decode cX12_readsWay 8 = .ok (.invokevirtual 313, 3) := by decide +kernel
theorem dX12_readsWay_11 : decode cX12_readsWay 11 = .ok (.goto 10, 3) := by decide +kernel
theorem dX12_readsWay_14 : decode cX12_readsWay 14 = .ok (.aload_n 0, 1) := by decide +kernel
theorem dX12_readsWay_15 : decode cX12_readsWay 15 = .ok (.ldc2_w 364, 3) := by decide +kernel
theorem dX12_readsWay_18 : decode cX12_readsWay 18 = .ok (.invokevirtual 313, 3) := by decide +kernel
theorem dX12_readsWay_21 : decode cX12_readsWay 21 = .ok (.istore_n 2, 1) := by decide +kernel
theorem dX12_readsWay_22 : decode cX12_readsWay 22 = .ok (.iload_n 1, 1) := by decide +kernel
theorem dX12_readsWay_23 : decode cX12_readsWay 23 = .ok (.ifCond .eq 13, 3) := by decide +kernel
theorem dX12_readsWay_26 : decode cX12_readsWay 26 = .ok (.aload_n 0, 1) := by decide +kernel
theorem dX12_readsWay_27 : decode cX12_readsWay 27 = .ok (.ldc2_w 366, 3) := by decide +kernel
theorem dX12_readsWay_30 : decode cX12_readsWay 30 = .ok (.invokevirtual 313, 3) := by decide +kernel
theorem dX12_readsWay_33 : decode cX12_readsWay 33 = .ok (.goto 10, 3) := by decide +kernel
theorem dX12_readsWay_36 : decode cX12_readsWay 36 = .ok (.aload_n 0, 1) := by decide +kernel
theorem dX12_readsWay_37 : decode cX12_readsWay 37 = .ok (.ldc2_w 368, 3) := by decide +kernel
theorem dX12_readsWay_40 : decode cX12_readsWay 40 = .ok (.invokevirtual 313, 3) := by decide +kernel
theorem dX12_readsWay_43 : decode cX12_readsWay 43 = .ok (.istore_n 3, 1) := by decide +kernel
theorem dX12_readsWay_44 : decode cX12_readsWay 44 = .ok (.iload_n 2, 1) := by decide +kernel
theorem dX12_readsWay_45 : decode cX12_readsWay 45 = .ok (.ifCond .ne 13, 3) := by decide +kernel
theorem dX12_readsWay_48 : decode cX12_readsWay 48 = .ok (.iload_n 3, 1) := by decide +kernel
theorem dX12_readsWay_49 : decode cX12_readsWay 49 = .ok (.ifCond .ne 9, 3) := by decide +kernel
theorem dX12_readsWay_52 : decode cX12_readsWay 52 = .ok (.aload_n 0, 1) := by decide +kernel
theorem dX12_readsWay_53 : decode cX12_readsWay 53 = .ok (.iconst 1, 1) := by decide +kernel
theorem dX12_readsWay_54 : decode cX12_readsWay 54 = .ok (.invokevirtual 329, 3) := by decide +kernel
theorem dX12_readsWay_57 : decode cX12_readsWay 57 = .ok (.ireturn, 1) := by decide +kernel
theorem dX12_readsWay_58 : decode cX12_readsWay 58 = .ok (.iload_n 1, 1) := by decide +kernel
theorem dX12_readsWay_59 : decode cX12_readsWay 59 = .ok (.ifCond .eq 11, 3) := by decide +kernel
theorem dX12_readsWay_62 : decode cX12_readsWay 62 = .ok (.aload_n 0, 1) := by decide +kernel
theorem dX12_readsWay_63 : decode cX12_readsWay 63 = .ok (.iload_n 2, 1) := by decide +kernel
theorem dX12_readsWay_64 : decode cX12_readsWay 64 = .ok (.putfield 370, 3) := by decide +kernel
theorem dX12_readsWay_67 : decode cX12_readsWay 67 = .ok (.goto 8, 3) := by decide +kernel
theorem dX12_readsWay_70 : decode cX12_readsWay 70 = .ok (.aload_n 0, 1) := by decide +kernel
theorem dX12_readsWay_71 : decode cX12_readsWay 71 = .ok (.iload_n 2, 1) := by decide +kernel
theorem dX12_readsWay_72 : decode cX12_readsWay 72 = .ok (.putfield 374, 3) := by decide +kernel
theorem dX12_readsWay_75 : decode cX12_readsWay 75 = .ok (.aload_n 0, 1) := by decide +kernel
theorem dX12_readsWay_76 : decode cX12_readsWay 76 = .ok (.invokevirtual 336, 3) := by decide +kernel
theorem dX12_readsWay_79 : decode cX12_readsWay 79 = .ok (.aload_n 0, 1) := by decide +kernel
theorem dX12_readsWay_80 : decode cX12_readsWay 80 = .ok (.bipush 59, 2) := by decide +kernel
theorem dX12_readsWay_82 : decode cX12_readsWay 82 = .ok (.invokevirtual 326, 3) := by decide +kernel
theorem dX12_readsWay_85 : decode cX12_readsWay 85 = .ok (.ifCond .ne 9, 3) := by decide +kernel
theorem dX12_readsWay_88 : decode cX12_readsWay 88 = .ok (.aload_n 0, 1) := by decide +kernel
theorem dX12_readsWay_89 : decode cX12_readsWay 89 = .ok (.iconst 1, 1) := by decide +kernel
theorem dX12_readsWay_90 : decode cX12_readsWay 90 = .ok (.invokevirtual 329, 3) := by decide +kernel
theorem dX12_readsWay_93 : decode cX12_readsWay 93 = .ok (.ireturn, 1) := by decide +kernel
theorem dX12_readsWay_94 : decode cX12_readsWay 94 = .ok (.aload_n 0, 1) := by decide +kernel
theorem dX12_readsWay_95 : decode cX12_readsWay 95 = .ok (.invokevirtual 336, 3) := by decide +kernel
theorem dX12_readsWay_98 : decode cX12_readsWay 98 = .ok (.iconst 1, 1) := by decide +kernel
theorem dX12_readsWay_99 : decode cX12_readsWay 99 = .ok (.ireturn, 1) := by decide +kernel
theorem dX12_readsAll_0 : decode cX12_readsAll 0 = .ok (.iconst 0, 1) := by decide +kernel
theorem dX12_readsAll_1 : decode cX12_readsAll 1 = .ok (.istore_n 1, 1) := by decide +kernel
theorem dX12_readsAll_2 : decode cX12_readsAll 2 = .ok (.iconst 0, 1) := by decide +kernel
theorem dX12_readsAll_3 : decode cX12_readsAll 3 = .ok (.istore_n 2, 1) := by decide +kernel
theorem dX12_readsAll_4 : decode cX12_readsAll 4 = .ok (.iconst 0, 1) := by decide +kernel
theorem dX12_readsAll_5 : decode cX12_readsAll 5 = .ok (.istore_n 3, 1) := by decide +kernel
theorem dX12_readsAll_6 : decode cX12_readsAll 6 = .ok (.iconst 0, 1) := by decide +kernel
theorem dX12_readsAll_7 : decode cX12_readsAll 7 = .ok (.istore 4, 2) := by decide +kernel
theorem dX12_readsAll_9 : decode cX12_readsAll 9 = .ok (.aload_n 0, 1) := by decide +kernel
theorem dX12_readsAll_10 : decode cX12_readsAll 10 = .ok (.iconst 0, 1) := by decide +kernel
theorem dX12_readsAll_11 : decode cX12_readsAll 11 = .ok (.putfield 370, 3) := by decide +kernel
theorem dX12_readsAll_14 : decode cX12_readsAll 14 = .ok (.aload_n 0, 1) := by decide +kernel
theorem dX12_readsAll_15 : decode cX12_readsAll 15 = .ok (.iconst 0, 1) := by decide +kernel
theorem dX12_readsAll_16 : decode cX12_readsAll 16 = .ok (.putfield 374, 3) := by decide +kernel
theorem dX12_readsAll_19 : decode cX12_readsAll 19 = .ok (.aload_n 0, 1) := by decide +kernel
theorem dX12_readsAll_20 : decode cX12_readsAll 20 = .ok (.sipush 1000, 3) := by decide +kernel
theorem dX12_readsAll_23 : decode cX12_readsAll 23 = .ok (.putfield 282, 3) := by decide +kernel
theorem dX12_readsAll_26 : decode cX12_readsAll 26 = .ok (.aload_n 0, 1) := by decide +kernel
theorem dX12_readsAll_27 : decode cX12_readsAll 27 = .ok (.aload_n 0, 1) := by decide +kernel
theorem dX12_readsAll_28 : decode cX12_readsAll 28 = .ok (.getfield 249, 3) := by decide +kernel
theorem dX12_readsAll_31 : decode cX12_readsAll 31 = .ok (.putfield 252, 3) := by decide +kernel
theorem dX12_readsAll_34 : decode cX12_readsAll 34 = .ok (.aload_n 0, 1) := by decide +kernel
theorem dX12_readsAll_35 : decode cX12_readsAll 35 = .ok (.iconst 0, 1) := by decide +kernel
theorem dX12_readsAll_36 : decode cX12_readsAll 36 = .ok (.putfield 249, 3) := by decide +kernel
theorem dX12_readsAll_39 : decode cX12_readsAll 39 = .ok (.aload_n 0, 1) := by decide +kernel
theorem dX12_readsAll_40 : decode cX12_readsAll 40 = .ok (.iconst 0, 1) := by decide +kernel
theorem dX12_readsAll_41 : decode cX12_readsAll 41 = .ok (.putfield 255, 3) := by decide +kernel
theorem dX12_readsAll_44 : decode cX12_readsAll 44 = .ok (.aload_n 0, 1) := by decide +kernel
theorem dX12_readsAll_45 : decode cX12_readsAll 45 = .ok (.invokevirtual 336, 3) := by decide +kernel
theorem dX12_readsAll_48 : decode cX12_readsAll 48 = .ok (.aload_n 0, 1) := by decide +kernel
theorem dX12_readsAll_49 : decode cX12_readsAll 49 = .ok (.getfield 268, 3) := by decide +kernel
theorem dX12_readsAll_52 : decode cX12_readsAll 52 = .ok (.ifCond .eq 270, 3) := by decide +kernel
theorem dX12_readsAll_55 : decode cX12_readsAll 55 = .ok (.aload_n 0, 1) := by decide +kernel
theorem dX12_readsAll_56 : decode cX12_readsAll 56 = .ok (.ldc2_w 287, 3) := by decide +kernel
theorem dX12_readsAll_59 : decode cX12_readsAll 59 = .ok (.invokevirtual 313, 3) := by decide +kernel
theorem dX12_readsAll_62 : decode cX12_readsAll 62 = .ok (.istore 5, 2) := by decide +kernel
theorem dX12_readsAll_64 : decode cX12_readsAll 64 = .ok (.iload 5, 2) := by decide +kernel
theorem dX12_readsAll_66 : decode cX12_readsAll 66 = .ok (.ifCond .ne 13, 3) := by decide +kernel
theorem dX12_readsAll_69 : decode cX12_readsAll 69 = .ok (.aload_n 0, 1) := by decide +kernel
theorem dX12_readsAll_70 : decode cX12_readsAll 70 = .ok (.ldc2_w 377, 3) := by decide +kernel
theorem dX12_readsAll_73 : decode cX12_readsAll 73 = .ok (.invokevirtual 313, 3) := by decide +kernel
theorem dX12_readsAll_76 : decode cX12_readsAll 76 = .ok (.ifCond .eq 70, 3) := by decide +kernel
theorem dX12_readsAll_79 : decode cX12_readsAll 79 = .ok (.iload 5, 2) := by decide +kernel
theorem dX12_readsAll_81 : decode cX12_readsAll 81 = .ok (.ifCond .eq 10, 3) := by decide +kernel
theorem dX12_readsAll_84 : decode cX12_readsAll 84 = .ok (.iload_n 1, 1) := by decide +kernel
theorem dX12_readsAll_85 : decode cX12_readsAll 85 = .ok (.ifCond .eq 16, 3) := by decide +kernel
theorem dX12_readsAll_88 : decode cX12_readsAll 88 = .ok (.goto 7, 3) := by decide +kernel
theorem dX12_readsAll_91 : decode cX12_readsAll 91 = .ok (.iload_n 2, 1) := by decide +kernel
theorem dX12_readsAll_92 : decode cX12_readsAll 92 = .ok (.ifCond .eq 9, 3) := by decide +kernel
theorem dX12_readsAll_95 : decode cX12_readsAll 95 = .ok (.aload_n 0, 1) := by decide +kernel
theorem dX12_readsAll_96 : decode cX12_readsAll 96 = .ok (.iconst 3, 1) := by decide +kernel
theorem dX12_readsAll_97 : decode cX12_readsAll 97 = .ok (.invokevirtual 329, 3) := by decide +kernel
theorem dX12_readsAll_100 : decode cX12_readsAll 100 = .ok (.ireturn, 1) := by decide +kernel
theorem dX12_readsAll_101 : decode cX12_readsAll 101 = .ok (.iload_n 1, 1) := by decide +kernel
theorem dX12_readsAll_102 : decode cX12_readsAll 102 = .ok (.ifCond .ne 8, 3) := by decide +kernel
theorem dX12_readsAll_105 : decode cX12_readsAll 105 = .ok (.iload 5, 2) := by decide +kernel
theorem dX12_readsAll_107 : decode cX12_readsAll 107 = .ok (.ifCond .eq 7, 3) := by decide +kernel
theorem dX12_readsAll_110 : decode cX12_readsAll 110 = .ok (.iconst 1, 1) := by decide +kernel
theorem dX12_readsAll_111 : decode cX12_readsAll 111 = .ok (.goto 4, 3) := by decide +kernel
theorem dX12_readsAll_114 : decode cX12_readsAll 114 = .ok (.iconst 0, 1) := by decide +kernel
theorem dX12_readsAll_115 : decode cX12_readsAll 115 = .ok (.istore_n 1, 1) := by decide +kernel
theorem dX12_readsAll_116 : decode cX12_readsAll 116 = .ok (.iload_n 2, 1) := by decide +kernel
theorem dX12_readsAll_117 : decode cX12_readsAll 117 = .ok (.ifCond .ne 8, 3) := by decide +kernel
theorem dX12_readsAll_120 : decode cX12_readsAll 120 = .ok (.iload 5, 2) := by decide +kernel
theorem dX12_readsAll_122 : decode cX12_readsAll 122 = .ok (.ifCond .ne 7, 3) := by decide +kernel
theorem dX12_readsAll_125 : decode cX12_readsAll 125 = .ok (.iconst 1, 1) := by decide +kernel
theorem dX12_readsAll_126 : decode cX12_readsAll 126 = .ok (.goto 4, 3) := by decide +kernel
theorem dX12_readsAll_129 : decode cX12_readsAll 129 = .ok (.iconst 0, 1) := by decide +kernel
theorem dX12_readsAll_130 : decode cX12_readsAll 130 = .ok (.istore_n 2, 1) := by decide +kernel
theorem dX12_readsAll_131 : decode cX12_readsAll 131 = .ok (.aload_n 0, 1) := by decide +kernel
theorem dX12_readsAll_132 : decode cX12_readsAll 132 = .ok (.invokevirtual 336, 3) := by decide +kernel
theorem dX12_readsAll_135 : decode cX12_readsAll 135 = .ok (.aload_n 0, 1) := by decide +kernel
theorem dX12_readsAll_136 : decode cX12_readsAll 136 = .ok (.iload 5, 2) := by decide +kernel
theorem dX12_readsAll_138 : decode cX12_readsAll 138 = .ok (.invokevirtual 379, 3) := by decide +kernel
theorem dX12_readsAll_141 : decode cX12_readsAll 141 = .ok (.ifCond .ne (-93), 3) := by decide +kernel
theorem dX12_readsAll_144 : decode cX12_readsAll 144 = .ok (.iconst 0, 1) := by decide +kernel
theorem dX12_readsAll_145 : decode cX12_readsAll 145 = .ok (.ireturn, 1) := by decide +kernel
theorem dX12_readsAll_146 : decode cX12_readsAll 146 = .ok (.aload_n 0, 1) := by decide +kernel
theorem dX12_readsAll_147 : decode cX12_readsAll 147 = .ok (.ldc2_w 383, 3) := by decide +kernel
theorem dX12_readsAll_150 : decode cX12_readsAll 150 = .ok (.invokevirtual 313, 3) := by decide +kernel
theorem dX12_readsAll_153 : decode cX12_readsAll 153 = .ok (.istore 6, 2) := by decide +kernel
theorem dX12_readsAll_155 : decode cX12_readsAll 155 = .ok (.iload 6, 2) := by decide +kernel
theorem dX12_readsAll_157 : decode cX12_readsAll 157 = .ok (.ifCond .eq 20, 3) := by decide +kernel
theorem dX12_readsAll_160 : decode cX12_readsAll 160 = .ok (.iload 4, 2) := by decide +kernel
theorem dX12_readsAll_162 : decode cX12_readsAll 162 = .ok (.bipush 6, 2) := by decide +kernel
theorem dX12_readsAll_164 : decode cX12_readsAll 164 = .ok (.if_icmp .ne 9, 3) := by decide +kernel
theorem dX12_readsAll_167 : decode cX12_readsAll 167 = .ok (.aload_n 0, 1) := by decide +kernel
theorem dX12_readsAll_168 : decode cX12_readsAll 168 = .ok (.iconst 5, 1) := by decide +kernel
theorem dX12_readsAll_169 : decode cX12_readsAll 169 = .ok (.invokevirtual 329, 3) := by decide +kernel
theorem dX12_readsAll_172 : decode cX12_readsAll 172 = .ok (.ireturn, 1) := by decide +kernel
