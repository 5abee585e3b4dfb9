theorem dX0_init_0 : decode cX0_init 0 = .ok (.aload_n 0, 1) := by decide +kernel
theorem dX0_init_1 : decode cX0_init 1 = .ok (.invokespecial 3, 3) := by decide +kernel
theorem dX0_init_4 : decode cX0_init 4 = .ok (.return_, 1) := by decide +kernel
theorem dX0_tell_0 : decode cX0_tell 0 = .ok (.aload_n 0, 1) := by decide +kernel
theorem dX0_tell_1 : decode cX0_tell 1 = .ok (.iload_n 1, 1) := by decide +kernel
theorem dX0_tell_2 : decode cX0_tell 2 = .ok (.putfield 9, 3) := by decide +kernel
theorem dX0_tell_5 : decode cX0_tell 5 = .ok (.aload_n 0, 1) := by decide +kernel
theorem dX0_tell_6 : decode cX0_tell 6 = .ok (.iload_n 2, 1) := by decide +kernel
theorem dX0_tell_7 : decode cX0_tell 7 = .ok (.putfield 15, 3) := by decide +kernel
theorem dX0_tell_10 : decode cX0_tell 10 = .ok (.aload_n 0, 1) := by decide +kernel
theorem dX0_tell_11 : decode cX0_tell 11 = .ok (.iload_n 3, 1) := by decide +kernel
theorem dX0_tell_12 : decode cX0_tell 12 = .ok (.putfield 18, 3) := by decide +kernel
theorem dX0_tell_15 : decode cX0_tell 15 = .ok (.aload_n 0, 1) := by decide +kernel
theorem dX0_tell_16 : decode cX0_tell 16 = .ok (.iload 4, 2) := by decide +kernel
theorem dX0_tell_18 : decode cX0_tell 18 = .ok (.putfield 21, 3) := by decide +kernel
theorem dX0_tell_21 : decode cX0_tell 21 = .ok (.aload_n 0, 1) := by decide +kernel
theorem dX0_tell_22 : decode cX0_tell 22 = .ok (.iload 5, 2) := by decide +kernel
theorem dX0_tell_24 : decode cX0_tell 24 = .ok (.putfield 24, 3) := by decide +kernel
theorem dX0_tell_27 : decode cX0_tell 27 = .ok (.aload_n 0, 1) := by decide +kernel
theorem dX0_tell_28 : decode cX0_tell 28 = .ok (.iload 6, 2) := by decide +kernel
theorem dX0_tell_30 : decode cX0_tell 30 = .ok (.putfield 27, 3) := by decide +kernel
theorem dX0_tell_33 : decode cX0_tell 33 = .ok (.aload_n 0, 1) := by decide +kernel
theorem dX0_tell_34 : decode cX0_tell 34 = .ok (.iload 7, 2) := by decide +kernel
theorem dX0_tell_36 : decode cX0_tell 36 = .ok (.putfield 30, 3) := by decide +kernel
theorem dX0_tell_39 : decode cX0_tell 39 = .ok (.return_, 1) := by decide +kernel
theorem dX0_tellEach_0 : decode cX0_tellEach 0 = .ok (.iload 5, 2) := by decide +kernel
theorem dX0_tellEach_2 : decode cX0_tellEach 2 = .ok (.iconst 1, 1) := by decide +kernel
theorem dX0_tellEach_3 : decode cX0_tellEach 3 = .ok (.if_icmp .ne 7, 3) := by decide +kernel
theorem dX0_tellEach_6 : decode cX0_tellEach 6 = .ok (.iconst 0, 1) := by decide +kernel
theorem dX0_tellEach_7 : decode cX0_tellEach 7 = .ok (.goto 8, 3) := by decide +kernel
theorem dX0_tellEach_10 : decode cX0_tellEach 10 = .ok (.iload 4, 2) := by decide +kernel
theorem dX0_tellEach_12 : decode cX0_tellEach 12 = .ok (.iload 6, 2) := by decide +kernel
theorem dX0_tellEach_14 : decode cX0_tellEach 14 = .ok (.imul, 1) := by decide +kernel
theorem dX0_tellEach_15 : decode cX0_tellEach 15 = .ok (.istore 7, 2) := by decide +kernel
theorem dX0_tellEach_17 : decode cX0_tellEach 17 = .ok (.aload_n 0, 1) := by decide +kernel
theorem dX0_tellEach_18 : decode cX0_tellEach 18 = .ok (.iload_n 1, 1) := by decide +kernel
theorem dX0_tellEach_19 : decode cX0_tellEach 19 = .ok (.iload_n 2, 1) := by decide +kernel
theorem dX0_tellEach_20 : decode cX0_tellEach 20 = .ok (.iload_n 3, 1) := by decide +kernel
theorem dX0_tellEach_21 : decode cX0_tellEach 21 = .ok (.iload 4, 2) := by decide +kernel
theorem dX0_tellEach_23 : decode cX0_tellEach 23 = .ok (.iload 5, 2) := by decide +kernel
theorem dX0_tellEach_25 : decode cX0_tellEach 25 = .ok (.iload 7, 2) := by decide +kernel
theorem dX0_tellEach_27 : decode cX0_tellEach 27 = .ok (.iload 7, 2) := by decide +kernel
theorem dX0_tellEach_29 : decode cX0_tellEach 29 = .ok (.invokevirtual 33, 3) := by decide +kernel
theorem dX0_tellEach_32 : decode cX0_tellEach 32 = .ok (.return_, 1) := by decide +kernel
theorem dX0_copyAll_0 : decode cX0_copyAll 0 = .ok (.aload_n 0, 1) := by decide +kernel
theorem dX0_copyAll_1 : decode cX0_copyAll 1 = .ok (.aload_n 1, 1) := by decide +kernel
theorem dX0_copyAll_2 : decode cX0_copyAll 2 = .ok (.getfield 9, 3) := by decide +kernel
theorem dX0_copyAll_5 : decode cX0_copyAll 5 = .ok (.aload_n 1, 1) := by decide +kernel
theorem dX0_copyAll_6 : decode cX0_copyAll 6 = .ok (.getfield 15, 3) := by decide +kernel
theorem dX0_copyAll_9 : decode cX0_copyAll 9 = .ok (.aload_n 1, 1) := by decide +kernel
theorem dX0_copyAll_10 : decode cX0_copyAll 10 = .ok (.getfield 18, 3) := by decide +kernel
theorem dX0_copyAll_13 : decode cX0_copyAll 13 = .ok (.aload_n 1, 1) := by decide +kernel
theorem dX0_copyAll_14 : decode cX0_copyAll 14 = .ok (.getfield 21, 3) := by decide +kernel
theorem dX0_copyAll_17 : decode cX0_copyAll 17 = .ok (.aload_n 1, 1) := by decide +kernel
theorem dX0_copyAll_18 : decode cX0_copyAll 18 = .ok (.getfield 24, 3) := by decide +kernel
theorem dX0_copyAll_21 : decode cX0_copyAll 21 = .ok (.aload_n 1, 1) := by decide +kernel
theorem dX0_copyAll_22 : decode cX0_copyAll 22 = .ok (.getfield 27, 3) := by decide +kernel
theorem dX0_copyAll_25 : decode cX0_copyAll 25 = .ok (.aload_n 1, 1) := by decide +kernel
theorem dX0_copyAll_26 : decode cX0_copyAll 26 = .ok (.getfield 30, 3) := by decide +kernel
theorem dX0_copyAll_29 : decode cX0_copyAll 29 = .ok (.invokevirtual 33, 3) := by decide +kernel
theorem dX0_copyAll_32 : decode cX0_copyAll 32 = .ok (.return_, 1) := by decide +kernel
theorem dX0_isSound_0 : decode cX0_isSound 0 = .ok (.aload_n 1, 1) := by decide +kernel
theorem dX0_isSound_1 : decode cX0_isSound 1 = .ok (.aload_n 0, 1) := by decide +kernel
theorem dX0_isSound_2 : decode cX0_isSound 2 = .ok (.getfield 9, 3) := by decide +kernel
theorem dX0_isSound_5 : decode cX0_isSound 5 = .ok (.invokevirtual 37, 3) := by decide +kernel
theorem dX0_isSound_8 : decode cX0_isSound 8 = .ok (.ifCond .eq 34, 3) := by decide +kernel
theorem dX0_isSound_11 : decode cX0_isSound 11 = .ok (.aload_n 0, 1) := by decide +kernel
theorem dX0_isSound_12 : decode cX0_isSound 12 = .ok (.getfield 15, 3) := by decide +kernel
theorem dX0_isSound_15 : decode cX0_isSound 15 = .ok (.aload_n 0, 1) := by decide +kernel
theorem dX0_isSound_16 : decode cX0_isSound 16 = .ok (.getfield 18, 3) := by decide +kernel
theorem dX0_isSound_19 : decode cX0_isSound 19 = .ok (.invokestatic 43, 3) := by decide +kernel
theorem dX0_isSound_22 : decode cX0_isSound 22 = .ok (.ifCond .eq 20, 3) := by decide +kernel
theorem dX0_isSound_25 : decode cX0_isSound 25 = .ok (.aload_n 0, 1) := by decide +kernel
theorem dX0_isSound_26 : decode cX0_isSound 26 = .ok (.getfield 21, 3) := by decide +kernel
theorem dX0_isSound_29 : decode cX0_isSound 29 = .ok (.iconst 1, 1) := by decide +kernel
theorem dX0_isSound_30 : decode cX0_isSound 30 = .ok (.if_icmp .lt 12, 3) := by decide +kernel
theorem dX0_isSound_33 : decode cX0_isSound 33 = .ok (.aload_n 0, 1) := by decide +kernel
theorem dX0_isSound_34 : decode cX0_isSound 34 = .ok (.getfield 21, 3) := by decide +kernel
theorem dX0_isSound_37 : decode cX0_isSound 37 = .ok (.bipush 12, 2) := by decide +kernel
theorem dX0_isSound_39 : decode cX0_isSound 39 = .ok (.if_icmp .le 5, 3) := by decide +kernel
theorem dX0_isSound_42 : decode cX0_isSound 42 = .ok (.iconst 0, 1) := by decide +kernel
theorem dX0_isSound_43 : decode cX0_isSound 43 = .ok (.ireturn, 1) := by decide +kernel
theorem dX0_isSound_44 : decode cX0_isSound 44 = .ok (.aload_n 0, 1) := by decide +kernel
theorem dX0_isSound_45 : decode cX0_isSound 45 = .ok (.getfield 24, 3) := by decide +kernel
theorem dX0_isSound_48 : decode cX0_isSound 48 = .ok (.ifCond .lt 31, 3) := by decide +kernel
theorem dX0_isSound_51 : decode cX0_isSound 51 = .ok (.aload_n 0, 1) := by decide +kernel
theorem dX0_isSound_52 : decode cX0_isSound 52 = .ok (.getfield 24, 3) := by decide +kernel
theorem dX0_isSound_55 : decode cX0_isSound 55 = .ok (.iconst 3, 1) := by decide +kernel
theorem dX0_isSound_56 : decode cX0_isSound 56 = .ok (.if_icmp .ge 23, 3) := by decide +kernel
theorem dX0_isSound_59 : decode cX0_isSound 59 = .ok (.aload_n 0, 1) := by decide +kernel
theorem dX0_isSound_60 : decode cX0_isSound 60 = .ok (.getfield 27, 3) := by decide +kernel
theorem dX0_isSound_63 : decode cX0_isSound 63 = .ok (.invokestatic 47, 3) := by decide +kernel
theorem dX0_isSound_66 : decode cX0_isSound 66 = .ok (.ifCond .eq 13, 3) := by decide +kernel
theorem dX0_isSound_69 : decode cX0_isSound 69 = .ok (.aload_n 0, 1) := by decide +kernel
theorem dX0_isSound_70 : decode cX0_isSound 70 = .ok (.getfield 30, 3) := by decide +kernel
theorem dX0_isSound_73 : decode cX0_isSound 73 = .ok (.invokestatic 47, 3) := by decide +kernel
theorem dX0_isSound_76 : decode cX0_isSound 76 = .ok (.ifCond .ne 5, 3) := by decide +kernel
theorem dX0_isSound_79 : decode cX0_isSound 79 = .ok (.iconst 0, 1) := by decide +kernel
theorem dX0_isSound_80 : decode cX0_isSound 80 = .ok (.ireturn, 1) := by decide +kernel
theorem dX0_isSound_81 : decode cX0_isSound 81 = .ok (.aload_n 0, 1) := by decide +kernel
theorem dX0_isSound_82 : decode cX0_isSound 82 = .ok (.getfield 24, 3) := by decide +kernel
theorem dX0_isSound_85 : decode cX0_isSound 85 = .ok (.iconst 1, 1) := by decide +kernel
theorem dX0_isSound_86 : decode cX0_isSound 86 = .ok (.if_icmp .ne 17, 3) := by decide +kernel
theorem dX0_isSound_89 : decode cX0_isSound 89 = .ok (.aload_n 0, 1) := by decide +kernel
theorem dX0_isSound_90 : decode cX0_isSound 90 = .ok (.getfield 27, 3) := by decide +kernel
theorem dX0_isSound_93 : decode cX0_isSound 93 = .ok (.ifCond .ne 14, 3) := by decide +kernel
theorem dX0_isSound_96 : decode cX0_isSound 96 = .ok (.aload_n 0, 1) := by decide +kernel
theorem dX0_isSound_97 : decode cX0_isSound 97 = .ok (.getfield 30, 3) := by decide +kernel
theorem dX0_isSound_100 : decode cX0_isSound 100 = .ok (.ifCond .ne 7, 3) := by decide +kernel
theorem dX0_isSound_103 : decode cX0_isSound 103 = .ok (.iconst 1, 1) := by decide +kernel
theorem dX0_isSound_104 : decode cX0_isSound 104 = .ok (.goto 4, 3) := by decide +kernel
theorem dX0_isSound_107 : decode cX0_isSound 107 = .ok (.iconst 0, 1) := by decide +kernel
theorem dX0_isSound_108 : decode cX0_isSound 108 = .ok (.ireturn, 1) := by decide +kernel
theorem dX0_canBe_0 : decode cX0_canBe 0 = .ok (.aload_n 0, 1) := by decide +kernel
theorem dX0_canBe_1 : decode cX0_canBe 1 = .ok (.aload_n 1, 1) := by decide +kernel
theorem dX0_canBe_2 : decode cX0_canBe 2 = .ok (.invokevirtual 50, 3) := by decide +kernel
theorem dX0_canBe_5 : decode cX0_canBe 5 = .ok (.ifCond .eq 26, 3) := by decide +kernel
theorem dX0_canBe_8 : decode cX0_canBe 8 = .ok (.aload_n 2, 1) := by decide +kernel
theorem dX0_canBe_9 : decode cX0_canBe 9 = .ok (.aload_n 0, 1) := by decide +kernel
theorem dX0_canBe_10 : decode cX0_canBe 10 = .ok (.getfield 9, 3) := by decide +kernel
theorem dX0_canBe_13 : decode cX0_canBe 13 = .ok (.aload_n 0, 1) := by decide +kernel
theorem dX0_canBe_14 : decode cX0_canBe 14 = .ok (.getfield 15, 3) := by decide +kernel
theorem dX0_canBe_17 : decode cX0_canBe 17 = .ok (.invokevirtual 54, 3) := by decide +kernel
theorem dX0_canBe_20 : decode cX0_canBe 20 = .ok (.aload_n 0, 1) := by decide +kernel
theorem dX0_canBe_21 : decode cX0_canBe 21 = .ok (.getfield 21, 3) := by decide +kernel
theorem dX0_canBe_24 : decode cX0_canBe 24 = .ok (.if_icmp .lt 7, 3) := by decide +kernel
theorem dX0_canBe_27 : decode cX0_canBe 27 = .ok (.iconst 1, 1) := by decide +kernel
theorem dX0_canBe_28 : decode cX0_canBe 28 = .ok (.goto 4, 3) := by decide +kernel
theorem dX0_canBe_31 : decode cX0_canBe 31 = .ok (.iconst 0, 1) := by decide +kernel
theorem dX0_canBe_32 : decode cX0_canBe 32 = .ok (.ireturn, 1) := by decide +kernel
theorem dX1_init_0 : decode cX1_init 0 = .ok (.aload_n 0, 1) := by decide +kernel
theorem dX1_init_1 : decode cX1_init 1 = .ok (.invokespecial 3, 3) := by decide +kernel
theorem dX1_init_4 : decode cX1_init 4 = .ok (.aload_n 0, 1) := by decide +kernel
theorem dX1_init_5 : decode cX1_init 5 = .ok (.sipush 192, 3) := by decide +kernel
theorem dX1_init_8 : decode cX1_init 8 = .ok (.newarray .int, 2) := by decide +kernel
theorem dX1_init_10 : decode cX1_init 10 = .ok (.putfield 9, 3) := by decide +kernel
theorem dX1_init_13 : decode cX1_init 13 = .ok (.aload_n 0, 1) := by decide +kernel
theorem dX1_init_14 : decode cX1_init 14 = .ok (.bipush 12, 2) := by decide +kernel
theorem dX1_init_16 : decode cX1_init 16 = .ok (.newarray .int, 2) := by decide +kernel
theorem dX1_init_18 : decode cX1_init 18 = .ok (.putfield 15, 3) := by decide +kernel
theorem dX1_init_21 : decode cX1_init 21 = .ok (.aload_n 0, 1) := by decide +kernel
theorem dX1_init_22 : decode cX1_init 22 = .ok (.bipush 16, 2) := by decide +kernel
theorem dX1_init_24 : decode cX1_init 24 = .ok (.newarray .int, 2) := by decide +kernel
theorem dX1_init_26 : decode cX1_init 26 = .ok (.putfield 18, 3) := by decide +kernel
theorem dX1_init_29 : decode cX1_init 29 = .ok (.aload_n 0, 1) := by decide +kernel
theorem dX1_init_30 : decode cX1_init 30 = .ok (.bipush 16, 2) := by decide +kernel
theorem dX1_init_32 : decode cX1_init 32 = .ok (.newarray .int, 2) := by decide +kernel
theorem dX1_init_34 : decode cX1_init 34 = .ok (.putfield 21, 3) := by decide +kernel
theorem dX1_init_37 : decode cX1_init 37 = .ok (.return_, 1) := by decide +kernel
theorem dX1_of_0 : decode cX1_of 0 = .ok (.aload_n 0, 1) := by decide +kernel
theorem dX1_of_1 : decode cX1_of 1 = .ok (.getfield 9, 3) := by decide +kernel
theorem dX1_of_4 : decode cX1_of 4 = .ok (.iload_n 1, 1) := by decide +kernel
theorem dX1_of_5 : decode cX1_of 5 = .ok (.bipush 16, 2) := by decide +kernel
theorem dX1_of_7 : decode cX1_of 7 = .ok (.imul, 1) := by decide +kernel
theorem dX1_of_8 : decode cX1_of 8 = .ok (.iload_n 2, 1) := by decide +kernel
theorem dX1_of_9 : decode cX1_of 9 = .ok (.iadd, 1) := by decide +kernel
theorem dX1_of_10 : decode cX1_of 10 = .ok (.iaload, 1) := by decide +kernel
theorem dX1_of_11 : decode cX1_of 11 = .ok (.ireturn, 1) := by decide +kernel
theorem dX1_add_0 : decode cX1_add 0 = .ok (.iload_n 1, 1) := by decide +kernel
theorem dX1_add_1 : decode cX1_add 1 = .ok (.bipush 16, 2) := by decide +kernel
theorem dX1_add_3 : decode cX1_add 3 = .ok (.imul, 1) := by decide +kernel
theorem dX1_add_4 : decode cX1_add 4 = .ok (.iload_n 2, 1) := by decide +kernel
theorem dX1_add_5 : decode cX1_add 5 = .ok (.iadd, 1) := by decide +kernel
theorem dX1_add_6 : decode cX1_add 6 = .ok (.istore 4, 2) := by decide +kernel
theorem dX1_add_8 : decode cX1_add 8 = .ok (.aload_n 0, 1) := by decide +kernel
theorem dX1_add_9 : decode cX1_add 9 = .ok (.getfield 9, 3) := by decide +kernel
theorem dX1_add_12 : decode cX1_add 12 = .ok (.iload 4, 2) := by decide +kernel
theorem dX1_add_14 : decode cX1_add 14 = .ok (.iaload, 1) := by decide +kernel
theorem dX1_add_15 : decode cX1_add 15 = .ok (.ifCond .eq 7, 3) := by decide +kernel
theorem dX1_add_18 : decode cX1_add 18 = .ok (.iconst 1, 1) := by decide +kernel
theorem dX1_add_19 : decode cX1_add 19 = .ok (.goto 4, 3) := by decide +kernel
theorem dX1_add_22 : decode cX1_add 22 = .ok (.iconst 0, 1) := by decide +kernel
theorem dX1_add_23 : decode cX1_add 23 = .ok (.istore 5, 2) := by decide +kernel
theorem dX1_add_25 : decode cX1_add 25 = .ok (.aload_n 0, 1) := by decide +kernel
theorem dX1_add_26 : decode cX1_add 26 = .ok (.getfield 9, 3) := by decide +kernel
theorem dX1_add_29 : decode cX1_add 29 = .ok (.iload 4, 2) := by decide +kernel
theorem dX1_add_31 : decode cX1_add 31 = .ok (.dup2, 1) := by decide +kernel
theorem dX1_add_32 : decode cX1_add 32 = .ok (.iaload, 1) := by decide +kernel
theorem dX1_add_33 : decode cX1_add 33 = .ok (.iload_n 3, 1) := by decide +kernel
theorem dX1_add_34 : decode cX1_add 34 = .ok (.iadd, 1) := by decide +kernel
theorem dX1_add_35 : decode cX1_add 35 = .ok (.iastore, 1) := by decide +kernel
theorem dX1_add_36 : decode cX1_add 36 = .ok (.aload_n 0, 1) := by decide +kernel
theorem dX1_add_37 : decode cX1_add 37 = .ok (.getfield 21, 3) := by decide +kernel
theorem dX1_add_40 : decode cX1_add 40 = .ok (.iload_n 2, 1) := by decide +kernel
theorem dX1_add_41 : decode cX1_add 41 = .ok (.dup2, 1) := by decide +kernel
theorem dX1_add_42 : decode cX1_add 42 = .ok (.iaload, 1) := by decide +kernel
theorem dX1_add_43 : decode cX1_add 43 = .ok (.iload_n 3, 1) := by decide +kernel
theorem dX1_add_44 : decode cX1_add 44 = .ok (.iadd, 1) := by decide +kernel
theorem dX1_add_45 : decode cX1_add 45 = .ok (.iastore, 1) := by decide +kernel
theorem dX1_add_46 : decode cX1_add 46 = .ok (.aload_n 0, 1) := by decide +kernel
theorem dX1_add_47 : decode cX1_add 47 = .ok (.getfield 9, 3) := by decide +kernel
theorem dX1_add_50 : decode cX1_add 50 = .ok (.iload 4, 2) := by decide +kernel
theorem dX1_add_52 : decode cX1_add 52 = .ok (.iaload, 1) := by decide +kernel
theorem dX1_add_53 : decode cX1_add 53 = .ok (.ifCond .eq 7, 3) := by decide +kernel
theorem dX1_add_56 : decode cX1_add 56 = .ok (.iconst 1, 1) := by decide +kernel
theorem dX1_add_57 : decode cX1_add 57 = .ok (.goto 4, 3) := by decide +kernel
theorem dX1_add_60 : decode cX1_add 60 = .ok (.iconst 0, 1) := by decide +kernel
theorem dX1_add_61 : decode cX1_add 61 = .ok (.istore 6, 2) := by decide +kernel
theorem dX1_add_63 : decode cX1_add 63 = .ok (.iload 5, 2) := by decide +kernel
theorem dX1_add_65 : decode cX1_add 65 = .ok (.iload 6, 2) := by decide +kernel
theorem dX1_add_67 : decode cX1_add 67 = .ok (.if_icmp .eq 40, 3) := by decide +kernel
theorem dX1_add_70 : decode cX1_add 70 = .ok (.aload_n 0, 1) := by decide +kernel
theorem dX1_add_71 : decode cX1_add 71 = .ok (.getfield 18, 3) := by decide +kernel
theorem dX1_add_74 : decode cX1_add 74 = .ok (.iload_n 2, 1) := by decide +kernel
theorem dX1_add_75 : decode cX1_add 75 = .ok (.dup2, 1) := by decide +kernel
theorem dX1_add_76 : decode cX1_add 76 = .ok (.iaload, 1) := by decide +kernel
theorem dX1_add_77 : decode cX1_add 77 = .ok (.iload 6, 2) := by decide +kernel
theorem dX1_add_79 : decode cX1_add 79 = .ok (.ifCond .eq 7, 3) := by decide +kernel
theorem dX1_add_82 : decode cX1_add 82 = .ok (.iconst 1, 1) := by decide +kernel
theorem dX1_add_83 : decode cX1_add 83 = .ok (.goto 4, 3) := by decide +kernel
theorem dX1_add_86 : decode cX1_add 86 = .ok (.iconst (-1), 1) := by decide +kernel
theorem dX1_add_87 : decode cX1_add 87 = .ok (.iadd, 1) := by decide +kernel
theorem dX1_add_88 : decode cX1_add 88 = .ok (.iastore, 1) := by decide +kernel
theorem dX1_add_89 : decode cX1_add 89 = .ok (.aload_n 0, 1) := by decide +kernel
theorem dX1_add_90 : decode cX1_add 90 = .ok (.getfield 15, 3) := by decide +kernel
theorem dX1_add_93 : decode cX1_add 93 = .ok (.iload_n 1, 1) := by decide +kernel
theorem dX1_add_94 : decode cX1_add 94 = .ok (.aload_n 0, 1) := by decide +kernel
theorem dX1_add_95 : decode cX1_add 95 = .ok (.getfield 15, 3) := by decide +kernel
theorem dX1_add_98 : decode cX1_add 98 = .ok (.iload_n 1, 1) := by decide +kernel
theorem dX1_add_99 : decode cX1_add 99 = .ok (.iaload, 1) := by decide +kernel
theorem dX1_add_100 : decode cX1_add 100 = .ok (.iload_n 2, 1) := by decide +kernel
theorem dX1_add_101 : decode cX1_add 101 = .ok (.iload 6, 2) := by decide +kernel
theorem dX1_add_103 : decode cX1_add 103 = .ok (.invokestatic 24, 3) := by decide +kernel
theorem dX1_add_106 : decode cX1_add 106 = .ok (.iastore, 1) := by decide +kernel
theorem dX1_add_107 : decode cX1_add 107 = .ok (.return_, 1) := by decide +kernel
theorem dX1_move_0 : decode cX1_move 0 = .ok (.aload_n 0, 1) := by decide +kernel
theorem dX1_move_1 : decode cX1_move 1 = .ok (.iload_n 1, 1) := by decide +kernel
theorem dX1_move_2 : decode cX1_move 2 = .ok (.iload_n 2, 1) := by decide +kernel
theorem dX1_move_3 : decode cX1_move 3 = .ok (.iload 4, 2) := by decide +kernel
theorem dX1_move_5 : decode cX1_move 5 = .ok (.ineg, 1) := by decide +kernel
theorem dX1_move_6 : decode cX1_move 6 = .ok (.invokevirtual 28, 3) := by decide +kernel
theorem dX1_move_9 : decode cX1_move 9 = .ok (.aload_n 0, 1) := by decide +kernel
theorem dX1_move_10 : decode cX1_move 10 = .ok (.iload_n 1, 1) := by decide +kernel
theorem dX1_move_11 : decode cX1_move 11 = .ok (.iload_n 3, 1) := by decide +kernel
theorem dX1_move_12 : decode cX1_move 12 = .ok (.iload 4, 2) := by decide +kernel
theorem dX1_move_14 : decode cX1_move 14 = .ok (.invokevirtual 28, 3) := by decide +kernel
theorem dX1_move_17 : decode cX1_move 17 = .ok (.return_, 1) := by decide +kernel
theorem dX1_copyAll_0 : decode cX1_copyAll 0 = .ok (.aload_n 1, 1) := by decide +kernel
theorem dX1_copyAll_1 : decode cX1_copyAll 1 = .ok (.getfield 9, 3) := by decide +kernel
theorem dX1_copyAll_4 : decode cX1_copyAll 4 = .ok (.iconst 0, 1) := by decide +kernel
theorem dX1_copyAll_5 : decode cX1_copyAll 5 = .ok (.aload_n 0, 1) := by decide +kernel
theorem dX1_copyAll_6 : decode cX1_copyAll 6 = .ok (.getfield 9, 3) := by decide +kernel
theorem dX1_copyAll_9 : decode cX1_copyAll 9 = .ok (.iconst 0, 1) := by decide +kernel
theorem dX1_copyAll_10 : decode cX1_copyAll 10 = .ok (.sipush 192, 3) := by decide +kernel
theorem dX1_copyAll_13 : decode cX1_copyAll 13 = .ok (.invokestatic 32, 3) := by decide +kernel
theorem dX1_copyAll_16 : decode cX1_copyAll 16 = .ok (.aload_n 1, 1) := by decide +kernel
theorem dX1_copyAll_17 : decode cX1_copyAll 17 = .ok (.getfield 15, 3) := by decide +kernel
theorem dX1_copyAll_20 : decode cX1_copyAll 20 = .ok (.iconst 0, 1) := by decide +kernel
theorem dX1_copyAll_21 : decode cX1_copyAll 21 = .ok (.aload_n 0, 1) := by decide +kernel
theorem dX1_copyAll_22 : decode cX1_copyAll 22 = .ok (.getfield 15, 3) := by decide +kernel
theorem dX1_copyAll_25 : decode cX1_copyAll 25 = .ok (.iconst 0, 1) := by decide +kernel
theorem dX1_copyAll_26 : decode cX1_copyAll 26 = .ok (.bipush 12, 2) := by decide +kernel
theorem dX1_copyAll_28 : decode cX1_copyAll 28 = .ok (.invokestatic 32, 3) := by decide +kernel
theorem dX1_copyAll_31 : decode cX1_copyAll 31 = .ok (.aload_n 1, 1) := by decide +kernel
theorem dX1_copyAll_32 : decode cX1_copyAll 32 = .ok (.getfield 18, 3) := by decide +kernel
theorem dX1_copyAll_35 : decode cX1_copyAll 35 = .ok (.iconst 0, 1) := by decide +kernel
theorem dX1_copyAll_36 : decode cX1_copyAll 36 = .ok (.aload_n 0, 1) := by decide +kernel
theorem dX1_copyAll_37 : decode cX1_copyAll 37 = .ok (.getfield 18, 3) := by decide +kernel
theorem dX1_copyAll_40 : decode cX1_copyAll 40 = .ok (.iconst 0, 1) := by decide +kernel
theorem dX1_copyAll_41 : decode cX1_copyAll 41 = .ok (.bipush 16, 2) := by decide +kernel
theorem dX1_copyAll_43 : decode cX1_copyAll 43 = .ok (.invokestatic 32, 3) := by decide +kernel
theorem dX1_copyAll_46 : decode cX1_copyAll 46 = .ok (.aload_n 1, 1) := by decide +kernel
theorem dX1_copyAll_47 : decode cX1_copyAll 47 = .ok (.getfield 21, 3) := by decide +kernel
theorem dX1_copyAll_50 : decode cX1_copyAll 50 = .ok (.iconst 0, 1) := by decide +kernel
theorem dX1_copyAll_51 : decode cX1_copyAll 51 = .ok (.aload_n 0, 1) := by decide +kernel
theorem dX1_copyAll_52 : decode cX1_copyAll 52 = .ok (.getfield 21, 3) := by decide +kernel
theorem dX1_copyAll_55 : decode cX1_copyAll 55 = .ok (.iconst 0, 1) := by decide +kernel
theorem dX1_copyAll_56 : decode cX1_copyAll 56 = .ok (.bipush 16, 2) := by decide +kernel
theorem dX1_copyAll_58 : decode cX1_copyAll 58 = .ok (.invokestatic 32, 3) := by decide +kernel
theorem dX1_copyAll_61 : decode cX1_copyAll 61 = .ok (.return_, 1) := by decide +kernel
theorem dX1_copyParcel_0 : decode cX1_copyParcel 0 = .ok (.iconst 0, 1) := by decide +kernel
theorem dX1_copyParcel_1 : decode cX1_copyParcel 1 = .ok (.istore_n 3, 1) := by decide +kernel
theorem dX1_copyParcel_2 : decode cX1_copyParcel 2 = .ok (.iload_n 3, 1) := by decide +kernel
theorem dX1_copyParcel_3 : decode cX1_copyParcel 3 = .ok (.bipush 16, 2) := by decide +kernel
theorem dX1_copyParcel_5 : decode cX1_copyParcel 5 = .ok (.if_icmp .ge 28, 3) := by decide +kernel
theorem dX1_copyParcel_8 : decode cX1_copyParcel 8 = .ok (.aload_n 0, 1) := by decide +kernel
theorem dX1_copyParcel_9 : decode cX1_copyParcel 9 = .ok (.iload_n 2, 1) := by decide +kernel
theorem dX1_copyParcel_10 : decode cX1_copyParcel 10 = .ok (.iload_n 3, 1) := by decide +kernel
theorem dX1_copyParcel_11 : decode cX1_copyParcel 11 = .ok (.aload_n 1, 1) := by decide +kernel
theorem dX1_copyParcel_12 : decode cX1_copyParcel 12 = .ok (.iload_n 2, 1) := by decide +kernel
theorem dX1_copyParcel_13 : decode cX1_copyParcel 13 = .ok (.iload_n 3, 1) := by decide +kernel
theorem dX1_copyParcel_14 : decode cX1_copyParcel 14 = .ok (.invokevirtual 38, 3) := by decide +kernel
theorem dX1_copyParcel_17 : decode cX1_copyParcel 17 = .ok (.aload_n 0, 1) := by decide +kernel
theorem dX1_copyParcel_18 : decode cX1_copyParcel 18 = .ok (.iload_n 2, 1) := by decide +kernel
theorem dX1_copyParcel_19 : decode cX1_copyParcel 19 = .ok (.iload_n 3, 1) := by decide +kernel
theorem dX1_copyParcel_20 : decode cX1_copyParcel 20 = .ok (.invokevirtual 38, 3) := by decide +kernel
theorem dX1_copyParcel_23 : decode cX1_copyParcel 23 = .ok (.isub, 1) := by decide +kernel
theorem dX1_copyParcel_24 : decode cX1_copyParcel 24 = .ok (.invokevirtual 28, 3) := by decide +kernel
theorem dX1_copyParcel_27 : decode cX1_copyParcel 27 = .ok (.iinc 3 1, 3) := by decide +kernel
theorem dX1_copyParcel_30 : decode cX1_copyParcel 30 = .ok (.goto (-28), 3) := by decide +kernel
theorem dX1_copyParcel_33 : decode cX1_copyParcel 33 = .ok (.return_, 1) := by decide +kernel
theorem dX1_holdersOf_0 : decode cX1_holdersOf 0 = .ok (.iconst 0, 1) := by decide +kernel
theorem dX1_holdersOf_1 : decode cX1_holdersOf 1 = .ok (.istore_n 2, 1) := by decide +kernel
theorem dX1_holdersOf_2 : decode cX1_holdersOf 2 = .ok (.iconst 0, 1) := by decide +kernel
theorem dX1_holdersOf_3 : decode cX1_holdersOf 3 = .ok (.istore_n 3, 1) := by decide +kernel
theorem dX1_holdersOf_4 : decode cX1_holdersOf 4 = .ok (.iload_n 3, 1) := by decide +kernel
theorem dX1_holdersOf_5 : decode cX1_holdersOf 5 = .ok (.bipush 12, 2) := by decide +kernel
theorem dX1_holdersOf_7 : decode cX1_holdersOf 7 = .ok (.if_icmp .ge 32, 3) := by decide +kernel
theorem dX1_holdersOf_10 : decode cX1_holdersOf 10 = .ok (.iload_n 1, 1) := by decide +kernel
theorem dX1_holdersOf_11 : decode cX1_holdersOf 11 = .ok (.iload_n 3, 1) := by decide +kernel
theorem dX1_holdersOf_12 : decode cX1_holdersOf 12 = .ok (.ishr, 1) := by decide +kernel
theorem dX1_holdersOf_13 : decode cX1_holdersOf 13 = .ok (.ifCond .eq 26, 3) := by decide +kernel
theorem dX1_holdersOf_16 : decode cX1_holdersOf 16 = .ok (.iload_n 1, 1) := by decide +kernel
theorem dX1_holdersOf_17 : decode cX1_holdersOf 17 = .ok (.iload_n 3, 1) := by decide +kernel
theorem dX1_holdersOf_18 : decode cX1_holdersOf 18 = .ok (.ishr, 1) := by decide +kernel
theorem dX1_holdersOf_19 : decode cX1_holdersOf 19 = .ok (.iconst 1, 1) := by decide +kernel
theorem dX1_holdersOf_20 : decode cX1_holdersOf 20 = .ok (.iand, 1) := by decide +kernel
theorem dX1_holdersOf_21 : decode cX1_holdersOf 21 = .ok (.ifCond .eq 12, 3) := by decide +kernel
theorem dX1_holdersOf_24 : decode cX1_holdersOf 24 = .ok (.iload_n 2, 1) := by decide +kernel
theorem dX1_holdersOf_25 : decode cX1_holdersOf 25 = .ok (.aload_n 0, 1) := by decide +kernel
theorem dX1_holdersOf_26 : decode cX1_holdersOf 26 = .ok (.getfield 15, 3) := by decide +kernel
theorem dX1_holdersOf_29 : decode cX1_holdersOf 29 = .ok (.iload_n 3, 1) := by decide +kernel
theorem dX1_holdersOf_30 : decode cX1_holdersOf 30 = .ok (.iaload, 1) := by decide +kernel
theorem dX1_holdersOf_31 : decode cX1_holdersOf 31 = .ok (.ior, 1) := by decide +kernel
theorem dX1_holdersOf_32 : decode cX1_holdersOf 32 = .ok (.istore_n 2, 1) := by decide +kernel
theorem dX1_holdersOf_33 : decode cX1_holdersOf 33 = .ok (.iinc 3 1, 3) := by decide +kernel
theorem dX1_holdersOf_36 : decode cX1_holdersOf 36 = .ok (.goto (-32), 3) := by decide +kernel
theorem dX1_holdersOf_39 : decode cX1_holdersOf 39 = .ok (.iload_n 2, 1) := by decide +kernel
theorem dX1_holdersOf_40 : decode cX1_holdersOf 40 = .ok (.ireturn, 1) := by decide +kernel
theorem dX1_sumOf_0 : decode cX1_sumOf 0 = .ok (.iconst 0, 1) := by decide +kernel
theorem dX1_sumOf_1 : decode cX1_sumOf 1 = .ok (.istore_n 3, 1) := by decide +kernel
theorem dX1_sumOf_2 : decode cX1_sumOf 2 = .ok (.iconst 0, 1) := by decide +kernel
theorem dX1_sumOf_3 : decode cX1_sumOf 3 = .ok (.istore 4, 2) := by decide +kernel
theorem dX1_sumOf_5 : decode cX1_sumOf 5 = .ok (.iload 4, 2) := by decide +kernel
theorem dX1_sumOf_7 : decode cX1_sumOf 7 = .ok (.bipush 12, 2) := by decide +kernel
theorem dX1_sumOf_9 : decode cX1_sumOf 9 = .ok (.if_icmp .ge 28, 3) := by decide +kernel
theorem dX1_sumOf_12 : decode cX1_sumOf 12 = .ok (.iload_n 1, 1) := by decide +kernel
theorem dX1_sumOf_13 : decode cX1_sumOf 13 = .ok (.iload 4, 2) := by decide +kernel
theorem dX1_sumOf_15 : decode cX1_sumOf 15 = .ok (.ishr, 1) := by decide +kernel
theorem dX1_sumOf_16 : decode cX1_sumOf 16 = .ok (.iconst 1, 1) := by decide +kernel
theorem dX1_sumOf_17 : decode cX1_sumOf 17 = .ok (.iand, 1) := by decide +kernel
theorem dX1_sumOf_18 : decode cX1_sumOf 18 = .ok (.ifCond .eq 13, 3) := by decide +kernel
theorem dX1_sumOf_21 : decode cX1_sumOf 21 = .ok (.iload_n 3, 1) := by decide +kernel
theorem dX1_sumOf_22 : decode cX1_sumOf 22 = .ok (.aload_n 0, 1) := by decide +kernel
theorem dX1_sumOf_23 : decode cX1_sumOf 23 = .ok (.iload 4, 2) := by decide +kernel
theorem dX1_sumOf_25 : decode cX1_sumOf 25 = .ok (.iload_n 2, 1) := by decide +kernel
theorem dX1_sumOf_26 : decode cX1_sumOf 26 = .ok (.invokevirtual 38, 3) := by decide +kernel
theorem dX1_sumOf_29 : decode cX1_sumOf 29 = .ok (.iadd, 1) := by decide +kernel
theorem dX1_sumOf_30 : decode cX1_sumOf 30 = .ok (.istore_n 3, 1) := by decide +kernel
theorem dX1_sumOf_31 : decode cX1_sumOf 31 = .ok (.iinc 4 1, 3) := by decide +kernel
theorem dX1_sumOf_34 : decode cX1_sumOf 34 = .ok (.goto (-29), 3) := by decide +kernel
theorem dX1_sumOf_37 : decode cX1_sumOf 37 = .ok (.iload_n 3, 1) := by decide +kernel
theorem dX1_sumOf_38 : decode cX1_sumOf 38 = .ok (.ireturn, 1) := by decide +kernel
theorem dX1_onlyHolder_0 : decode cX1_onlyHolder 0 = .ok (.aload_n 0, 1) := by decide +kernel
theorem dX1_onlyHolder_1 : decode cX1_onlyHolder 1 = .ok (.getfield 15, 3) := by decide +kernel
theorem dX1_onlyHolder_4 : decode cX1_onlyHolder 4 = .ok (.iload_n 1, 1) := by decide +kernel
theorem dX1_onlyHolder_5 : decode cX1_onlyHolder 5 = .ok (.iaload, 1) := by decide +kernel
theorem dX1_onlyHolder_6 : decode cX1_onlyHolder 6 = .ok (.istore_n 2, 1) := by decide +kernel
theorem dX1_onlyHolder_7 : decode cX1_onlyHolder 7 = .ok (.iload_n 2, 1) := by decide +kernel
theorem dX1_onlyHolder_8 : decode cX1_onlyHolder 8 = .ok (.invokestatic 42, 3) := by decide +kernel
theorem dX1_onlyHolder_11 : decode cX1_onlyHolder 11 = .ok (.iconst 1, 1) := by decide +kernel
theorem dX1_onlyHolder_12 : decode cX1_onlyHolder 12 = .ok (.if_icmp .ne 10, 3) := by decide +kernel
theorem dX1_onlyHolder_15 : decode cX1_onlyHolder 15 = .ok (.iload_n 2, 1) := by decide +kernel
theorem dX1_onlyHolder_16 : decode cX1_onlyHolder 16 = .ok (.invokestatic 48, 3) := by decide +kernel
theorem dX1_onlyHolder_19 : decode cX1_onlyHolder 19 = .ok (.goto 4, 3) := by decide +kernel
theorem dX1_onlyHolder_22 : decode cX1_onlyHolder 22 = .ok (.iconst (-1), 1) := by decide +kernel
theorem dX1_onlyHolder_23 : decode cX1_onlyHolder 23 = .ok (.ireturn, 1) := by decide +kernel
theorem dX2_init_0 : decode cX2_init 0 = .ok (.aload_n 0, 1) := by decide +kernel
theorem dX2_init_1 : decode cX2_init 1 = .ok (.invokespecial 3, 3) := by decide +kernel
theorem dX2_init_4 : decode cX2_init 4 = .ok (.aload_n 0, 1) := by decide +kernel
theorem dX2_init_5 : decode cX2_init 5 = .ok (.new 9, 3) := by decide +kernel
theorem dX2_init_8 : decode cX2_init 8 = .ok (.dup, 1) := by decide +kernel
theorem dX2_init_9 : decode cX2_init 9 = .ok (.invokespecial 11, 3) := by decide +kernel
theorem dX2_init_12 : decode cX2_init 12 = .ok (.putfield 12, 3) := by decide +kernel
theorem dX2_init_15 : decode cX2_init 15 = .ok (.aload_n 0, 1) := by decide +kernel
theorem dX2_init_16 : decode cX2_init 16 = .ok (.new 18, 3) := by decide +kernel
theorem dX2_init_19 : decode cX2_init 19 = .ok (.dup, 1) := by decide +kernel
theorem dX2_init_20 : decode cX2_init 20 = .ok (.invokespecial 20, 3) := by decide +kernel
theorem dX2_init_23 : decode cX2_init 23 = .ok (.putfield 21, 3) := by decide +kernel
theorem dX2_init_26 : decode cX2_init 26 = .ok (.aload_n 0, 1) := by decide +kernel
theorem dX2_init_27 : decode cX2_init 27 = .ok (.bipush 12, 2) := by decide +kernel
theorem dX2_init_29 : decode cX2_init 29 = .ok (.newarray .int, 2) := by decide +kernel
theorem dX2_init_31 : decode cX2_init 31 = .ok (.putfield 25, 3) := by decide +kernel
theorem dX2_init_34 : decode cX2_init 34 = .ok (.aload_n 0, 1) := by decide +kernel
theorem dX2_init_35 : decode cX2_init 35 = .ok (.bipush 64, 2) := by decide +kernel
theorem dX2_init_37 : decode cX2_init 37 = .ok (.newarray .long, 2) := by decide +kernel
theorem dX2_init_39 : decode cX2_init 39 = .ok (.putfield 29, 3) := by decide +kernel
theorem dX2_init_42 : decode cX2_init 42 = .ok (.aload_n 0, 1) := by decide +kernel
theorem dX2_init_43 : decode cX2_init 43 = .ok (.iconst (-1), 1) := by decide +kernel
theorem dX2_init_44 : decode cX2_init 44 = .ok (.putfield 33, 3) := by decide +kernel
theorem dX2_init_47 : decode cX2_init 47 = .ok (.aload_n 0, 1) := by decide +kernel
theorem dX2_init_48 : decode cX2_init 48 = .ok (.aload_n 1, 1) := by decide +kernel
theorem dX2_init_49 : decode cX2_init 49 = .ok (.putfield 37, 3) := by decide +kernel
theorem dX2_init_52 : decode cX2_init 52 = .ok (.aload_n 0, 1) := by decide +kernel
theorem dX2_init_53 : decode cX2_init 53 = .ok (.aload_n 2, 1) := by decide +kernel
theorem dX2_init_54 : decode cX2_init 54 = .ok (.putfield 41, 3) := by decide +kernel
theorem dX2_init_57 : decode cX2_init 57 = .ok (.aload_n 0, 1) := by decide +kernel
theorem dX2_init_58 : decode cX2_init 58 = .ok (.aload_n 3, 1) := by decide +kernel
theorem dX2_init_59 : decode cX2_init 59 = .ok (.putfield 44, 3) := by decide +kernel
theorem dX2_init_62 : decode cX2_init 62 = .ok (.return_, 1) := by decide +kernel
theorem dX2_find_0 : decode cX2_find 0 = .ok (.aload_n 0, 1) := by decide +kernel
theorem dX2_find_1 : decode cX2_find 1 = .ok (.getfield 48, 3) := by decide +kernel
theorem dX2_find_4 : decode cX2_find 4 = .ok (.iload_n 1, 1) := by decide +kernel
theorem dX2_find_5 : decode cX2_find 5 = .ok (.if_icmp .ne 23, 3) := by decide +kernel
theorem dX2_find_8 : decode cX2_find 8 = .ok (.aload_n 0, 1) := by decide +kernel
theorem dX2_find_9 : decode cX2_find 9 = .ok (.getfield 51, 3) := by decide +kernel
theorem dX2_find_12 : decode cX2_find 12 = .ok (.iload_n 2, 1) := by decide +kernel
theorem dX2_find_13 : decode cX2_find 13 = .ok (.if_icmp .ne 15, 3) := by decide +kernel
theorem dX2_find_16 : decode cX2_find 16 = .ok (.aload_n 0, 1) := by decide +kernel
theorem dX2_find_17 : decode cX2_find 17 = .ok (.getfield 54, 3) := by decide +kernel
theorem dX2_find_20 : decode cX2_find 20 = .ok (.iload_n 3, 1) := by decide +kernel
theorem dX2_find_21 : decode cX2_find 21 = .ok (.if_icmp .ne 7, 3) := by decide +kernel
theorem dX2_find_24 : decode cX2_find 24 = .ok (.iconst 1, 1) := by decide +kernel
theorem dX2_find_25 : decode cX2_find 25 = .ok (.goto 4, 3) := by decide +kernel
theorem dX2_find_28 : decode cX2_find 28 = .ok (.iconst 0, 1) := by decide +kernel
theorem dX2_find_29 : decode cX2_find 29 = .ok (.istore 4, 2) := by decide +kernel
theorem dX2_find_31 : decode cX2_find 31 = .ok (.iload 4, 2) := by decide +kernel
theorem dX2_find_33 : decode cX2_find 33 = .ok (.ifCond .eq 17, 3) := by decide +kernel
theorem dX2_find_36 : decode cX2_find 36 = .ok (.aload_n 0, 1) := by decide +kernel
theorem dX2_find_37 : decode cX2_find 37 = .ok (.getfield 33, 3) := by decide +kernel
theorem dX2_find_40 : decode cX2_find 40 = .ok (.aload_n 0, 1) := by decide +kernel
theorem dX2_find_41 : decode cX2_find 41 = .ok (.getfield 37, 3) := by decide +kernel
theorem dX2_find_44 : decode cX2_find 44 = .ok (.getfield 57, 3) := by decide +kernel
theorem dX2_find_47 : decode cX2_find 47 = .ok (.if_icmp .eq 37, 3) := by decide +kernel
theorem dX2_find_50 : decode cX2_find 50 = .ok (.aload_n 0, 1) := by decide +kernel
theorem dX2_find_51 : decode cX2_find 51 = .ok (.iload_n 1, 1) := by decide +kernel
theorem dX2_find_52 : decode cX2_find 52 = .ok (.putfield 48, 3) := by decide +kernel
theorem dX2_find_55 : decode cX2_find 55 = .ok (.aload_n 0, 1) := by decide +kernel
theorem dX2_find_56 : decode cX2_find 56 = .ok (.iload_n 2, 1) := by decide +kernel
theorem dX2_find_57 : decode cX2_find 57 = .ok (.putfield 51, 3) := by decide +kernel
theorem dX2_find_60 : decode cX2_find 60 = .ok (.aload_n 0, 1) := by decide +kernel
theorem dX2_find_61 : decode cX2_find 61 = .ok (.iload_n 3, 1) := by decide +kernel
theorem dX2_find_62 : decode cX2_find 62 = .ok (.putfield 54, 3) := by decide +kernel
theorem dX2_find_65 : decode cX2_find 65 = .ok (.aload_n 0, 1) := by decide +kernel
theorem dX2_find_66 : decode cX2_find 66 = .ok (.invokevirtual 62, 3) := by decide +kernel
theorem dX2_find_69 : decode cX2_find 69 = .ok (.aload_n 0, 1) := by decide +kernel
theorem dX2_find_70 : decode cX2_find 70 = .ok (.invokevirtual 65, 3) := by decide +kernel
theorem dX2_find_73 : decode cX2_find 73 = .ok (.aload_n 0, 1) := by decide +kernel
theorem dX2_find_74 : decode cX2_find 74 = .ok (.aload_n 0, 1) := by decide +kernel
theorem dX2_find_75 : decode cX2_find 75 = .ok (.getfield 37, 3) := by decide +kernel
theorem dX2_find_78 : decode cX2_find 78 = .ok (.getfield 57, 3) := by decide +kernel
theorem dX2_find_81 : decode cX2_find 81 = .ok (.putfield 33, 3) := by decide +kernel
theorem dX2_find_84 : decode cX2_find 84 = .ok (.return_, 1) := by decide +kernel
theorem dX2_begin_0 : decode cX2_begin 0 = .ok (.aload_n 0, 1) := by decide +kernel
theorem dX2_begin_1 : decode cX2_begin 1 = .ok (.iconst 0, 1) := by decide +kernel
theorem dX2_begin_2 : decode cX2_begin 2 = .ok (.putfield 68, 3) := by decide +kernel
theorem dX2_begin_5 : decode cX2_begin 5 = .ok (.aload_n 0, 1) := by decide +kernel
theorem dX2_begin_6 : decode cX2_begin 6 = .ok (.iconst 0, 1) := by decide +kernel
theorem dX2_begin_7 : decode cX2_begin 7 = .ok (.putfield 71, 3) := by decide +kernel
theorem dX2_begin_10 : decode cX2_begin 10 = .ok (.iconst 0, 1) := by decide +kernel
theorem dX2_begin_11 : decode cX2_begin 11 = .ok (.istore_n 1, 1) := by decide +kernel
theorem dX2_begin_12 : decode cX2_begin 12 = .ok (.iload_n 1, 1) := by decide +kernel
theorem dX2_begin_13 : decode cX2_begin 13 = .ok (.bipush 12, 2) := by decide +kernel
theorem dX2_begin_15 : decode cX2_begin 15 = .ok (.if_icmp .ge 73, 3) := by decide +kernel
theorem dX2_begin_18 : decode cX2_begin 18 = .ok (.aload_n 0, 1) := by decide +kernel
theorem dX2_begin_19 : decode cX2_begin 19 = .ok (.getfield 25, 3) := by decide +kernel
theorem dX2_begin_22 : decode cX2_begin 22 = .ok (.iload_n 1, 1) := by decide +kernel
theorem dX2_begin_23 : decode cX2_begin 23 = .ok (.aload_n 0, 1) := by decide +kernel
theorem dX2_begin_24 : decode cX2_begin 24 = .ok (.getfield 41, 3) := by decide +kernel
theorem dX2_begin_27 : decode cX2_begin 27 = .ok (.iload_n 1, 1) := by decide +kernel
theorem dX2_begin_28 : decode cX2_begin 28 = .ok (.invokevirtual 74, 3) := by decide +kernel
theorem dX2_begin_31 : decode cX2_begin 31 = .ok (.iastore, 1) := by decide +kernel
theorem dX2_begin_32 : decode cX2_begin 32 = .ok (.aload_n 0, 1) := by decide +kernel
theorem dX2_begin_33 : decode cX2_begin 33 = .ok (.getfield 25, 3) := by decide +kernel
theorem dX2_begin_36 : decode cX2_begin 36 = .ok (.iload_n 1, 1) := by decide +kernel
theorem dX2_begin_37 : decode cX2_begin 37 = .ok (.iaload, 1) := by decide +kernel
theorem dX2_begin_38 : decode cX2_begin 38 = .ok (.aload_n 0, 1) := by decide +kernel
theorem dX2_begin_39 : decode cX2_begin 39 = .ok (.getfield 48, 3) := by decide +kernel
theorem dX2_begin_42 : decode cX2_begin 42 = .ok (.if_icmp .ne 18, 3) := by decide +kernel
theorem dX2_begin_45 : decode cX2_begin 45 = .ok (.aload_n 0, 1) := by decide +kernel
theorem dX2_begin_46 : decode cX2_begin 46 = .ok (.dup, 1) := by decide +kernel
theorem dX2_begin_47 : decode cX2_begin 47 = .ok (.getfield 68, 3) := by decide +kernel
theorem dX2_begin_50 : decode cX2_begin 50 = .ok (.iconst 1, 1) := by decide +kernel
theorem dX2_begin_51 : decode cX2_begin 51 = .ok (.iload_n 1, 1) := by decide +kernel
theorem dX2_begin_52 : decode cX2_begin 52 = .ok (.ishl, 1) := by decide +kernel
theorem dX2_begin_53 : decode cX2_begin 53 = .ok (.ior, 1) := by decide +kernel
theorem dX2_begin_54 : decode cX2_begin 54 = .ok (.putfield 68, 3) := by decide +kernel
theorem dX2_begin_57 : decode cX2_begin 57 = .ok (.goto 25, 3) := by decide +kernel
theorem dX2_begin_60 : decode cX2_begin 60 = .ok (.aload_n 0, 1) := by decide +kernel
theorem dX2_begin_61 : decode cX2_begin 61 = .ok (.getfield 25, 3) := by decide +kernel
theorem dX2_begin_64 : decode cX2_begin 64 = .ok (.iload_n 1, 1) := by decide +kernel
theorem dX2_begin_65 : decode cX2_begin 65 = .ok (.iaload, 1) := by decide +kernel
theorem dX2_begin_66 : decode cX2_begin 66 = .ok (.iconst (-1), 1) := by decide +kernel
theorem dX2_begin_67 : decode cX2_begin 67 = .ok (.if_icmp .eq 15, 3) := by decide +kernel
theorem dX2_begin_70 : decode cX2_begin 70 = .ok (.aload_n 0, 1) := by decide +kernel
theorem dX2_begin_71 : decode cX2_begin 71 = .ok (.dup, 1) := by decide +kernel
theorem dX2_begin_72 : decode cX2_begin 72 = .ok (.getfield 71, 3) := by decide +kernel
theorem dX2_begin_75 : decode cX2_begin 75 = .ok (.iconst 1, 1) := by decide +kernel
theorem dX2_begin_76 : decode cX2_begin 76 = .ok (.iload_n 1, 1) := by decide +kernel
theorem dX2_begin_77 : decode cX2_begin 77 = .ok (.ishl, 1) := by decide +kernel
theorem dX2_begin_78 : decode cX2_begin 78 = .ok (.ior, 1) := by decide +kernel
theorem dX2_begin_79 : decode cX2_begin 79 = .ok (.putfield 71, 3) := by decide +kernel
theorem dX2_begin_82 : decode cX2_begin 82 = .ok (.iinc 1 1, 3) := by decide +kernel
theorem dX2_begin_85 : decode cX2_begin 85 = .ok (.goto (-73), 3) := by decide +kernel
theorem dX2_begin_88 : decode cX2_begin 88 = .ok (.iconst 0, 1) := by decide +kernel
theorem dX2_begin_89 : decode cX2_begin 89 = .ok (.istore_n 1, 1) := by decide +kernel
theorem dX2_begin_90 : decode cX2_begin 90 = .ok (.iload_n 1, 1) := by decide +kernel
theorem dX2_begin_91 : decode cX2_begin 91 = .ok (.aload_n 0, 1) := by decide +kernel
theorem dX2_begin_92 : decode cX2_begin 92 = .ok (.getfield 29, 3) := by decide +kernel
theorem dX2_begin_95 : decode cX2_begin 95 = .ok (.arraylength, 1) := by decide +kernel
theorem dX2_begin_96 : decode cX2_begin 96 = .ok (.if_icmp .ge 16, 3) := by decide +kernel
theorem dX2_begin_99 : decode cX2_begin 99 = .ok (.aload_n 0, 1) := by decide +kernel
theorem dX2_begin_100 : decode cX2_begin 100 = .ok (.getfield 29, 3) := by decide +kernel
theorem dX2_begin_103 : decode cX2_begin 103 = .ok (.iload_n 1, 1) := by decide +kernel
theorem dX2_begin_104 : decode cX2_begin 104 = .ok (.lconst 0, 1) := by decide +kernel
theorem dX2_begin_105 : decode cX2_begin 105 = .ok (.lastore, 1) := by decide +kernel
theorem dX2_begin_106 : decode cX2_begin 106 = .ok (.iinc 1 1, 3) := by decide +kernel
theorem dX2_begin_109 : decode cX2_begin 109 = .ok (.goto (-19), 3) := by decide +kernel
theorem dX2_begin_112 : decode cX2_begin 112 = .ok (.aload_n 0, 1) := by decide +kernel
theorem dX2_begin_113 : decode cX2_begin 113 = .ok (.getfield 12, 3) := by decide +kernel
theorem dX2_begin_116 : decode cX2_begin 116 = .ok (.aload_n 0, 1) := by decide +kernel
theorem dX2_begin_117 : decode cX2_begin 117 = .ok (.getfield 41, 3) := by decide +kernel
theorem dX2_begin_120 : decode cX2_begin 120 = .ok (.invokevirtual 78, 3) := by decide +kernel
theorem dX2_begin_123 : decode cX2_begin 123 = .ok (.aload_n 0, 1) := by decide +kernel
theorem dX2_begin_124 : decode cX2_begin 124 = .ok (.iconst 0, 1) := by decide +kernel
theorem dX2_begin_125 : decode cX2_begin 125 = .ok (.putfield 82, 3) := by decide +kernel
theorem dX2_begin_128 : decode cX2_begin 128 = .ok (.return_, 1) := by decide +kernel
theorem dX2_search_0 : decode cX2_search 0 = .ok (.aload_n 0, 1) := by decide +kernel
theorem dX2_search_1 : decode cX2_search 1 = .ok (.iconst 0, 1) := by decide +kernel
theorem dX2_search_2 : decode cX2_search 2 = .ok (.putfield 85, 3) := by decide +kernel
theorem dX2_search_5 : decode cX2_search 5 = .ok (.aload_n 0, 1) := by decide +kernel
theorem dX2_search_6 : decode cX2_search 6 = .ok (.getfield 29, 3) := by decide +kernel
theorem dX2_search_9 : decode cX2_search 9 = .ok (.iconst 0, 1) := by decide +kernel
theorem dX2_search_10 : decode cX2_search 10 = .ok (.lconst 1, 1) := by decide +kernel
theorem dX2_search_11 : decode cX2_search 11 = .ok (.lastore, 1) := by decide +kernel
theorem dX2_search_12 : decode cX2_search 12 = .ok (.iconst 0, 1) := by decide +kernel
theorem dX2_search_13 : decode cX2_search 13 = .ok (.istore_n 1, 1) := by decide +kernel
theorem dX2_search_14 : decode cX2_search 14 = .ok (.iconst 1, 1) := by decide +kernel
theorem dX2_search_15 : decode cX2_search 15 = .ok (.istore_n 2, 1) := by decide +kernel
theorem dX2_search_16 : decode cX2_search 16 = .ok (.iload_n 2, 1) := by decide +kernel
theorem dX2_search_17 : decode cX2_search 17 = .ok (.sipush 4096, 3) := by decide +kernel
theorem dX2_search_20 : decode cX2_search 20 = .ok (.if_icmp .ge 82, 3) := by decide +kernel
theorem dX2_search_23 : decode cX2_search 23 = .ok (.iload_n 1, 1) := by decide +kernel
theorem dX2_search_24 : decode cX2_search 24 = .ok (.aload_n 0, 1) := by decide +kernel
theorem dX2_search_25 : decode cX2_search 25 = .ok (.getfield 71, 3) := by decide +kernel
theorem dX2_search_28 : decode cX2_search 28 = .ok (.isub, 1) := by decide +kernel
theorem dX2_search_29 : decode cX2_search 29 = .ok (.aload_n 0, 1) := by decide +kernel
theorem dX2_search_30 : decode cX2_search 30 = .ok (.getfield 71, 3) := by decide +kernel
theorem dX2_search_33 : decode cX2_search 33 = .ok (.iand, 1) := by decide +kernel
theorem dX2_search_34 : decode cX2_search 34 = .ok (.istore_n 1, 1) := by decide +kernel
theorem dX2_search_35 : decode cX2_search 35 = .ok (.iload_n 1, 1) := by decide +kernel
theorem dX2_search_36 : decode cX2_search 36 = .ok (.ifCond .ne 4, 3) := by decide +kernel
theorem dX2_search_39 : decode cX2_search 39 = .ok (.return_, 1) := by decide +kernel
theorem dX2_search_40 : decode cX2_search 40 = .ok (.iload_n 1, 1) := by decide +kernel
theorem dX2_search_41 : decode cX2_search 41 = .ok (.invokestatic 88, 3) := by decide +kernel
theorem dX2_search_44 : decode cX2_search 44 = .ok (.aload_n 0, 1) := by decide +kernel
theorem dX2_search_45 : decode cX2_search 45 = .ok (.getfield 51, 3) := by decide +kernel
theorem dX2_search_48 : decode cX2_search 48 = .ok (.if_icmp .gt 48, 3) := by decide +kernel
theorem dX2_search_51 : decode cX2_search 51 = .ok (.aload_n 0, 1) := by decide +kernel
theorem dX2_search_52 : decode cX2_search 52 = .ok (.iload_n 1, 1) := by decide +kernel
theorem dX2_search_53 : decode cX2_search 53 = .ok (.invokevirtual 93, 3) := by decide +kernel
theorem dX2_search_56 : decode cX2_search 56 = .ok (.ifCond .eq 40, 3) := by decide +kernel
theorem dX2_search_59 : decode cX2_search 59 = .ok (.aload_n 0, 1) := by decide +kernel
theorem dX2_search_60 : decode cX2_search 60 = .ok (.getfield 29, 3) := by decide +kernel
theorem dX2_search_63 : decode cX2_search 63 = .ok (.iload_n 1, 1) := by decide +kernel
theorem dX2_search_64 : decode cX2_search 64 = .ok (.bipush 6, 2) := by decide +kernel
theorem dX2_search_66 : decode cX2_search 66 = .ok (.ishr, 1) := by decide +kernel
theorem dX2_search_67 : decode cX2_search 67 = .ok (.dup2, 1) := by decide +kernel
theorem dX2_search_68 : decode cX2_search 68 = .ok (.laload, 1) := by decide +kernel
theorem dX2_search_69 : decode cX2_search 69 = .ok (.lconst 1, 1) := by decide +kernel
theorem dX2_search_70 : decode cX2_search 70 = .ok (.iload_n 1, 1) := by decide +kernel
theorem dX2_search_71 : decode cX2_search 71 = .ok (.bipush 63, 2) := by decide +kernel
theorem dX2_search_73 : decode cX2_search 73 = .ok (.iand, 1) := by decide +kernel
theorem dX2_search_74 : decode cX2_search 74 = .ok (.lshl, 1) := by decide +kernel
theorem dX2_search_75 : decode cX2_search 75 = .ok (.lor, 1) := by decide +kernel
theorem dX2_search_76 : decode cX2_search 76 = .ok (.lastore, 1) := by decide +kernel
theorem dX2_search_77 : decode cX2_search 77 = .ok (.iload_n 1, 1) := by decide +kernel
theorem dX2_search_78 : decode cX2_search 78 = .ok (.invokestatic 88, 3) := by decide +kernel
theorem dX2_search_81 : decode cX2_search 81 = .ok (.aload_n 0, 1) := by decide +kernel
theorem dX2_search_82 : decode cX2_search 82 = .ok (.getfield 85, 3) := by decide +kernel
theorem dX2_search_85 : decode cX2_search 85 = .ok (.invokestatic 88, 3) := by decide +kernel
theorem dX2_search_88 : decode cX2_search 88 = .ok (.if_icmp .le 8, 3) := by decide +kernel
theorem dX2_search_91 : decode cX2_search 91 = .ok (.aload_n 0, 1) := by decide +kernel
theorem dX2_search_92 : decode cX2_search 92 = .ok (.iload_n 1, 1) := by decide +kernel
theorem dX2_search_93 : decode cX2_search 93 = .ok (.putfield 85, 3) := by decide +kernel
theorem dX2_search_96 : decode cX2_search 96 = .ok (.iinc 2 1, 3) := by decide +kernel
theorem dX2_search_99 : decode cX2_search 99 = .ok (.goto (-83), 3) := by decide +kernel
theorem dX2_search_102 : decode cX2_search 102 = .ok (.return_, 1) := by decide +kernel
theorem dX2_comesAbout_0 : decode cX2_comesAbout 0 = .ok (.iconst 0, 1) := by decide +kernel
theorem dX2_comesAbout_1 : decode cX2_comesAbout 1 = .ok (.istore_n 2, 1) := by decide +kernel
theorem dX2_comesAbout_2 : decode cX2_comesAbout 2 = .ok (.iload_n 2, 1) := by decide +kernel
theorem dX2_comesAbout_3 : decode cX2_comesAbout 3 = .ok (.bipush 12, 2) := by decide +kernel
theorem dX2_comesAbout_5 : decode cX2_comesAbout 5 = .ok (.if_icmp .ge 58, 3) := by decide +kernel
theorem dX2_comesAbout_8 : decode cX2_comesAbout 8 = .ok (.iload_n 1, 1) := by decide +kernel
theorem dX2_comesAbout_9 : decode cX2_comesAbout 9 = .ok (.iconst 1, 1) := by decide +kernel
theorem dX2_comesAbout_10 : decode cX2_comesAbout 10 = .ok (.iload_n 2, 1) := by decide +kernel
theorem dX2_comesAbout_11 : decode cX2_comesAbout 11 = .ok (.ishl, 1) := by decide +kernel
theorem dX2_comesAbout_12 : decode cX2_comesAbout 12 = .ok (.iconst (-1), 1) := by decide +kernel
theorem dX2_comesAbout_13 : decode cX2_comesAbout 13 = .ok (.ixor, 1) := by decide +kernel
theorem dX2_comesAbout_14 : decode cX2_comesAbout 14 = .ok (.iand, 1) := by decide +kernel
theorem dX2_comesAbout_15 : decode cX2_comesAbout 15 = .ok (.istore_n 3, 1) := by decide +kernel
theorem dX2_comesAbout_16 : decode cX2_comesAbout 16 = .ok (.iload_n 3, 1) := by decide +kernel
theorem dX2_comesAbout_17 : decode cX2_comesAbout 17 = .ok (.iload_n 1, 1) := by decide +kernel
theorem dX2_comesAbout_18 : decode cX2_comesAbout 18 = .ok (.if_icmp .eq 39, 3) := by decide +kernel
theorem dX2_comesAbout_21 : decode cX2_comesAbout 21 = .ok (.aload_n 0, 1) := by decide +kernel
theorem dX2_comesAbout_22 : decode cX2_comesAbout 22 = .ok (.getfield 29, 3) := by decide +kernel
theorem dX2_comesAbout_25 : decode cX2_comesAbout 25 = .ok (.iload_n 3, 1) := by decide +kernel
theorem dX2_comesAbout_26 : decode cX2_comesAbout 26 = .ok (.bipush 6, 2) := by decide +kernel
theorem dX2_comesAbout_28 : decode cX2_comesAbout 28 = .ok (.ishr, 1) := by decide +kernel
theorem dX2_comesAbout_29 : decode cX2_comesAbout 29 = .ok (.laload, 1) := by decide +kernel
theorem dX2_comesAbout_30 : decode cX2_comesAbout 30 = .ok (.iload_n 3, 1) := by decide +kernel
theorem dX2_comesAbout_31 : decode cX2_comesAbout 31 = .ok (.bipush 63, 2) := by decide +kernel
theorem dX2_comesAbout_33 : decode cX2_comesAbout 33 = .ok (.iand, 1) := by decide +kernel
theorem dX2_comesAbout_34 : decode cX2_comesAbout 34 = .ok (.lushr, 1) := by decide +kernel
theorem dX2_comesAbout_35 : decode cX2_comesAbout 35 = .ok (.lconst 1, 1) := by decide +kernel
theorem dX2_comesAbout_36 : decode cX2_comesAbout 36 = .ok (.land, 1) := by decide +kernel
theorem dX2_comesAbout_37 : decode cX2_comesAbout 37 = .ok (.lconst 0, 1) := by decide +kernel
theorem dX2_comesAbout_38 : decode cX2_comesAbout 38 = .ok (.lcmp, 1) := by decide +kernel
theorem dX2_comesAbout_39 : decode cX2_comesAbout 39 = .ok (.ifCond .eq 18, 3) := by decide +kernel
theorem dX2_comesAbout_42 : decode cX2_comesAbout 42 = .ok (.aload_n 0, 1) := by decide +kernel
theorem dX2_comesAbout_43 : decode cX2_comesAbout 43 = .ok (.iload_n 3, 1) := by decide +kernel
theorem dX2_comesAbout_44 : decode cX2_comesAbout 44 = .ok (.invokevirtual 97, 3) := by decide +kernel
theorem dX2_comesAbout_47 : decode cX2_comesAbout 47 = .ok (.aload_n 0, 1) := by decide +kernel
theorem dX2_comesAbout_48 : decode cX2_comesAbout 48 = .ok (.iload_n 2, 1) := by decide +kernel
theorem dX2_comesAbout_49 : decode cX2_comesAbout 49 = .ok (.invokevirtual 101, 3) := by decide +kernel
theorem dX2_comesAbout_52 : decode cX2_comesAbout 52 = .ok (.ifCond .eq 5, 3) := by decide +kernel
theorem dX2_comesAbout_55 : decode cX2_comesAbout 55 = .ok (.iconst 1, 1) := by decide +kernel
theorem dX2_comesAbout_56 : decode cX2_comesAbout 56 = .ok (.ireturn, 1) := by decide +kernel
theorem dX2_comesAbout_57 : decode cX2_comesAbout 57 = .ok (.iinc 2 1, 3) := by decide +kernel
theorem dX2_comesAbout_60 : decode cX2_comesAbout 60 = .ok (.goto (-58), 3) := by decide +kernel
theorem dX2_comesAbout_63 : decode cX2_comesAbout 63 = .ok (.iconst 0, 1) := by decide +kernel
theorem dX2_comesAbout_64 : decode cX2_comesAbout 64 = .ok (.ireturn, 1) := by decide +kernel
theorem dX2_place_0 : decode cX2_place 0 = .ok (.aload_n 0, 1) := by decide +kernel
theorem dX2_place_1 : decode cX2_place 1 = .ok (.getfield 82, 3) := by decide +kernel
theorem dX2_place_4 : decode cX2_place 4 = .ok (.iload_n 1, 1) := by decide +kernel
theorem dX2_place_5 : decode cX2_place 5 = .ok (.ixor, 1) := by decide +kernel
theorem dX2_place_6 : decode cX2_place 6 = .ok (.istore_n 2, 1) := by decide +kernel
theorem dX2_place_7 : decode cX2_place 7 = .ok (.iconst 0, 1) := by decide +kernel
theorem dX2_place_8 : decode cX2_place 8 = .ok (.istore_n 3, 1) := by decide +kernel
theorem dX2_place_9 : decode cX2_place 9 = .ok (.iload_n 3, 1) := by decide +kernel
theorem dX2_place_10 : decode cX2_place 10 = .ok (.bipush 12, 2) := by decide +kernel
theorem dX2_place_12 : decode cX2_place 12 = .ok (.if_icmp .ge 68, 3) := by decide +kernel
theorem dX2_place_15 : decode cX2_place 15 = .ok (.iload_n 2, 1) := by decide +kernel
theorem dX2_place_16 : decode cX2_place 16 = .ok (.iload_n 3, 1) := by decide +kernel
theorem dX2_place_17 : decode cX2_place 17 = .ok (.ishr, 1) := by decide +kernel
theorem dX2_place_18 : decode cX2_place 18 = .ok (.ifCond .eq 62, 3) := by decide +kernel
theorem dX2_place_21 : decode cX2_place 21 = .ok (.iload_n 2, 1) := by decide +kernel
theorem dX2_place_22 : decode cX2_place 22 = .ok (.iload_n 3, 1) := by decide +kernel
theorem dX2_place_23 : decode cX2_place 23 = .ok (.ishr, 1) := by decide +kernel
theorem dX2_place_24 : decode cX2_place 24 = .ok (.iconst 1, 1) := by decide +kernel
theorem dX2_place_25 : decode cX2_place 25 = .ok (.iand, 1) := by decide +kernel
theorem dX2_place_26 : decode cX2_place 26 = .ok (.ifCond .eq 48, 3) := by decide +kernel
theorem dX2_place_29 : decode cX2_place 29 = .ok (.iload_n 1, 1) := by decide +kernel
theorem dX2_place_30 : decode cX2_place 30 = .ok (.iload_n 3, 1) := by decide +kernel
theorem dX2_place_31 : decode cX2_place 31 = .ok (.ishr, 1) := by decide +kernel
theorem dX2_place_32 : decode cX2_place 32 = .ok (.iconst 1, 1) := by decide +kernel
theorem dX2_place_33 : decode cX2_place 33 = .ok (.iand, 1) := by decide +kernel
theorem dX2_place_34 : decode cX2_place 34 = .ok (.ifCond .eq 7, 3) := by decide +kernel
theorem dX2_place_37 : decode cX2_place 37 = .ok (.iconst 1, 1) := by decide +kernel
theorem dX2_place_38 : decode cX2_place 38 = .ok (.goto 4, 3) := by decide +kernel
theorem dX2_place_41 : decode cX2_place 41 = .ok (.iconst 0, 1) := by decide +kernel
theorem dX2_place_42 : decode cX2_place 42 = .ok (.istore 4, 2) := by decide +kernel
theorem dX2_place_44 : decode cX2_place 44 = .ok (.aload_n 0, 1) := by decide +kernel
theorem dX2_place_45 : decode cX2_place 45 = .ok (.getfield 12, 3) := by decide +kernel
theorem dX2_place_48 : decode cX2_place 48 = .ok (.iload_n 3, 1) := by decide +kernel
theorem dX2_place_49 : decode cX2_place 49 = .ok (.aload_n 0, 1) := by decide +kernel
theorem dX2_place_50 : decode cX2_place 50 = .ok (.getfield 25, 3) := by decide +kernel
theorem dX2_place_53 : decode cX2_place 53 = .ok (.iload_n 3, 1) := by decide +kernel
theorem dX2_place_54 : decode cX2_place 54 = .ok (.iaload, 1) := by decide +kernel
theorem dX2_place_55 : decode cX2_place 55 = .ok (.aload_n 0, 1) := by decide +kernel
theorem dX2_place_56 : decode cX2_place 56 = .ok (.getfield 48, 3) := by decide +kernel
theorem dX2_place_59 : decode cX2_place 59 = .ok (.iload 4, 2) := by decide +kernel
theorem dX2_place_61 : decode cX2_place 61 = .ok (.ifCond .eq 8, 3) := by decide +kernel
theorem dX2_place_64 : decode cX2_place 64 = .ok (.bipush 12, 2) := by decide +kernel
theorem dX2_place_66 : decode cX2_place 66 = .ok (.goto 5, 3) := by decide +kernel
theorem dX2_place_69 : decode cX2_place 69 = .ok (.bipush (-12), 2) := by decide +kernel
theorem dX2_place_71 : decode cX2_place 71 = .ok (.invokevirtual 104, 3) := by decide +kernel
theorem dX2_place_74 : decode cX2_place 74 = .ok (.iinc 3 1, 3) := by decide +kernel
theorem dX2_place_77 : decode cX2_place 77 = .ok (.goto (-68), 3) := by decide +kernel
theorem dX2_place_80 : decode cX2_place 80 = .ok (.aload_n 0, 1) := by decide +kernel
theorem dX2_place_81 : decode cX2_place 81 = .ok (.iload_n 1, 1) := by decide +kernel
theorem dX2_place_82 : decode cX2_place 82 = .ok (.putfield 82, 3) := by decide +kernel
theorem dX2_place_85 : decode cX2_place 85 = .ok (.return_, 1) := by decide +kernel
theorem dX2_sells_0 : decode cX2_sells 0 = .ok (.aload_n 0, 1) := by decide +kernel
theorem dX2_sells_1 : decode cX2_sells 1 = .ok (.getfield 44, 3) := by decide +kernel
theorem dX2_sells_4 : decode cX2_sells 4 = .ok (.aload_n 0, 1) := by decide +kernel
theorem dX2_sells_5 : decode cX2_sells 5 = .ok (.getfield 12, 3) := by decide +kernel
theorem dX2_sells_8 : decode cX2_sells 8 = .ok (.iload_n 1, 1) := by decide +kernel
theorem dX2_sells_9 : decode cX2_sells 9 = .ok (.aload_n 0, 1) := by decide +kernel
theorem dX2_sells_10 : decode cX2_sells 10 = .ok (.getfield 25, 3) := by decide +kernel
theorem dX2_sells_13 : decode cX2_sells 13 = .ok (.iload_n 1, 1) := by decide +kernel
theorem dX2_sells_14 : decode cX2_sells 14 = .ok (.iaload, 1) := by decide +kernel
theorem dX2_sells_15 : decode cX2_sells 15 = .ok (.invokevirtual 108, 3) := by decide +kernel
theorem dX2_sells_18 : decode cX2_sells 18 = .ok (.iconst 0, 1) := by decide +kernel
theorem dX2_sells_19 : decode cX2_sells 19 = .ok (.istore_n 2, 1) := by decide +kernel
theorem dX2_sells_20 : decode cX2_sells 20 = .ok (.iload_n 2, 1) := by decide +kernel
theorem dX2_sells_21 : decode cX2_sells 21 = .ok (.iconst 3, 1) := by decide +kernel
theorem dX2_sells_22 : decode cX2_sells 22 = .ok (.if_icmp .ge 67, 3) := by decide +kernel
theorem dX2_sells_25 : decode cX2_sells 25 = .ok (.aload_n 0, 1) := by decide +kernel
theorem dX2_sells_26 : decode cX2_sells 26 = .ok (.getfield 21, 3) := by decide +kernel
theorem dX2_sells_29 : decode cX2_sells 29 = .ok (.iload_n 1, 1) := by decide +kernel
theorem dX2_sells_30 : decode cX2_sells 30 = .ok (.aload_n 0, 1) := by decide +kernel
theorem dX2_sells_31 : decode cX2_sells 31 = .ok (.getfield 25, 3) := by decide +kernel
theorem dX2_sells_34 : decode cX2_sells 34 = .ok (.iload_n 1, 1) := by decide +kernel
theorem dX2_sells_35 : decode cX2_sells 35 = .ok (.iaload, 1) := by decide +kernel
theorem dX2_sells_36 : decode cX2_sells 36 = .ok (.aload_n 0, 1) := by decide +kernel
theorem dX2_sells_37 : decode cX2_sells 37 = .ok (.getfield 48, 3) := by decide +kernel
theorem dX2_sells_40 : decode cX2_sells 40 = .ok (.bipush 12, 2) := by decide +kernel
theorem dX2_sells_42 : decode cX2_sells 42 = .ok (.iload_n 2, 1) := by decide +kernel
theorem dX2_sells_43 : decode cX2_sells 43 = .ok (.aload_n 0, 1) := by decide +kernel
theorem dX2_sells_44 : decode cX2_sells 44 = .ok (.getfield 54, 3) := by decide +kernel
theorem dX2_sells_47 : decode cX2_sells 47 = .ok (.invokevirtual 114, 3) := by decide +kernel
theorem dX2_sells_50 : decode cX2_sells 50 = .ok (.aload_n 0, 1) := by decide +kernel
theorem dX2_sells_51 : decode cX2_sells 51 = .ok (.getfield 44, 3) := by decide +kernel
theorem dX2_sells_54 : decode cX2_sells 54 = .ok (.aload_n 0, 1) := by decide +kernel
theorem dX2_sells_55 : decode cX2_sells 55 = .ok (.getfield 21, 3) := by decide +kernel
theorem dX2_sells_58 : decode cX2_sells 58 = .ok (.invokevirtual 118, 3) := by decide +kernel
theorem dX2_sells_61 : decode cX2_sells 61 = .ok (.aload_n 0, 1) := by decide +kernel
theorem dX2_sells_62 : decode cX2_sells 62 = .ok (.getfield 44, 3) := by decide +kernel
theorem dX2_sells_65 : decode cX2_sells 65 = .ok (.lconst 1, 1) := by decide +kernel
theorem dX2_sells_66 : decode cX2_sells 66 = .ok (.aload_n 0, 1) := by decide +kernel
theorem dX2_sells_67 : decode cX2_sells 67 = .ok (.getfield 37, 3) := by decide +kernel
theorem dX2_sells_70 : decode cX2_sells 70 = .ok (.getfield 122, 3) := by decide +kernel
theorem dX2_sells_73 : decode cX2_sells 73 = .ok (.invokevirtual 125, 3) := by decide +kernel
theorem dX2_sells_76 : decode cX2_sells 76 = .ok (.lconst 0, 1) := by decide +kernel
theorem dX2_sells_77 : decode cX2_sells 77 = .ok (.lcmp, 1) := by decide +kernel
theorem dX2_sells_78 : decode cX2_sells 78 = .ok (.ifCond .eq 5, 3) := by decide +kernel
theorem dX2_sells_81 : decode cX2_sells 81 = .ok (.iconst 1, 1) := by decide +kernel
theorem dX2_sells_82 : decode cX2_sells 82 = .ok (.ireturn, 1) := by decide +kernel
theorem dX2_sells_83 : decode cX2_sells 83 = .ok (.iinc 2 1, 3) := by decide +kernel
theorem dX2_sells_86 : decode cX2_sells 86 = .ok (.goto (-66), 3) := by decide +kernel
theorem dX2_sells_89 : decode cX2_sells 89 = .ok (.iconst 0, 1) := by decide +kernel
theorem dX2_sells_90 : decode cX2_sells 90 = .ok (.ireturn, 1) := by decide +kernel
theorem dX3_init_0 : decode cX3_init 0 = .ok (.aload_n 0, 1) := by decide +kernel
theorem dX3_init_1 : decode cX3_init 1 = .ok (.invokespecial 3, 3) := by decide +kernel
theorem dX3_init_4 : decode cX3_init 4 = .ok (.aload_n 0, 1) := by decide +kernel
theorem dX3_init_5 : decode cX3_init 5 = .ok (.bipush 14, 2) := by decide +kernel
theorem dX3_init_7 : decode cX3_init 7 = .ok (.newarray .int, 2) := by decide +kernel
theorem dX3_init_9 : decode cX3_init 9 = .ok (.putfield 9, 3) := by decide +kernel
theorem dX3_init_12 : decode cX3_init 12 = .ok (.aload_n 0, 1) := by decide +kernel
theorem dX3_init_13 : decode cX3_init 13 = .ok (.bipush 64, 2) := by decide +kernel
theorem dX3_init_15 : decode cX3_init 15 = .ok (.newarray .int, 2) := by decide +kernel
theorem dX3_init_17 : decode cX3_init 17 = .ok (.putfield 15, 3) := by decide +kernel
theorem dX3_init_20 : decode cX3_init 20 = .ok (.aload_n 0, 1) := by decide +kernel
theorem dX3_init_21 : decode cX3_init 21 = .ok (.iconst 4, 1) := by decide +kernel
theorem dX3_init_22 : decode cX3_init 22 = .ok (.newarray .int, 2) := by decide +kernel
theorem dX3_init_24 : decode cX3_init 24 = .ok (.putfield 18, 3) := by decide +kernel
theorem dX3_init_27 : decode cX3_init 27 = .ok (.aload_n 0, 1) := by decide +kernel
theorem dX3_init_28 : decode cX3_init 28 = .ok (.bipush 16, 2) := by decide +kernel
theorem dX3_init_30 : decode cX3_init 30 = .ok (.newarray .int, 2) := by decide +kernel
theorem dX3_init_32 : decode cX3_init 32 = .ok (.putfield 21, 3) := by decide +kernel
theorem dX3_init_35 : decode cX3_init 35 = .ok (.aload_n 0, 1) := by decide +kernel
theorem dX3_init_36 : decode cX3_init 36 = .ok (.aload_n 1, 1) := by decide +kernel
theorem dX3_init_37 : decode cX3_init 37 = .ok (.putfield 24, 3) := by decide +kernel
theorem dX3_init_40 : decode cX3_init 40 = .ok (.return_, 1) := by decide +kernel
theorem dX3_settle_0 : decode cX3_settle 0 = .ok (.aload_n 0, 1) := by decide +kernel
theorem dX3_settle_1 : decode cX3_settle 1 = .ok (.aload_n 1, 1) := by decide +kernel
theorem dX3_settle_2 : decode cX3_settle 2 = .ok (.putfield 28, 3) := by decide +kernel
theorem dX3_settle_5 : decode cX3_settle 5 = .ok (.iconst 0, 1) := by decide +kernel
theorem dX3_settle_6 : decode cX3_settle 6 = .ok (.istore 4, 2) := by decide +kernel
theorem dX3_settle_8 : decode cX3_settle 8 = .ok (.iload 4, 2) := by decide +kernel
theorem dX3_settle_10 : decode cX3_settle 10 = .ok (.iconst 4, 1) := by decide +kernel
theorem dX3_settle_11 : decode cX3_settle 11 = .ok (.if_icmp .ge 31, 3) := by decide +kernel
theorem dX3_settle_14 : decode cX3_settle 14 = .ok (.aload_n 0, 1) := by decide +kernel
theorem dX3_settle_15 : decode cX3_settle 15 = .ok (.getfield 18, 3) := by decide +kernel
theorem dX3_settle_18 : decode cX3_settle 18 = .ok (.iload 4, 2) := by decide +kernel
theorem dX3_settle_20 : decode cX3_settle 20 = .ok (.aload_n 0, 1) := by decide +kernel
theorem dX3_settle_21 : decode cX3_settle 21 = .ok (.getfield 24, 3) := by decide +kernel
theorem dX3_settle_24 : decode cX3_settle 24 = .ok (.iload 4, 2) := by decide +kernel
theorem dX3_settle_26 : decode cX3_settle 26 = .ok (.aload_n 0, 1) := by decide +kernel
theorem dX3_settle_27 : decode cX3_settle 27 = .ok (.getfield 28, 3) := by decide +kernel
theorem dX3_settle_30 : decode cX3_settle 30 = .ok (.iload_n 2, 1) := by decide +kernel
theorem dX3_settle_31 : decode cX3_settle 31 = .ok (.iload_n 3, 1) := by decide +kernel
theorem dX3_settle_32 : decode cX3_settle 32 = .ok (.invokevirtual 32, 3) := by decide +kernel
theorem dX3_settle_35 : decode cX3_settle 35 = .ok (.iastore, 1) := by decide +kernel
theorem dX3_settle_36 : decode cX3_settle 36 = .ok (.iinc 4 1, 3) := by decide +kernel
theorem dX3_settle_39 : decode cX3_settle 39 = .ok (.goto (-31), 3) := by decide +kernel
theorem dX3_settle_42 : decode cX3_settle 42 = .ok (.return_, 1) := by decide +kernel
theorem dX3_ask_0 : decode cX3_ask 0 = .ok (.aload_n 0, 1) := by decide +kernel
theorem dX3_ask_1 : decode cX3_ask 1 = .ok (.aload_n 1, 1) := by decide +kernel
theorem dX3_ask_2 : decode cX3_ask 2 = .ok (.putfield 37, 3) := by decide +kernel
theorem dX3_ask_5 : decode cX3_ask 5 = .ok (.aload_n 0, 1) := by decide +kernel
theorem dX3_ask_6 : decode cX3_ask 6 = .ok (.getfield 9, 3) := by decide +kernel
theorem dX3_ask_9 : decode cX3_ask 9 = .ok (.iconst 0, 1) := by decide +kernel
theorem dX3_ask_10 : decode cX3_ask 10 = .ok (.aload_n 0, 1) := by decide +kernel
theorem dX3_ask_11 : decode cX3_ask 11 = .ok (.getfield 37, 3) := by decide +kernel
theorem dX3_ask_14 : decode cX3_ask 14 = .ok (.getfield 41, 3) := by decide +kernel
theorem dX3_ask_17 : decode cX3_ask 17 = .ok (.iastore, 1) := by decide +kernel
theorem dX3_ask_18 : decode cX3_ask 18 = .ok (.aload_n 0, 1) := by decide +kernel
theorem dX3_ask_19 : decode cX3_ask 19 = .ok (.getfield 9, 3) := by decide +kernel
theorem dX3_ask_22 : decode cX3_ask 22 = .ok (.iconst 1, 1) := by decide +kernel
theorem dX3_ask_23 : decode cX3_ask 23 = .ok (.aload_n 0, 1) := by decide +kernel
theorem dX3_ask_24 : decode cX3_ask 24 = .ok (.getfield 37, 3) := by decide +kernel
theorem dX3_ask_27 : decode cX3_ask 27 = .ok (.getfield 47, 3) := by decide +kernel
theorem dX3_ask_30 : decode cX3_ask 30 = .ok (.iastore, 1) := by decide +kernel
theorem dX3_ask_31 : decode cX3_ask 31 = .ok (.aload_n 0, 1) := by decide +kernel
theorem dX3_ask_32 : decode cX3_ask 32 = .ok (.getfield 9, 3) := by decide +kernel
theorem dX3_ask_35 : decode cX3_ask 35 = .ok (.iconst 2, 1) := by decide +kernel
theorem dX3_ask_36 : decode cX3_ask 36 = .ok (.aload_n 0, 1) := by decide +kernel
theorem dX3_ask_37 : decode cX3_ask 37 = .ok (.getfield 37, 3) := by decide +kernel
theorem dX3_ask_40 : decode cX3_ask 40 = .ok (.getfield 50, 3) := by decide +kernel
theorem dX3_ask_43 : decode cX3_ask 43 = .ok (.iastore, 1) := by decide +kernel
theorem dX3_ask_44 : decode cX3_ask 44 = .ok (.aload_n 0, 1) := by decide +kernel
theorem dX3_ask_45 : decode cX3_ask 45 = .ok (.getfield 9, 3) := by decide +kernel
theorem dX3_ask_48 : decode cX3_ask 48 = .ok (.iconst 3, 1) := by decide +kernel
theorem dX3_ask_49 : decode cX3_ask 49 = .ok (.aload_n 0, 1) := by decide +kernel
theorem dX3_ask_50 : decode cX3_ask 50 = .ok (.getfield 28, 3) := by decide +kernel
theorem dX3_ask_53 : decode cX3_ask 53 = .ok (.aload_n 0, 1) := by decide +kernel
theorem dX3_ask_54 : decode cX3_ask 54 = .ok (.getfield 37, 3) := by decide +kernel
theorem dX3_ask_57 : decode cX3_ask 57 = .ok (.getfield 53, 3) := by decide +kernel
theorem dX3_ask_60 : decode cX3_ask 60 = .ok (.aload_n 0, 1) := by decide +kernel
theorem dX3_ask_61 : decode cX3_ask 61 = .ok (.getfield 37, 3) := by decide +kernel
theorem dX3_ask_64 : decode cX3_ask 64 = .ok (.getfield 56, 3) := by decide +kernel
theorem dX3_ask_67 : decode cX3_ask 67 = .ok (.invokevirtual 59, 3) := by decide +kernel
theorem dX3_ask_70 : decode cX3_ask 70 = .ok (.aload_n 0, 1) := by decide +kernel
theorem dX3_ask_71 : decode cX3_ask 71 = .ok (.getfield 37, 3) := by decide +kernel
theorem dX3_ask_74 : decode cX3_ask 74 = .ok (.getfield 41, 3) := by decide +kernel
theorem dX3_ask_77 : decode cX3_ask 77 = .ok (.isub, 1) := by decide +kernel
theorem dX3_ask_78 : decode cX3_ask 78 = .ok (.iastore, 1) := by decide +kernel
theorem dX3_ask_79 : decode cX3_ask 79 = .ok (.aload_n 0, 1) := by decide +kernel
theorem dX3_ask_80 : decode cX3_ask 80 = .ok (.getfield 9, 3) := by decide +kernel
theorem dX3_ask_83 : decode cX3_ask 83 = .ok (.iconst 4, 1) := by decide +kernel
theorem dX3_ask_84 : decode cX3_ask 84 = .ok (.aload_n 0, 1) := by decide +kernel
theorem dX3_ask_85 : decode cX3_ask 85 = .ok (.getfield 28, 3) := by decide +kernel
theorem dX3_ask_88 : decode cX3_ask 88 = .ok (.getfield 65, 3) := by decide +kernel
theorem dX3_ask_91 : decode cX3_ask 91 = .ok (.aload_n 0, 1) := by decide +kernel
theorem dX3_ask_92 : decode cX3_ask 92 = .ok (.getfield 37, 3) := by decide +kernel
theorem dX3_ask_95 : decode cX3_ask 95 = .ok (.getfield 56, 3) := by decide +kernel
theorem dX3_ask_98 : decode cX3_ask 98 = .ok (.iaload, 1) := by decide +kernel
theorem dX3_ask_99 : decode cX3_ask 99 = .ok (.aload_n 0, 1) := by decide +kernel
theorem dX3_ask_100 : decode cX3_ask 100 = .ok (.getfield 37, 3) := by decide +kernel
theorem dX3_ask_103 : decode cX3_ask 103 = .ok (.getfield 41, 3) := by decide +kernel
theorem dX3_ask_106 : decode cX3_ask 106 = .ok (.isub, 1) := by decide +kernel
theorem dX3_ask_107 : decode cX3_ask 107 = .ok (.iastore, 1) := by decide +kernel
theorem dX3_ask_108 : decode cX3_ask 108 = .ok (.aload_n 0, 1) := by decide +kernel
theorem dX3_ask_109 : decode cX3_ask 109 = .ok (.getfield 9, 3) := by decide +kernel
theorem dX3_ask_112 : decode cX3_ask 112 = .ok (.iconst 5, 1) := by decide +kernel
theorem dX3_ask_113 : decode cX3_ask 113 = .ok (.aload_n 0, 1) := by decide +kernel
theorem dX3_ask_114 : decode cX3_ask 114 = .ok (.getfield 28, 3) := by decide +kernel
theorem dX3_ask_117 : decode cX3_ask 117 = .ok (.getfield 68, 3) := by decide +kernel
theorem dX3_ask_120 : decode cX3_ask 120 = .ok (.aload_n 0, 1) := by decide +kernel
theorem dX3_ask_121 : decode cX3_ask 121 = .ok (.getfield 37, 3) := by decide +kernel
theorem dX3_ask_124 : decode cX3_ask 124 = .ok (.getfield 71, 3) := by decide +kernel
theorem dX3_ask_127 : decode cX3_ask 127 = .ok (.iaload, 1) := by decide +kernel
theorem dX3_ask_128 : decode cX3_ask 128 = .ok (.iastore, 1) := by decide +kernel
theorem dX3_ask_129 : decode cX3_ask 129 = .ok (.iconst 0, 1) := by decide +kernel
theorem dX3_ask_130 : decode cX3_ask 130 = .ok (.istore_n 2, 1) := by decide +kernel
theorem dX3_ask_131 : decode cX3_ask 131 = .ok (.iload_n 2, 1) := by decide +kernel
theorem dX3_ask_132 : decode cX3_ask 132 = .ok (.iconst 3, 1) := by decide +kernel
theorem dX3_ask_133 : decode cX3_ask 133 = .ok (.if_icmp .ge 34, 3) := by decide +kernel
theorem dX3_ask_136 : decode cX3_ask 136 = .ok (.aload_n 0, 1) := by decide +kernel
theorem dX3_ask_137 : decode cX3_ask 137 = .ok (.getfield 9, 3) := by decide +kernel
theorem dX3_ask_140 : decode cX3_ask 140 = .ok (.bipush 6, 2) := by decide +kernel
theorem dX3_ask_142 : decode cX3_ask 142 = .ok (.iload_n 2, 1) := by decide +kernel
theorem dX3_ask_143 : decode cX3_ask 143 = .ok (.iadd, 1) := by decide +kernel
theorem dX3_ask_144 : decode cX3_ask 144 = .ok (.iload_n 2, 1) := by decide +kernel
theorem dX3_ask_145 : decode cX3_ask 145 = .ok (.aload_n 0, 1) := by decide +kernel
theorem dX3_ask_146 : decode cX3_ask 146 = .ok (.getfield 37, 3) := by decide +kernel
theorem dX3_ask_149 : decode cX3_ask 149 = .ok (.getfield 74, 3) := by decide +kernel
theorem dX3_ask_152 : decode cX3_ask 152 = .ok (.if_icmp .ne 7, 3) := by decide +kernel
theorem dX3_ask_155 : decode cX3_ask 155 = .ok (.iconst 1, 1) := by decide +kernel
theorem dX3_ask_156 : decode cX3_ask 156 = .ok (.goto 4, 3) := by decide +kernel
theorem dX3_ask_159 : decode cX3_ask 159 = .ok (.iconst 0, 1) := by decide +kernel
theorem dX3_ask_160 : decode cX3_ask 160 = .ok (.iastore, 1) := by decide +kernel
theorem dX3_ask_161 : decode cX3_ask 161 = .ok (.iinc 2 1, 3) := by decide +kernel
theorem dX3_ask_164 : decode cX3_ask 164 = .ok (.goto (-33), 3) := by decide +kernel
theorem dX3_ask_167 : decode cX3_ask 167 = .ok (.aload_n 0, 1) := by decide +kernel
theorem dX3_ask_168 : decode cX3_ask 168 = .ok (.getfield 9, 3) := by decide +kernel
theorem dX3_ask_171 : decode cX3_ask 171 = .ok (.bipush 13, 2) := by decide +kernel
theorem dX3_ask_173 : decode cX3_ask 173 = .ok (.aload_n 0, 1) := by decide +kernel
theorem dX3_ask_174 : decode cX3_ask 174 = .ok (.getfield 24, 3) := by decide +kernel
theorem dX3_ask_177 : decode cX3_ask 177 = .ok (.getfield 77, 3) := by decide +kernel
theorem dX3_ask_180 : decode cX3_ask 180 = .ok (.iastore, 1) := by decide +kernel
theorem dX3_ask_181 : decode cX3_ask 181 = .ok (.return_, 1) := by decide +kernel
theorem dX3_askAbout_0 : decode cX3_askAbout 0 = .ok (.aload_n 0, 1) := by decide +kernel
theorem dX3_askAbout_1 : decode cX3_askAbout 1 = .ok (.getfield 9, 3) := by decide +kernel
theorem dX3_askAbout_4 : decode cX3_askAbout 4 = .ok (.bipush 9, 2) := by decide +kernel
theorem dX3_askAbout_6 : decode cX3_askAbout 6 = .ok (.aload_n 0, 1) := by decide +kernel
theorem dX3_askAbout_7 : decode cX3_askAbout 7 = .ok (.getfield 24, 3) := by decide +kernel
theorem dX3_askAbout_10 : decode cX3_askAbout 10 = .ok (.getfield 80, 3) := by decide +kernel
theorem dX3_askAbout_13 : decode cX3_askAbout 13 = .ok (.iload_n 1, 1) := by decide +kernel
theorem dX3_askAbout_14 : decode cX3_askAbout 14 = .ok (.ishr, 1) := by decide +kernel
theorem dX3_askAbout_15 : decode cX3_askAbout 15 = .ok (.iconst 1, 1) := by decide +kernel
theorem dX3_askAbout_16 : decode cX3_askAbout 16 = .ok (.iand, 1) := by decide +kernel
theorem dX3_askAbout_17 : decode cX3_askAbout 17 = .ok (.iastore, 1) := by decide +kernel
theorem dX3_askAbout_18 : decode cX3_askAbout 18 = .ok (.aload_n 0, 1) := by decide +kernel
theorem dX3_askAbout_19 : decode cX3_askAbout 19 = .ok (.getfield 9, 3) := by decide +kernel
theorem dX3_askAbout_22 : decode cX3_askAbout 22 = .ok (.bipush 10, 2) := by decide +kernel
theorem dX3_askAbout_24 : decode cX3_askAbout 24 = .ok (.aload_n 0, 1) := by decide +kernel
theorem dX3_askAbout_25 : decode cX3_askAbout 25 = .ok (.getfield 28, 3) := by decide +kernel
theorem dX3_askAbout_28 : decode cX3_askAbout 28 = .ok (.getfield 83, 3) := by decide +kernel
theorem dX3_askAbout_31 : decode cX3_askAbout 31 = .ok (.aload_n 0, 1) := by decide +kernel
theorem dX3_askAbout_32 : decode cX3_askAbout 32 = .ok (.getfield 37, 3) := by decide +kernel
theorem dX3_askAbout_35 : decode cX3_askAbout 35 = .ok (.getfield 53, 3) := by decide +kernel
theorem dX3_askAbout_38 : decode cX3_askAbout 38 = .ok (.bipush 16, 2) := by decide +kernel
theorem dX3_askAbout_40 : decode cX3_askAbout 40 = .ok (.imul, 1) := by decide +kernel
theorem dX3_askAbout_41 : decode cX3_askAbout 41 = .ok (.iload_n 1, 1) := by decide +kernel
theorem dX3_askAbout_42 : decode cX3_askAbout 42 = .ok (.iadd, 1) := by decide +kernel
theorem dX3_askAbout_43 : decode cX3_askAbout 43 = .ok (.iaload, 1) := by decide +kernel
theorem dX3_askAbout_44 : decode cX3_askAbout 44 = .ok (.iastore, 1) := by decide +kernel
theorem dX3_askAbout_45 : decode cX3_askAbout 45 = .ok (.aload_n 0, 1) := by decide +kernel
theorem dX3_askAbout_46 : decode cX3_askAbout 46 = .ok (.getfield 9, 3) := by decide +kernel
theorem dX3_askAbout_49 : decode cX3_askAbout 49 = .ok (.bipush 11, 2) := by decide +kernel
theorem dX3_askAbout_51 : decode cX3_askAbout 51 = .ok (.aload_n 0, 1) := by decide +kernel
theorem dX3_askAbout_52 : decode cX3_askAbout 52 = .ok (.getfield 28, 3) := by decide +kernel
theorem dX3_askAbout_55 : decode cX3_askAbout 55 = .ok (.getfield 68, 3) := by decide +kernel
theorem dX3_askAbout_58 : decode cX3_askAbout 58 = .ok (.iload_n 1, 1) := by decide +kernel
theorem dX3_askAbout_59 : decode cX3_askAbout 59 = .ok (.iaload, 1) := by decide +kernel
theorem dX3_askAbout_60 : decode cX3_askAbout 60 = .ok (.iastore, 1) := by decide +kernel
theorem dX3_askAbout_61 : decode cX3_askAbout 61 = .ok (.aload_n 0, 1) := by decide +kernel
theorem dX3_askAbout_62 : decode cX3_askAbout 62 = .ok (.getfield 9, 3) := by decide +kernel
theorem dX3_askAbout_65 : decode cX3_askAbout 65 = .ok (.bipush 12, 2) := by decide +kernel
theorem dX3_askAbout_67 : decode cX3_askAbout 67 = .ok (.aload_n 0, 1) := by decide +kernel
theorem dX3_askAbout_68 : decode cX3_askAbout 68 = .ok (.getfield 24, 3) := by decide +kernel
theorem dX3_askAbout_71 : decode cX3_askAbout 71 = .ok (.getfield 86, 3) := by decide +kernel
theorem dX3_askAbout_74 : decode cX3_askAbout 74 = .ok (.iload_n 1, 1) := by decide +kernel
theorem dX3_askAbout_75 : decode cX3_askAbout 75 = .ok (.bipush 16, 2) := by decide +kernel
theorem dX3_askAbout_77 : decode cX3_askAbout 77 = .ok (.imul, 1) := by decide +kernel
theorem dX3_askAbout_78 : decode cX3_askAbout 78 = .ok (.aload_n 0, 1) := by decide +kernel
theorem dX3_askAbout_79 : decode cX3_askAbout 79 = .ok (.getfield 37, 3) := by decide +kernel
theorem dX3_askAbout_82 : decode cX3_askAbout 82 = .ok (.getfield 56, 3) := by decide +kernel
theorem dX3_askAbout_85 : decode cX3_askAbout 85 = .ok (.iadd, 1) := by decide +kernel
theorem dX3_askAbout_86 : decode cX3_askAbout 86 = .ok (.iaload, 1) := by decide +kernel
theorem dX3_askAbout_87 : decode cX3_askAbout 87 = .ok (.iastore, 1) := by decide +kernel
theorem dX3_askAbout_88 : decode cX3_askAbout 88 = .ok (.return_, 1) := by decide +kernel
theorem dX3_holdsForOne_0 : decode cX3_holdsForOne 0 = .ok (.iload_n 2, 1) := by decide +kernel
theorem dX3_holdsForOne_1 : decode cX3_holdsForOne 1 = .ok (.ifCond .eq 24, 3) := by decide +kernel
theorem dX3_holdsForOne_4 : decode cX3_holdsForOne 4 = .ok (.aload_n 0, 1) := by decide +kernel
theorem dX3_holdsForOne_5 : decode cX3_holdsForOne 5 = .ok (.getfield 89, 3) := by decide +kernel
theorem dX3_holdsForOne_8 : decode cX3_holdsForOne 8 = .ok (.getfield 93, 3) := by decide +kernel
theorem dX3_holdsForOne_11 : decode cX3_holdsForOne 11 = .ok (.iload_n 1, 1) := by decide +kernel
theorem dX3_holdsForOne_12 : decode cX3_holdsForOne 12 = .ok (.iaload, 1) := by decide +kernel
theorem dX3_holdsForOne_13 : decode cX3_holdsForOne 13 = .ok (.aload_n 0, 1) := by decide +kernel
theorem dX3_holdsForOne_14 : decode cX3_holdsForOne 14 = .ok (.getfield 89, 3) := by decide +kernel
theorem dX3_holdsForOne_17 : decode cX3_holdsForOne 17 = .ok (.getfield 98, 3) := by decide +kernel
theorem dX3_holdsForOne_20 : decode cX3_holdsForOne 20 = .ok (.iload_n 1, 1) := by decide +kernel
theorem dX3_holdsForOne_21 : decode cX3_holdsForOne 21 = .ok (.iaload, 1) := by decide +kernel
theorem dX3_holdsForOne_22 : decode cX3_holdsForOne 22 = .ok (.if_icmp .ne 13, 3) := by decide +kernel
theorem dX3_holdsForOne_25 : decode cX3_holdsForOne 25 = .ok (.iload_n 2, 1) := by decide +kernel
theorem dX3_holdsForOne_26 : decode cX3_holdsForOne 26 = .ok (.ifCond .eq 7, 3) := by decide +kernel
theorem dX3_holdsForOne_29 : decode cX3_holdsForOne 29 = .ok (.iconst 1, 1) := by decide +kernel
theorem dX3_holdsForOne_30 : decode cX3_holdsForOne 30 = .ok (.goto 4, 3) := by decide +kernel
theorem dX3_holdsForOne_33 : decode cX3_holdsForOne 33 = .ok (.iconst 0, 1) := by decide +kernel
theorem dX3_holdsForOne_34 : decode cX3_holdsForOne 34 = .ok (.ireturn, 1) := by decide +kernel
theorem dX3_holdsForOne_35 : decode cX3_holdsForOne 35 = .ok (.aload_n 0, 1) := by decide +kernel
theorem dX3_holdsForOne_36 : decode cX3_holdsForOne 36 = .ok (.getfield 89, 3) := by decide +kernel
theorem dX3_holdsForOne_39 : decode cX3_holdsForOne 39 = .ok (.getfield 101, 3) := by decide +kernel
theorem dX3_holdsForOne_42 : decode cX3_holdsForOne 42 = .ok (.iload_n 1, 1) := by decide +kernel
theorem dX3_holdsForOne_43 : decode cX3_holdsForOne 43 = .ok (.baload, 1) := by decide +kernel
theorem dX3_holdsForOne_44 : decode cX3_holdsForOne 44 = .ok (.ifCond .ne 34, 3) := by decide +kernel
theorem dX3_holdsForOne_47 : decode cX3_holdsForOne 47 = .ok (.aload_n 0, 1) := by decide +kernel
theorem dX3_holdsForOne_48 : decode cX3_holdsForOne 48 = .ok (.aload_n 0, 1) := by decide +kernel
theorem dX3_holdsForOne_49 : decode cX3_holdsForOne 49 = .ok (.getfield 89, 3) := by decide +kernel
theorem dX3_holdsForOne_52 : decode cX3_holdsForOne 52 = .ok (.getfield 93, 3) := by decide +kernel
theorem dX3_holdsForOne_55 : decode cX3_holdsForOne 55 = .ok (.iload_n 1, 1) := by decide +kernel
theorem dX3_holdsForOne_56 : decode cX3_holdsForOne 56 = .ok (.iaload, 1) := by decide +kernel
theorem dX3_holdsForOne_57 : decode cX3_holdsForOne 57 = .ok (.aload_n 0, 1) := by decide +kernel
theorem dX3_holdsForOne_58 : decode cX3_holdsForOne 58 = .ok (.getfield 89, 3) := by decide +kernel
theorem dX3_holdsForOne_61 : decode cX3_holdsForOne 61 = .ok (.getfield 98, 3) := by decide +kernel
theorem dX3_holdsForOne_64 : decode cX3_holdsForOne 64 = .ok (.iload_n 1, 1) := by decide +kernel
theorem dX3_holdsForOne_65 : decode cX3_holdsForOne 65 = .ok (.iaload, 1) := by decide +kernel
theorem dX3_holdsForOne_66 : decode cX3_holdsForOne 66 = .ok (.invokevirtual 105, 3) := by decide +kernel
theorem dX3_holdsForOne_69 : decode cX3_holdsForOne 69 = .ok (.ifCond .eq 7, 3) := by decide +kernel
theorem dX3_holdsForOne_72 : decode cX3_holdsForOne 72 = .ok (.iconst 1, 1) := by decide +kernel
theorem dX3_holdsForOne_73 : decode cX3_holdsForOne 73 = .ok (.goto 4, 3) := by decide +kernel
theorem dX3_holdsForOne_76 : decode cX3_holdsForOne 76 = .ok (.iconst 0, 1) := by decide +kernel
theorem dX3_holdsForOne_77 : decode cX3_holdsForOne 77 = .ok (.ireturn, 1) := by decide +kernel
theorem dX3_holdsForOne_78 : decode cX3_holdsForOne 78 = .ok (.iconst 0, 1) := by decide +kernel
theorem dX3_holdsForOne_79 : decode cX3_holdsForOne 79 = .ok (.istore_n 3, 1) := by decide +kernel
theorem dX3_holdsForOne_80 : decode cX3_holdsForOne 80 = .ok (.iload_n 3, 1) := by decide +kernel
theorem dX3_holdsForOne_81 : decode cX3_holdsForOne 81 = .ok (.bipush 16, 2) := by decide +kernel
theorem dX3_holdsForOne_83 : decode cX3_holdsForOne 83 = .ok (.if_icmp .ge 55, 3) := by decide +kernel
theorem dX3_holdsForOne_86 : decode cX3_holdsForOne 86 = .ok (.iload_n 2, 1) := by decide +kernel
theorem dX3_holdsForOne_87 : decode cX3_holdsForOne 87 = .ok (.iload_n 3, 1) := by decide +kernel
theorem dX3_holdsForOne_88 : decode cX3_holdsForOne 88 = .ok (.ishr, 1) := by decide +kernel
theorem dX3_holdsForOne_89 : decode cX3_holdsForOne 89 = .ok (.ifCond .eq 49, 3) := by decide +kernel
theorem dX3_holdsForOne_92 : decode cX3_holdsForOne 92 = .ok (.iload_n 2, 1) := by decide +kernel
theorem dX3_holdsForOne_93 : decode cX3_holdsForOne 93 = .ok (.iload_n 3, 1) := by decide +kernel
theorem dX3_holdsForOne_94 : decode cX3_holdsForOne 94 = .ok (.ishr, 1) := by decide +kernel
theorem dX3_holdsForOne_95 : decode cX3_holdsForOne 95 = .ok (.iconst 1, 1) := by decide +kernel
theorem dX3_holdsForOne_96 : decode cX3_holdsForOne 96 = .ok (.iand, 1) := by decide +kernel
theorem dX3_holdsForOne_97 : decode cX3_holdsForOne 97 = .ok (.ifCond .eq 35, 3) := by decide +kernel
theorem dX3_holdsForOne_100 : decode cX3_holdsForOne 100 = .ok (.aload_n 0, 1) := by decide +kernel
theorem dX3_holdsForOne_101 : decode cX3_holdsForOne 101 = .ok (.iload_n 3, 1) := by decide +kernel
theorem dX3_holdsForOne_102 : decode cX3_holdsForOne 102 = .ok (.invokevirtual 108, 3) := by decide +kernel
theorem dX3_holdsForOne_105 : decode cX3_holdsForOne 105 = .ok (.aload_n 0, 1) := by decide +kernel
theorem dX3_holdsForOne_106 : decode cX3_holdsForOne 106 = .ok (.aload_n 0, 1) := by decide +kernel
theorem dX3_holdsForOne_107 : decode cX3_holdsForOne 107 = .ok (.getfield 89, 3) := by decide +kernel
theorem dX3_holdsForOne_110 : decode cX3_holdsForOne 110 = .ok (.getfield 93, 3) := by decide +kernel
theorem dX3_holdsForOne_113 : decode cX3_holdsForOne 113 = .ok (.iload_n 1, 1) := by decide +kernel
theorem dX3_holdsForOne_114 : decode cX3_holdsForOne 114 = .ok (.iaload, 1) := by decide +kernel
theorem dX3_holdsForOne_115 : decode cX3_holdsForOne 115 = .ok (.aload_n 0, 1) := by decide +kernel
theorem dX3_holdsForOne_116 : decode cX3_holdsForOne 116 = .ok (.getfield 89, 3) := by decide +kernel
theorem dX3_holdsForOne_119 : decode cX3_holdsForOne 119 = .ok (.getfield 98, 3) := by decide +kernel
theorem dX3_holdsForOne_122 : decode cX3_holdsForOne 122 = .ok (.iload_n 1, 1) := by decide +kernel
theorem dX3_holdsForOne_123 : decode cX3_holdsForOne 123 = .ok (.iaload, 1) := by decide +kernel
theorem dX3_holdsForOne_124 : decode cX3_holdsForOne 124 = .ok (.invokevirtual 105, 3) := by decide +kernel
theorem dX3_holdsForOne_127 : decode cX3_holdsForOne 127 = .ok (.ifCond .eq 5, 3) := by decide +kernel
theorem dX3_holdsForOne_130 : decode cX3_holdsForOne 130 = .ok (.iconst 1, 1) := by decide +kernel
theorem dX3_holdsForOne_131 : decode cX3_holdsForOne 131 = .ok (.ireturn, 1) := by decide +kernel
theorem dX3_holdsForOne_132 : decode cX3_holdsForOne 132 = .ok (.iinc 3 1, 3) := by decide +kernel
theorem dX3_holdsForOne_135 : decode cX3_holdsForOne 135 = .ok (.goto (-55), 3) := by decide +kernel
theorem dX3_holdsForOne_138 : decode cX3_holdsForOne 138 = .ok (.iconst 0, 1) := by decide +kernel
theorem dX3_holdsForOne_139 : decode cX3_holdsForOne 139 = .ok (.ireturn, 1) := by decide +kernel
theorem dX3_value_0 : decode cX3_value 0 = .ok (.iconst 0, 1) := by decide +kernel
theorem dX3_value_1 : decode cX3_value 1 = .ok (.istore_n 3, 1) := by decide +kernel
theorem dX3_value_2 : decode cX3_value 2 = .ok (.iload_n 1, 1) := by decide +kernel
theorem dX3_value_3 : decode cX3_value 3 = .ok (.istore 4, 2) := by decide +kernel
theorem dX3_value_5 : decode cX3_value 5 = .ok (.iload 4, 2) := by decide +kernel
theorem dX3_value_7 : decode cX3_value 7 = .ok (.iload_n 2, 1) := by decide +kernel
theorem dX3_value_8 : decode cX3_value 8 = .ok (.if_icmp .ge 313, 3) := by decide +kernel
theorem dX3_value_11 : decode cX3_value 11 = .ok (.aload_n 0, 1) := by decide +kernel
theorem dX3_value_12 : decode cX3_value 12 = .ok (.getfield 89, 3) := by decide +kernel
theorem dX3_value_15 : decode cX3_value 15 = .ok (.getfield 112, 3) := by decide +kernel
theorem dX3_value_18 : decode cX3_value 18 = .ok (.iload 4, 2) := by decide +kernel
theorem dX3_value_20 : decode cX3_value 20 = .ok (.iaload, 1) := by decide +kernel
theorem dX3_value_21 : decode cX3_value 21 = .ok (.istore 5, 2) := by decide +kernel
theorem dX3_value_23 : decode cX3_value 23 = .ok (.iload 5, 2) := by decide +kernel
theorem dX3_value_25 : decode cX3_value 25 = .ok (.sipush 20000, 3) := by decide +kernel
theorem dX3_value_28 : decode cX3_value 28 = .ok (.if_icmp .ge 45, 3) := by decide +kernel
theorem dX3_value_31 : decode cX3_value 31 = .ok (.iload_n 3, 1) := by decide +kernel
theorem dX3_value_32 : decode cX3_value 32 = .ok (.bipush 64, 2) := by decide +kernel
theorem dX3_value_34 : decode cX3_value 34 = .ok (.if_icmp .ge 39, 3) := by decide +kernel
theorem dX3_value_37 : decode cX3_value 37 = .ok (.aload_n 0, 1) := by decide +kernel
theorem dX3_value_38 : decode cX3_value 38 = .ok (.getfield 15, 3) := by decide +kernel
theorem dX3_value_41 : decode cX3_value 41 = .ok (.iload_n 3, 1) := by decide +kernel
theorem dX3_value_42 : decode cX3_value 42 = .ok (.iload 5, 2) := by decide +kernel
theorem dX3_value_44 : decode cX3_value 44 = .ok (.sipush 10000, 3) := by decide +kernel
theorem dX3_value_47 : decode cX3_value 47 = .ok (.if_icmp .ge 8, 3) := by decide +kernel
theorem dX3_value_50 : decode cX3_value 50 = .ok (.iload 5, 2) := by decide +kernel
theorem dX3_value_52 : decode cX3_value 52 = .ok (.goto 14, 3) := by decide +kernel
theorem dX3_value_55 : decode cX3_value 55 = .ok (.aload_n 0, 1) := by decide +kernel
theorem dX3_value_56 : decode cX3_value 56 = .ok (.getfield 9, 3) := by decide +kernel
theorem dX3_value_59 : decode cX3_value 59 = .ok (.iload 5, 2) := by decide +kernel
theorem dX3_value_61 : decode cX3_value 61 = .ok (.sipush 10000, 3) := by decide +kernel
theorem dX3_value_64 : decode cX3_value 64 = .ok (.isub, 1) := by decide +kernel
theorem dX3_value_65 : decode cX3_value 65 = .ok (.iaload, 1) := by decide +kernel
theorem dX3_value_66 : decode cX3_value 66 = .ok (.iastore, 1) := by decide +kernel
theorem dX3_value_67 : decode cX3_value 67 = .ok (.iinc 3 1, 3) := by decide +kernel
theorem dX3_value_70 : decode cX3_value 70 = .ok (.goto 245, 3) := by decide +kernel
theorem dX3_value_73 : decode cX3_value 73 = .ok (.iload 5, 2) := by decide +kernel
theorem dX3_value_75 : decode cX3_value 75 = .ok (.sipush 20030, 3) := by decide +kernel
theorem dX3_value_78 : decode cX3_value 78 = .ok (.if_icmp .ne 35, 3) := by decide +kernel
theorem dX3_value_81 : decode cX3_value 81 = .ok (.iload_n 3, 1) := by decide +kernel
theorem dX3_value_82 : decode cX3_value 82 = .ok (.iconst 1, 1) := by decide +kernel
theorem dX3_value_83 : decode cX3_value 83 = .ok (.if_icmp .lt 30, 3) := by decide +kernel
theorem dX3_value_86 : decode cX3_value 86 = .ok (.aload_n 0, 1) := by decide +kernel
theorem dX3_value_87 : decode cX3_value 87 = .ok (.getfield 15, 3) := by decide +kernel
theorem dX3_value_90 : decode cX3_value 90 = .ok (.iload_n 3, 1) := by decide +kernel
theorem dX3_value_91 : decode cX3_value 91 = .ok (.iconst 1, 1) := by decide +kernel
theorem dX3_value_92 : decode cX3_value 92 = .ok (.isub, 1) := by decide +kernel
theorem dX3_value_93 : decode cX3_value 93 = .ok (.aload_n 0, 1) := by decide +kernel
theorem dX3_value_94 : decode cX3_value 94 = .ok (.getfield 15, 3) := by decide +kernel
theorem dX3_value_97 : decode cX3_value 97 = .ok (.iload_n 3, 1) := by decide +kernel
theorem dX3_value_98 : decode cX3_value 98 = .ok (.iconst 1, 1) := by decide +kernel
theorem dX3_value_99 : decode cX3_value 99 = .ok (.isub, 1) := by decide +kernel
theorem dX3_value_100 : decode cX3_value 100 = .ok (.iaload, 1) := by decide +kernel
theorem dX3_value_101 : decode cX3_value 101 = .ok (.ifCond .ne 7, 3) := by decide +kernel
theorem dX3_value_104 : decode cX3_value 104 = .ok (.iconst 1, 1) := by decide +kernel
theorem dX3_value_105 : decode cX3_value 105 = .ok (.goto 4, 3) := by decide +kernel
theorem dX3_value_108 : decode cX3_value 108 = .ok (.iconst 0, 1) := by decide +kernel
theorem dX3_value_109 : decode cX3_value 109 = .ok (.iastore, 1) := by decide +kernel
theorem dX3_value_110 : decode cX3_value 110 = .ok (.goto 205, 3) := by decide +kernel
theorem dX3_value_113 : decode cX3_value 113 = .ok (.iload_n 3, 1) := by decide +kernel
theorem dX3_value_114 : decode cX3_value 114 = .ok (.iconst 2, 1) := by decide +kernel
theorem dX3_value_115 : decode cX3_value 115 = .ok (.if_icmp .lt 200, 3) := by decide +kernel
theorem dX3_value_118 : decode cX3_value 118 = .ok (.iinc 3 (-1), 3) := by decide +kernel
theorem dX3_value_121 : decode cX3_value 121 = .ok (.aload_n 0, 1) := by decide +kernel
theorem dX3_value_122 : decode cX3_value 122 = .ok (.getfield 15, 3) := by decide +kernel
theorem dX3_value_125 : decode cX3_value 125 = .ok (.iload_n 3, 1) := by decide +kernel
theorem dX3_value_126 : decode cX3_value 126 = .ok (.iconst 1, 1) := by decide +kernel
theorem dX3_value_127 : decode cX3_value 127 = .ok (.isub, 1) := by decide +kernel
theorem dX3_value_128 : decode cX3_value 128 = .ok (.iaload, 1) := by decide +kernel
theorem dX3_value_129 : decode cX3_value 129 = .ok (.istore 6, 2) := by decide +kernel
theorem dX3_value_131 : decode cX3_value 131 = .ok (.aload_n 0, 1) := by decide +kernel
theorem dX3_value_132 : decode cX3_value 132 = .ok (.getfield 15, 3) := by decide +kernel
theorem dX3_value_135 : decode cX3_value 135 = .ok (.iload_n 3, 1) := by decide +kernel
theorem dX3_value_136 : decode cX3_value 136 = .ok (.iaload, 1) := by decide +kernel
theorem dX3_value_137 : decode cX3_value 137 = .ok (.istore 7, 2) := by decide +kernel
theorem dX3_value_139 : decode cX3_value 139 = .ok (.iload 5, 2) := by decide +kernel
theorem dX3_value_141 : decode cX3_value 141 = .ok (.sipush 20000, 3) := by decide +kernel
theorem dX3_value_144 : decode cX3_value 144 = .ok (.isub, 1) := by decide +kernel
theorem dX3_value_145 : decode cX3_value 145 = .ok (.lookupswitch 143 #[(28, 123), (42, 79), (43, 59), (45, 69), (60, 89), (61, 106)], 59) := by decide +kernel
theorem dX3_value_204 : decode cX3_value 204 = .ok (.iload 6, 2) := by decide +kernel
theorem dX3_value_206 : decode cX3_value 206 = .ok (.iload 7, 2) := by decide +kernel
theorem dX3_value_208 : decode cX3_value 208 = .ok (.iadd, 1) := by decide +kernel
theorem dX3_value_209 : decode cX3_value 209 = .ok (.istore 6, 2) := by decide +kernel
theorem dX3_value_211 : decode cX3_value 211 = .ok (.goto 94, 3) := by decide +kernel
theorem dX3_value_214 : decode cX3_value 214 = .ok (.iload 6, 2) := by decide +kernel
theorem dX3_value_216 : decode cX3_value 216 = .ok (.iload 7, 2) := by decide +kernel
theorem dX3_value_218 : decode cX3_value 218 = .ok (.isub, 1) := by decide +kernel
theorem dX3_value_219 : decode cX3_value 219 = .ok (.istore 6, 2) := by decide +kernel
theorem dX3_value_221 : decode cX3_value 221 = .ok (.goto 84, 3) := by decide +kernel
theorem dX3_value_224 : decode cX3_value 224 = .ok (.iload 6, 2) := by decide +kernel
theorem dX3_value_226 : decode cX3_value 226 = .ok (.iload 7, 2) := by decide +kernel
theorem dX3_value_228 : decode cX3_value 228 = .ok (.imul, 1) := by decide +kernel
theorem dX3_value_229 : decode cX3_value 229 = .ok (.istore 6, 2) := by decide +kernel
theorem dX3_value_231 : decode cX3_value 231 = .ok (.goto 74, 3) := by decide +kernel
theorem dX3_value_234 : decode cX3_value 234 = .ok (.iload 6, 2) := by decide +kernel
theorem dX3_value_236 : decode cX3_value 236 = .ok (.iload 7, 2) := by decide +kernel
theorem dX3_value_238 : decode cX3_value 238 = .ok (.if_icmp .ge 7, 3) := by decide +kernel
theorem dX3_value_241 : decode cX3_value 241 = .ok (.iconst 1, 1) := by decide +kernel
theorem dX3_value_242 : decode cX3_value 242 = .ok (.goto 4, 3) := by decide +kernel
theorem dX3_value_245 : decode cX3_value 245 = .ok (.iconst 0, 1) := by decide +kernel
theorem dX3_value_246 : decode cX3_value 246 = .ok (.istore 6, 2) := by decide +kernel
theorem dX3_value_248 : decode cX3_value 248 = .ok (.goto 57, 3) := by decide +kernel
theorem dX3_value_251 : decode cX3_value 251 = .ok (.iload 6, 2) := by decide +kernel
theorem dX3_value_253 : decode cX3_value 253 = .ok (.iload 7, 2) := by decide +kernel
theorem dX3_value_255 : decode cX3_value 255 = .ok (.if_icmp .ne 7, 3) := by decide +kernel
theorem dX3_value_258 : decode cX3_value 258 = .ok (.iconst 1, 1) := by decide +kernel
theorem dX3_value_259 : decode cX3_value 259 = .ok (.goto 4, 3) := by decide +kernel
theorem dX3_value_262 : decode cX3_value 262 = .ok (.iconst 0, 1) := by decide +kernel
theorem dX3_value_263 : decode cX3_value 263 = .ok (.istore 6, 2) := by decide +kernel
theorem dX3_value_265 : decode cX3_value 265 = .ok (.goto 40, 3) := by decide +kernel
theorem dX3_value_268 : decode cX3_value 268 = .ok (.iload 6, 2) := by decide +kernel
theorem dX3_value_270 : decode cX3_value 270 = .ok (.ifCond .eq 12, 3) := by decide +kernel
theorem dX3_value_273 : decode cX3_value 273 = .ok (.iload 7, 2) := by decide +kernel
theorem dX3_value_275 : decode cX3_value 275 = .ok (.ifCond .eq 7, 3) := by decide +kernel
theorem dX3_value_278 : decode cX3_value 278 = .ok (.iconst 1, 1) := by decide +kernel
theorem dX3_value_279 : decode cX3_value 279 = .ok (.goto 4, 3) := by decide +kernel
theorem dX3_value_282 : decode cX3_value 282 = .ok (.iconst 0, 1) := by decide +kernel
theorem dX3_value_283 : decode cX3_value 283 = .ok (.istore 6, 2) := by decide +kernel
theorem dX3_value_285 : decode cX3_value 285 = .ok (.goto 20, 3) := by decide +kernel
theorem dX3_value_288 : decode cX3_value 288 = .ok (.iload 6, 2) := by decide +kernel
theorem dX3_value_290 : decode cX3_value 290 = .ok (.ifCond .ne 8, 3) := by decide +kernel
theorem dX3_value_293 : decode cX3_value 293 = .ok (.iload 7, 2) := by decide +kernel
theorem dX3_value_295 : decode cX3_value 295 = .ok (.ifCond .eq 7, 3) := by decide +kernel
theorem dX3_value_298 : decode cX3_value 298 = .ok (.iconst 1, 1) := by decide +kernel
theorem dX3_value_299 : decode cX3_value 299 = .ok (.goto 4, 3) := by decide +kernel
theorem dX3_value_302 : decode cX3_value 302 = .ok (.iconst 0, 1) := by decide +kernel
theorem dX3_value_303 : decode cX3_value 303 = .ok (.istore 6, 2) := by decide +kernel
theorem dX3_value_305 : decode cX3_value 305 = .ok (.aload_n 0, 1) := by decide +kernel
theorem dX3_value_306 : decode cX3_value 306 = .ok (.getfield 15, 3) := by decide +kernel
theorem dX3_value_309 : decode cX3_value 309 = .ok (.iload_n 3, 1) := by decide +kernel
theorem dX3_value_310 : decode cX3_value 310 = .ok (.iconst 1, 1) := by decide +kernel
theorem dX3_value_311 : decode cX3_value 311 = .ok (.isub, 1) := by decide +kernel
theorem dX3_value_312 : decode cX3_value 312 = .ok (.iload 6, 2) := by decide +kernel
theorem dX3_value_314 : decode cX3_value 314 = .ok (.iastore, 1) := by decide +kernel
theorem dX3_value_315 : decode cX3_value 315 = .ok (.iinc 4 1, 3) := by decide +kernel
theorem dX3_value_318 : decode cX3_value 318 = .ok (.goto (-313), 3) := by decide +kernel
theorem dX3_value_321 : decode cX3_value 321 = .ok (.aload_n 0, 1) := by decide +kernel
theorem dX3_value_322 : decode cX3_value 322 = .ok (.getfield 15, 3) := by decide +kernel
theorem dX3_value_325 : decode cX3_value 325 = .ok (.iconst 0, 1) := by decide +kernel
theorem dX3_value_326 : decode cX3_value 326 = .ok (.iaload, 1) := by decide +kernel
theorem dX3_value_327 : decode cX3_value 327 = .ok (.ireturn, 1) := by decide +kernel
theorem dX3_judgeAll_0 : decode cX3_judgeAll 0 = .ok (.aload_n 0, 1) := by decide +kernel
theorem dX3_judgeAll_1 : decode cX3_judgeAll 1 = .ok (.aload_n 1, 1) := by decide +kernel
theorem dX3_judgeAll_2 : decode cX3_judgeAll 2 = .ok (.aload_n 2, 1) := by decide +kernel
theorem dX3_judgeAll_3 : decode cX3_judgeAll 3 = .ok (.getfield 53, 3) := by decide +kernel
theorem dX3_judgeAll_6 : decode cX3_judgeAll 6 = .ok (.aload_n 2, 1) := by decide +kernel
theorem dX3_judgeAll_7 : decode cX3_judgeAll 7 = .ok (.getfield 56, 3) := by decide +kernel
theorem dX3_judgeAll_10 : decode cX3_judgeAll 10 = .ok (.invokevirtual 115, 3) := by decide +kernel
theorem dX3_judgeAll_13 : decode cX3_judgeAll 13 = .ok (.aload_n 0, 1) := by decide +kernel
theorem dX3_judgeAll_14 : decode cX3_judgeAll 14 = .ok (.aload_n 2, 1) := by decide +kernel
theorem dX3_judgeAll_15 : decode cX3_judgeAll 15 = .ok (.invokevirtual 119, 3) := by decide +kernel
theorem dX3_judgeAll_18 : decode cX3_judgeAll 18 = .ok (.aload_n 0, 1) := by decide +kernel
theorem dX3_judgeAll_19 : decode cX3_judgeAll 19 = .ok (.iconst 0, 1) := by decide +kernel
theorem dX3_judgeAll_20 : decode cX3_judgeAll 20 = .ok (.putfield 123, 3) := by decide +kernel
theorem dX3_judgeAll_23 : decode cX3_judgeAll 23 = .ok (.iconst 0, 1) := by decide +kernel
theorem dX3_judgeAll_24 : decode cX3_judgeAll 24 = .ok (.istore_n 3, 1) := by decide +kernel
theorem dX3_judgeAll_25 : decode cX3_judgeAll 25 = .ok (.iload_n 3, 1) := by decide +kernel
theorem dX3_judgeAll_26 : decode cX3_judgeAll 26 = .ok (.aload_n 0, 1) := by decide +kernel
theorem dX3_judgeAll_27 : decode cX3_judgeAll 27 = .ok (.getfield 89, 3) := by decide +kernel
theorem dX3_judgeAll_30 : decode cX3_judgeAll 30 = .ok (.getfield 127, 3) := by decide +kernel
theorem dX3_judgeAll_33 : decode cX3_judgeAll 33 = .ok (.if_icmp .ge 70, 3) := by decide +kernel
theorem dX3_judgeAll_36 : decode cX3_judgeAll 36 = .ok (.aload_n 0, 1) := by decide +kernel
theorem dX3_judgeAll_37 : decode cX3_judgeAll 37 = .ok (.getfield 89, 3) := by decide +kernel
theorem dX3_judgeAll_40 : decode cX3_judgeAll 40 = .ok (.getfield 130, 3) := by decide +kernel
theorem dX3_judgeAll_43 : decode cX3_judgeAll 43 = .ok (.iload_n 3, 1) := by decide +kernel
theorem dX3_judgeAll_44 : decode cX3_judgeAll 44 = .ok (.baload, 1) := by decide +kernel
theorem dX3_judgeAll_45 : decode cX3_judgeAll 45 = .ok (.ifCond .ne 52, 3) := by decide +kernel
theorem dX3_judgeAll_48 : decode cX3_judgeAll 48 = .ok (.aload_n 0, 1) := by decide +kernel
theorem dX3_judgeAll_49 : decode cX3_judgeAll 49 = .ok (.getfield 89, 3) := by decide +kernel
theorem dX3_judgeAll_52 : decode cX3_judgeAll 52 = .ok (.getfield 133, 3) := by decide +kernel
theorem dX3_judgeAll_55 : decode cX3_judgeAll 55 = .ok (.iload_n 3, 1) := by decide +kernel
theorem dX3_judgeAll_56 : decode cX3_judgeAll 56 = .ok (.laload, 1) := by decide +kernel
theorem dX3_judgeAll_57 : decode cX3_judgeAll 57 = .ok (.ldc2_w 137, 3) := by decide +kernel
theorem dX3_judgeAll_60 : decode cX3_judgeAll 60 = .ok (.lcmp, 1) := by decide +kernel
theorem dX3_judgeAll_61 : decode cX3_judgeAll 61 = .ok (.ifCond .ne 36, 3) := by decide +kernel
theorem dX3_judgeAll_64 : decode cX3_judgeAll 64 = .ok (.aload_n 0, 1) := by decide +kernel
theorem dX3_judgeAll_65 : decode cX3_judgeAll 65 = .ok (.aload_n 0, 1) := by decide +kernel
theorem dX3_judgeAll_66 : decode cX3_judgeAll 66 = .ok (.getfield 123, 3) := by decide +kernel
theorem dX3_judgeAll_69 : decode cX3_judgeAll 69 = .ok (.ifCond .ne 20, 3) := by decide +kernel
theorem dX3_judgeAll_72 : decode cX3_judgeAll 72 = .ok (.aload_n 0, 1) := by decide +kernel
theorem dX3_judgeAll_73 : decode cX3_judgeAll 73 = .ok (.iload_n 3, 1) := by decide +kernel
theorem dX3_judgeAll_74 : decode cX3_judgeAll 74 = .ok (.iconst 1, 1) := by decide +kernel
theorem dX3_judgeAll_75 : decode cX3_judgeAll 75 = .ok (.aload_n 0, 1) := by decide +kernel
theorem dX3_judgeAll_76 : decode cX3_judgeAll 76 = .ok (.getfield 37, 3) := by decide +kernel
theorem dX3_judgeAll_79 : decode cX3_judgeAll 79 = .ok (.getfield 71, 3) := by decide +kernel
theorem dX3_judgeAll_82 : decode cX3_judgeAll 82 = .ok (.ishl, 1) := by decide +kernel
theorem dX3_judgeAll_83 : decode cX3_judgeAll 83 = .ok (.invokevirtual 139, 3) := by decide +kernel
theorem dX3_judgeAll_86 : decode cX3_judgeAll 86 = .ok (.ifCond .eq 7, 3) := by decide +kernel
theorem dX3_judgeAll_89 : decode cX3_judgeAll 89 = .ok (.iconst 1, 1) := by decide +kernel
theorem dX3_judgeAll_90 : decode cX3_judgeAll 90 = .ok (.goto 4, 3) := by decide +kernel
theorem dX3_judgeAll_93 : decode cX3_judgeAll 93 = .ok (.iconst 0, 1) := by decide +kernel
theorem dX3_judgeAll_94 : decode cX3_judgeAll 94 = .ok (.putfield 123, 3) := by decide +kernel
theorem dX3_judgeAll_97 : decode cX3_judgeAll 97 = .ok (.iinc 3 1, 3) := by decide +kernel
theorem dX3_judgeAll_100 : decode cX3_judgeAll 100 = .ok (.goto (-75), 3) := by decide +kernel
theorem dX3_judgeAll_103 : decode cX3_judgeAll 103 = .ok (.iconst 0, 1) := by decide +kernel
theorem dX3_judgeAll_104 : decode cX3_judgeAll 104 = .ok (.istore_n 3, 1) := by decide +kernel
theorem dX3_judgeAll_105 : decode cX3_judgeAll 105 = .ok (.iload_n 3, 1) := by decide +kernel
theorem dX3_judgeAll_106 : decode cX3_judgeAll 106 = .ok (.bipush 16, 2) := by decide +kernel
theorem dX3_judgeAll_108 : decode cX3_judgeAll 108 = .ok (.if_icmp .ge 35, 3) := by decide +kernel
theorem dX3_judgeAll_111 : decode cX3_judgeAll 111 = .ok (.aload_n 0, 1) := by decide +kernel
theorem dX3_judgeAll_112 : decode cX3_judgeAll 112 = .ok (.getfield 21, 3) := by decide +kernel
theorem dX3_judgeAll_115 : decode cX3_judgeAll 115 = .ok (.iload_n 3, 1) := by decide +kernel
theorem dX3_judgeAll_116 : decode cX3_judgeAll 116 = .ok (.iload_n 3, 1) := by decide +kernel
theorem dX3_judgeAll_117 : decode cX3_judgeAll 117 = .ok (.aload_n 0, 1) := by decide +kernel
theorem dX3_judgeAll_118 : decode cX3_judgeAll 118 = .ok (.getfield 37, 3) := by decide +kernel
theorem dX3_judgeAll_121 : decode cX3_judgeAll 121 = .ok (.getfield 56, 3) := by decide +kernel
theorem dX3_judgeAll_124 : decode cX3_judgeAll 124 = .ok (.if_icmp .ne 7, 3) := by decide +kernel
theorem dX3_judgeAll_127 : decode cX3_judgeAll 127 = .ok (.iconst (-1), 1) := by decide +kernel
theorem dX3_judgeAll_128 : decode cX3_judgeAll 128 = .ok (.goto 8, 3) := by decide +kernel
theorem dX3_judgeAll_131 : decode cX3_judgeAll 131 = .ok (.aload_n 0, 1) := by decide +kernel
theorem dX3_judgeAll_132 : decode cX3_judgeAll 132 = .ok (.iload_n 3, 1) := by decide +kernel
theorem dX3_judgeAll_133 : decode cX3_judgeAll 133 = .ok (.invokevirtual 143, 3) := by decide +kernel
theorem dX3_judgeAll_136 : decode cX3_judgeAll 136 = .ok (.iastore, 1) := by decide +kernel
theorem dX3_judgeAll_137 : decode cX3_judgeAll 137 = .ok (.iinc 3 1, 3) := by decide +kernel
theorem dX3_judgeAll_140 : decode cX3_judgeAll 140 = .ok (.goto (-35), 3) := by decide +kernel
theorem dX3_judgeAll_143 : decode cX3_judgeAll 143 = .ok (.aload_n 0, 1) := by decide +kernel
theorem dX3_judgeAll_144 : decode cX3_judgeAll 144 = .ok (.getfield 21, 3) := by decide +kernel
theorem dX3_judgeAll_147 : decode cX3_judgeAll 147 = .ok (.aload_n 0, 1) := by decide +kernel
theorem dX3_judgeAll_148 : decode cX3_judgeAll 148 = .ok (.getfield 37, 3) := by decide +kernel
theorem dX3_judgeAll_151 : decode cX3_judgeAll 151 = .ok (.getfield 71, 3) := by decide +kernel
theorem dX3_judgeAll_154 : decode cX3_judgeAll 154 = .ok (.iaload, 1) := by decide +kernel
theorem dX3_judgeAll_155 : decode cX3_judgeAll 155 = .ok (.iconst (-1), 1) := by decide +kernel
theorem dX3_judgeAll_156 : decode cX3_judgeAll 156 = .ok (.if_icmp .ne 8, 3) := by decide +kernel
theorem dX3_judgeAll_159 : decode cX3_judgeAll 159 = .ok (.bipush 18, 2) := by decide +kernel
theorem dX3_judgeAll_161 : decode cX3_judgeAll 161 = .ok (.goto 15, 3) := by decide +kernel
theorem dX3_judgeAll_164 : decode cX3_judgeAll 164 = .ok (.aload_n 0, 1) := by decide +kernel
theorem dX3_judgeAll_165 : decode cX3_judgeAll 165 = .ok (.getfield 21, 3) := by decide +kernel
theorem dX3_judgeAll_168 : decode cX3_judgeAll 168 = .ok (.aload_n 0, 1) := by decide +kernel
theorem dX3_judgeAll_169 : decode cX3_judgeAll 169 = .ok (.getfield 37, 3) := by decide +kernel
theorem dX3_judgeAll_172 : decode cX3_judgeAll 172 = .ok (.getfield 71, 3) := by decide +kernel
theorem dX3_judgeAll_175 : decode cX3_judgeAll 175 = .ok (.iaload, 1) := by decide +kernel
theorem dX3_judgeAll_176 : decode cX3_judgeAll 176 = .ok (.istore_n 3, 1) := by decide +kernel
theorem dX3_judgeAll_177 : decode cX3_judgeAll 177 = .ok (.aload_n 0, 1) := by decide +kernel
theorem dX3_judgeAll_178 : decode cX3_judgeAll 178 = .ok (.iconst 0, 1) := by decide +kernel
theorem dX3_judgeAll_179 : decode cX3_judgeAll 179 = .ok (.putfield 147, 3) := by decide +kernel
theorem dX3_judgeAll_182 : decode cX3_judgeAll 182 = .ok (.iconst 0, 1) := by decide +kernel
theorem dX3_judgeAll_183 : decode cX3_judgeAll 183 = .ok (.istore 4, 2) := by decide +kernel
theorem dX3_judgeAll_185 : decode cX3_judgeAll 185 = .ok (.iload 4, 2) := by decide +kernel
theorem dX3_judgeAll_187 : decode cX3_judgeAll 187 = .ok (.bipush 16, 2) := by decide +kernel
theorem dX3_judgeAll_189 : decode cX3_judgeAll 189 = .ok (.if_icmp .ge 63, 3) := by decide +kernel
theorem dX3_judgeAll_192 : decode cX3_judgeAll 192 = .ok (.aload_n 0, 1) := by decide +kernel
theorem dX3_judgeAll_193 : decode cX3_judgeAll 193 = .ok (.getfield 123, 3) := by decide +kernel
theorem dX3_judgeAll_196 : decode cX3_judgeAll 196 = .ok (.ifCond .ne 50, 3) := by decide +kernel
theorem dX3_judgeAll_199 : decode cX3_judgeAll 199 = .ok (.iload 4, 2) := by decide +kernel
theorem dX3_judgeAll_201 : decode cX3_judgeAll 201 = .ok (.aload_n 0, 1) := by decide +kernel
theorem dX3_judgeAll_202 : decode cX3_judgeAll 202 = .ok (.getfield 37, 3) := by decide +kernel
theorem dX3_judgeAll_205 : decode cX3_judgeAll 205 = .ok (.getfield 71, 3) := by decide +kernel
theorem dX3_judgeAll_208 : decode cX3_judgeAll 208 = .ok (.if_icmp .eq 38, 3) := by decide +kernel
theorem dX3_judgeAll_211 : decode cX3_judgeAll 211 = .ok (.aload_n 0, 1) := by decide +kernel
theorem dX3_judgeAll_212 : decode cX3_judgeAll 212 = .ok (.getfield 21, 3) := by decide +kernel
theorem dX3_judgeAll_215 : decode cX3_judgeAll 215 = .ok (.iload 4, 2) := by decide +kernel
theorem dX3_judgeAll_217 : decode cX3_judgeAll 217 = .ok (.iaload, 1) := by decide +kernel
theorem dX3_judgeAll_218 : decode cX3_judgeAll 218 = .ok (.iconst (-1), 1) := by decide +kernel
theorem dX3_judgeAll_219 : decode cX3_judgeAll 219 = .ok (.if_icmp .eq 27, 3) := by decide +kernel
theorem dX3_judgeAll_222 : decode cX3_judgeAll 222 = .ok (.aload_n 0, 1) := by decide +kernel
theorem dX3_judgeAll_223 : decode cX3_judgeAll 223 = .ok (.getfield 21, 3) := by decide +kernel
theorem dX3_judgeAll_226 : decode cX3_judgeAll 226 = .ok (.iload 4, 2) := by decide +kernel
theorem dX3_judgeAll_228 : decode cX3_judgeAll 228 = .ok (.iaload, 1) := by decide +kernel
theorem dX3_judgeAll_229 : decode cX3_judgeAll 229 = .ok (.iload_n 3, 1) := by decide +kernel
theorem dX3_judgeAll_230 : decode cX3_judgeAll 230 = .ok (.if_icmp .ge 16, 3) := by decide +kernel
theorem dX3_judgeAll_233 : decode cX3_judgeAll 233 = .ok (.aload_n 0, 1) := by decide +kernel
theorem dX3_judgeAll_234 : decode cX3_judgeAll 234 = .ok (.dup, 1) := by decide +kernel
theorem dX3_judgeAll_235 : decode cX3_judgeAll 235 = .ok (.getfield 147, 3) := by decide +kernel
theorem dX3_judgeAll_238 : decode cX3_judgeAll 238 = .ok (.iconst 1, 1) := by decide +kernel
theorem dX3_judgeAll_239 : decode cX3_judgeAll 239 = .ok (.iload 4, 2) := by decide +kernel
theorem dX3_judgeAll_241 : decode cX3_judgeAll 241 = .ok (.ishl, 1) := by decide +kernel
theorem dX3_judgeAll_242 : decode cX3_judgeAll 242 = .ok (.ior, 1) := by decide +kernel
theorem dX3_judgeAll_243 : decode cX3_judgeAll 243 = .ok (.putfield 147, 3) := by decide +kernel
theorem dX3_judgeAll_246 : decode cX3_judgeAll 246 = .ok (.iinc 4 1, 3) := by decide +kernel
theorem dX3_judgeAll_249 : decode cX3_judgeAll 249 = .ok (.goto (-64), 3) := by decide +kernel
theorem dX3_judgeAll_252 : decode cX3_judgeAll 252 = .ok (.return_, 1) := by decide +kernel
theorem dX3_lineFor_0 : decode cX3_lineFor 0 = .ok (.iconst 0, 1) := by decide +kernel
theorem dX3_lineFor_1 : decode cX3_lineFor 1 = .ok (.istore_n 2, 1) := by decide +kernel
theorem dX3_lineFor_2 : decode cX3_lineFor 2 = .ok (.iload_n 2, 1) := by decide +kernel
theorem dX3_lineFor_3 : decode cX3_lineFor 3 = .ok (.aload_n 0, 1) := by decide +kernel
theorem dX3_lineFor_4 : decode cX3_lineFor 4 = .ok (.getfield 89, 3) := by decide +kernel
theorem dX3_lineFor_7 : decode cX3_lineFor 7 = .ok (.getfield 127, 3) := by decide +kernel
theorem dX3_lineFor_10 : decode cX3_lineFor 10 = .ok (.if_icmp .ge 70, 3) := by decide +kernel
theorem dX3_lineFor_13 : decode cX3_lineFor 13 = .ok (.aload_n 0, 1) := by decide +kernel
theorem dX3_lineFor_14 : decode cX3_lineFor 14 = .ok (.getfield 89, 3) := by decide +kernel
theorem dX3_lineFor_17 : decode cX3_lineFor 17 = .ok (.getfield 150, 3) := by decide +kernel
theorem dX3_lineFor_20 : decode cX3_lineFor 20 = .ok (.iload_n 2, 1) := by decide +kernel
theorem dX3_lineFor_21 : decode cX3_lineFor 21 = .ok (.iaload, 1) := by decide +kernel
theorem dX3_lineFor_22 : decode cX3_lineFor 22 = .ok (.iconst (-1), 1) := by decide +kernel
theorem dX3_lineFor_23 : decode cX3_lineFor 23 = .ok (.if_icmp .eq 51, 3) := by decide +kernel
theorem dX3_lineFor_26 : decode cX3_lineFor 26 = .ok (.aload_n 0, 1) := by decide +kernel
theorem dX3_lineFor_27 : decode cX3_lineFor 27 = .ok (.getfield 89, 3) := by decide +kernel
theorem dX3_lineFor_30 : decode cX3_lineFor 30 = .ok (.iload_n 2, 1) := by decide +kernel
theorem dX3_lineFor_31 : decode cX3_lineFor 31 = .ok (.aload_n 0, 1) := by decide +kernel
theorem dX3_lineFor_32 : decode cX3_lineFor 32 = .ok (.getfield 37, 3) := by decide +kernel
theorem dX3_lineFor_35 : decode cX3_lineFor 35 = .ok (.getfield 74, 3) := by decide +kernel
theorem dX3_lineFor_38 : decode cX3_lineFor 38 = .ok (.invokevirtual 153, 3) := by decide +kernel
theorem dX3_lineFor_41 : decode cX3_lineFor 41 = .ok (.ifCond .eq 33, 3) := by decide +kernel
theorem dX3_lineFor_44 : decode cX3_lineFor 44 = .ok (.aload_n 0, 1) := by decide +kernel
theorem dX3_lineFor_45 : decode cX3_lineFor 45 = .ok (.getfield 18, 3) := by decide +kernel
theorem dX3_lineFor_48 : decode cX3_lineFor 48 = .ok (.aload_n 0, 1) := by decide +kernel
theorem dX3_lineFor_49 : decode cX3_lineFor 49 = .ok (.getfield 89, 3) := by decide +kernel
theorem dX3_lineFor_52 : decode cX3_lineFor 52 = .ok (.getfield 156, 3) := by decide +kernel
theorem dX3_lineFor_55 : decode cX3_lineFor 55 = .ok (.iload_n 2, 1) := by decide +kernel
theorem dX3_lineFor_56 : decode cX3_lineFor 56 = .ok (.iaload, 1) := by decide +kernel
theorem dX3_lineFor_57 : decode cX3_lineFor 57 = .ok (.iaload, 1) := by decide +kernel
theorem dX3_lineFor_58 : decode cX3_lineFor 58 = .ok (.iconst 1, 1) := by decide +kernel
theorem dX3_lineFor_59 : decode cX3_lineFor 59 = .ok (.iload_n 1, 1) := by decide +kernel
theorem dX3_lineFor_60 : decode cX3_lineFor 60 = .ok (.ishl, 1) := by decide +kernel
theorem dX3_lineFor_61 : decode cX3_lineFor 61 = .ok (.iand, 1) := by decide +kernel
theorem dX3_lineFor_62 : decode cX3_lineFor 62 = .ok (.istore_n 3, 1) := by decide +kernel
theorem dX3_lineFor_63 : decode cX3_lineFor 63 = .ok (.aload_n 0, 1) := by decide +kernel
theorem dX3_lineFor_64 : decode cX3_lineFor 64 = .ok (.iload_n 2, 1) := by decide +kernel
theorem dX3_lineFor_65 : decode cX3_lineFor 65 = .ok (.iload_n 3, 1) := by decide +kernel
theorem dX3_lineFor_66 : decode cX3_lineFor 66 = .ok (.invokevirtual 139, 3) := by decide +kernel
theorem dX3_lineFor_69 : decode cX3_lineFor 69 = .ok (.ifCond .eq 5, 3) := by decide +kernel
theorem dX3_lineFor_72 : decode cX3_lineFor 72 = .ok (.iload_n 2, 1) := by decide +kernel
theorem dX3_lineFor_73 : decode cX3_lineFor 73 = .ok (.ireturn, 1) := by decide +kernel
theorem dX3_lineFor_74 : decode cX3_lineFor 74 = .ok (.iinc 2 1, 3) := by decide +kernel
theorem dX3_lineFor_77 : decode cX3_lineFor 77 = .ok (.goto (-75), 3) := by decide +kernel
theorem dX3_lineFor_80 : decode cX3_lineFor 80 = .ok (.iconst (-1), 1) := by decide +kernel
theorem dX3_lineFor_81 : decode cX3_lineFor 81 = .ok (.ireturn, 1) := by decide +kernel
theorem dX3_rankBy_0 : decode cX3_rankBy 0 = .ok (.aload_n 0, 1) := by decide +kernel
theorem dX3_rankBy_1 : decode cX3_rankBy 1 = .ok (.getfield 21, 3) := by decide +kernel
theorem dX3_rankBy_4 : decode cX3_rankBy 4 = .ok (.iload_n 1, 1) := by decide +kernel
theorem dX3_rankBy_5 : decode cX3_rankBy 5 = .ok (.iaload, 1) := by decide +kernel
theorem dX3_rankBy_6 : decode cX3_rankBy 6 = .ok (.iconst (-1), 1) := by decide +kernel
theorem dX3_rankBy_7 : decode cX3_rankBy 7 = .ok (.if_icmp .ne 7, 3) := by decide +kernel
theorem dX3_rankBy_10 : decode cX3_rankBy 10 = .ok (.iconst (-1), 1) := by decide +kernel
theorem dX3_rankBy_11 : decode cX3_rankBy 11 = .ok (.goto 17, 3) := by decide +kernel
theorem dX3_rankBy_14 : decode cX3_rankBy 14 = .ok (.aload_n 0, 1) := by decide +kernel
theorem dX3_rankBy_15 : decode cX3_rankBy 15 = .ok (.getfield 89, 3) := by decide +kernel
theorem dX3_rankBy_18 : decode cX3_rankBy 18 = .ok (.getfield 150, 3) := by decide +kernel
theorem dX3_rankBy_21 : decode cX3_rankBy 21 = .ok (.aload_n 0, 1) := by decide +kernel
theorem dX3_rankBy_22 : decode cX3_rankBy 22 = .ok (.getfield 21, 3) := by decide +kernel
theorem dX3_rankBy_25 : decode cX3_rankBy 25 = .ok (.iload_n 1, 1) := by decide +kernel
theorem dX3_rankBy_26 : decode cX3_rankBy 26 = .ok (.iaload, 1) := by decide +kernel
theorem dX3_rankBy_27 : decode cX3_rankBy 27 = .ok (.iaload, 1) := by decide +kernel
theorem dX3_rankBy_28 : decode cX3_rankBy 28 = .ok (.ireturn, 1) := by decide +kernel
theorem dX3_openSets_0 : decode cX3_openSets 0 = .ok (.iconst 1, 1) := by decide +kernel
theorem dX3_openSets_1 : decode cX3_openSets 1 = .ok (.aload_n 0, 1) := by decide +kernel
theorem dX3_openSets_2 : decode cX3_openSets 2 = .ok (.getfield 37, 3) := by decide +kernel
theorem dX3_openSets_5 : decode cX3_openSets 5 = .ok (.getfield 71, 3) := by decide +kernel
theorem dX3_openSets_8 : decode cX3_openSets 8 = .ok (.ishl, 1) := by decide +kernel
theorem dX3_openSets_9 : decode cX3_openSets 9 = .ok (.istore 4, 2) := by decide +kernel
theorem dX3_openSets_11 : decode cX3_openSets 11 = .ok (.iload_n 3, 1) := by decide +kernel
theorem dX3_openSets_12 : decode cX3_openSets 12 = .ok (.iload 4, 2) := by decide +kernel
theorem dX3_openSets_14 : decode cX3_openSets 14 = .ok (.iconst (-1), 1) := by decide +kernel
theorem dX3_openSets_15 : decode cX3_openSets 15 = .ok (.ixor, 1) := by decide +kernel
theorem dX3_openSets_16 : decode cX3_openSets 16 = .ok (.iand, 1) := by decide +kernel
theorem dX3_openSets_17 : decode cX3_openSets 17 = .ok (.iconst 1, 1) := by decide +kernel
theorem dX3_openSets_18 : decode cX3_openSets 18 = .ok (.aload_n 0, 1) := by decide +kernel
theorem dX3_openSets_19 : decode cX3_openSets 19 = .ok (.getfield 37, 3) := by decide +kernel
theorem dX3_openSets_22 : decode cX3_openSets 22 = .ok (.getfield 56, 3) := by decide +kernel
theorem dX3_openSets_25 : decode cX3_openSets 25 = .ok (.ishl, 1) := by decide +kernel
theorem dX3_openSets_26 : decode cX3_openSets 26 = .ok (.iconst (-1), 1) := by decide +kernel
theorem dX3_openSets_27 : decode cX3_openSets 27 = .ok (.ixor, 1) := by decide +kernel
theorem dX3_openSets_28 : decode cX3_openSets 28 = .ok (.iand, 1) := by decide +kernel
theorem dX3_openSets_29 : decode cX3_openSets 29 = .ok (.istore 5, 2) := by decide +kernel
theorem dX3_openSets_31 : decode cX3_openSets 31 = .ok (.lconst 0, 1) := by decide +kernel
theorem dX3_openSets_32 : decode cX3_openSets 32 = .ok (.lstore 6, 2) := by decide +kernel
theorem dX3_openSets_34 : decode cX3_openSets 34 = .ok (.lload_n 1, 1) := by decide +kernel
theorem dX3_openSets_35 : decode cX3_openSets 35 = .ok (.lstore 8, 2) := by decide +kernel
theorem dX3_openSets_37 : decode cX3_openSets 37 = .ok (.iconst 0, 1) := by decide +kernel
theorem dX3_openSets_38 : decode cX3_openSets 38 = .ok (.istore 10, 2) := by decide +kernel
theorem dX3_openSets_40 : decode cX3_openSets 40 = .ok (.iload 10, 2) := by decide +kernel
theorem dX3_openSets_42 : decode cX3_openSets 42 = .ok (.aload_n 0, 1) := by decide +kernel
theorem dX3_openSets_43 : decode cX3_openSets 43 = .ok (.getfield 89, 3) := by decide +kernel
theorem dX3_openSets_46 : decode cX3_openSets 46 = .ok (.getfield 127, 3) := by decide +kernel
theorem dX3_openSets_49 : decode cX3_openSets 49 = .ok (.if_icmp .ge 134, 3) := by decide +kernel
theorem dX3_openSets_52 : decode cX3_openSets 52 = .ok (.lload 8, 2) := by decide +kernel
theorem dX3_openSets_54 : decode cX3_openSets 54 = .ok (.lconst 0, 1) := by decide +kernel
theorem dX3_openSets_55 : decode cX3_openSets 55 = .ok (.lcmp, 1) := by decide +kernel
theorem dX3_openSets_56 : decode cX3_openSets 56 = .ok (.ifCond .eq 127, 3) := by decide +kernel
theorem dX3_openSets_59 : decode cX3_openSets 59 = .ok (.lload 8, 2) := by decide +kernel
theorem dX3_openSets_61 : decode cX3_openSets 61 = .ok (.aload_n 0, 1) := by decide +kernel
theorem dX3_openSets_62 : decode cX3_openSets 62 = .ok (.getfield 89, 3) := by decide +kernel
theorem dX3_openSets_65 : decode cX3_openSets 65 = .ok (.getfield 133, 3) := by decide +kernel
theorem dX3_openSets_68 : decode cX3_openSets 68 = .ok (.iload 10, 2) := by decide +kernel
theorem dX3_openSets_70 : decode cX3_openSets 70 = .ok (.laload, 1) := by decide +kernel
theorem dX3_openSets_71 : decode cX3_openSets 71 = .ok (.land, 1) := by decide +kernel
theorem dX3_openSets_72 : decode cX3_openSets 72 = .ok (.lstore 11, 2) := by decide +kernel
theorem dX3_openSets_74 : decode cX3_openSets 74 = .ok (.lload 11, 2) := by decide +kernel
theorem dX3_openSets_76 : decode cX3_openSets 76 = .ok (.lconst 0, 1) := by decide +kernel
theorem dX3_openSets_77 : decode cX3_openSets 77 = .ok (.lcmp, 1) := by decide +kernel
theorem dX3_openSets_78 : decode cX3_openSets 78 = .ok (.ifCond .eq 99, 3) := by decide +kernel
theorem dX3_openSets_81 : decode cX3_openSets 81 = .ok (.aload_n 0, 1) := by decide +kernel
theorem dX3_openSets_82 : decode cX3_openSets 82 = .ok (.getfield 89, 3) := by decide +kernel
theorem dX3_openSets_85 : decode cX3_openSets 85 = .ok (.iload 10, 2) := by decide +kernel
theorem dX3_openSets_87 : decode cX3_openSets 87 = .ok (.aload_n 0, 1) := by decide +kernel
theorem dX3_openSets_88 : decode cX3_openSets 88 = .ok (.getfield 37, 3) := by decide +kernel
theorem dX3_openSets_91 : decode cX3_openSets 91 = .ok (.getfield 74, 3) := by decide +kernel
theorem dX3_openSets_94 : decode cX3_openSets 94 = .ok (.invokevirtual 153, 3) := by decide +kernel
theorem dX3_openSets_97 : decode cX3_openSets 97 = .ok (.ifCond .eq 80, 3) := by decide +kernel
theorem dX3_openSets_100 : decode cX3_openSets 100 = .ok (.aload_n 0, 1) := by decide +kernel
theorem dX3_openSets_101 : decode cX3_openSets 101 = .ok (.getfield 18, 3) := by decide +kernel
theorem dX3_openSets_104 : decode cX3_openSets 104 = .ok (.aload_n 0, 1) := by decide +kernel
theorem dX3_openSets_105 : decode cX3_openSets 105 = .ok (.getfield 89, 3) := by decide +kernel
theorem dX3_openSets_108 : decode cX3_openSets 108 = .ok (.getfield 156, 3) := by decide +kernel
theorem dX3_openSets_111 : decode cX3_openSets 111 = .ok (.iload 10, 2) := by decide +kernel
theorem dX3_openSets_113 : decode cX3_openSets 113 = .ok (.iaload, 1) := by decide +kernel
theorem dX3_openSets_114 : decode cX3_openSets 114 = .ok (.iaload, 1) := by decide +kernel
theorem dX3_openSets_115 : decode cX3_openSets 115 = .ok (.istore 13, 2) := by decide +kernel
theorem dX3_openSets_117 : decode cX3_openSets 117 = .ok (.aload_n 0, 1) := by decide +kernel
theorem dX3_openSets_118 : decode cX3_openSets 118 = .ok (.iload 10, 2) := by decide +kernel
theorem dX3_openSets_120 : decode cX3_openSets 120 = .ok (.iload 13, 2) := by decide +kernel
theorem dX3_openSets_122 : decode cX3_openSets 122 = .ok (.iload 4, 2) := by decide +kernel
theorem dX3_openSets_124 : decode cX3_openSets 124 = .ok (.iand, 1) := by decide +kernel
theorem dX3_openSets_125 : decode cX3_openSets 125 = .ok (.invokevirtual 139, 3) := by decide +kernel
theorem dX3_openSets_128 : decode cX3_openSets 128 = .ok (.ifCond .eq 17, 3) := by decide +kernel
theorem dX3_openSets_131 : decode cX3_openSets 131 = .ok (.lload 8, 2) := by decide +kernel
theorem dX3_openSets_133 : decode cX3_openSets 133 = .ok (.lload 11, 2) := by decide +kernel
theorem dX3_openSets_135 : decode cX3_openSets 135 = .ok (.ldc2_w 137, 3) := by decide +kernel
theorem dX3_openSets_138 : decode cX3_openSets 138 = .ok (.lxor, 1) := by decide +kernel
theorem dX3_openSets_139 : decode cX3_openSets 139 = .ok (.land, 1) := by decide +kernel
theorem dX3_openSets_140 : decode cX3_openSets 140 = .ok (.lstore 8, 2) := by decide +kernel
theorem dX3_openSets_142 : decode cX3_openSets 142 = .ok (.goto 35, 3) := by decide +kernel
theorem dX3_openSets_145 : decode cX3_openSets 145 = .ok (.aload_n 0, 1) := by decide +kernel
theorem dX3_openSets_146 : decode cX3_openSets 146 = .ok (.iload 10, 2) := by decide +kernel
theorem dX3_openSets_148 : decode cX3_openSets 148 = .ok (.iload 13, 2) := by decide +kernel
theorem dX3_openSets_150 : decode cX3_openSets 150 = .ok (.iload 5, 2) := by decide +kernel
theorem dX3_openSets_152 : decode cX3_openSets 152 = .ok (.iand, 1) := by decide +kernel
theorem dX3_openSets_153 : decode cX3_openSets 153 = .ok (.invokevirtual 139, 3) := by decide +kernel
theorem dX3_openSets_156 : decode cX3_openSets 156 = .ok (.ifCond .eq 21, 3) := by decide +kernel
theorem dX3_openSets_159 : decode cX3_openSets 159 = .ok (.lload 8, 2) := by decide +kernel
theorem dX3_openSets_161 : decode cX3_openSets 161 = .ok (.lload 11, 2) := by decide +kernel
theorem dX3_openSets_163 : decode cX3_openSets 163 = .ok (.ldc2_w 137, 3) := by decide +kernel
theorem dX3_openSets_166 : decode cX3_openSets 166 = .ok (.lxor, 1) := by decide +kernel
theorem dX3_openSets_167 : decode cX3_openSets 167 = .ok (.land, 1) := by decide +kernel
theorem dX3_openSets_168 : decode cX3_openSets 168 = .ok (.lstore 8, 2) := by decide +kernel
theorem dX3_openSets_170 : decode cX3_openSets 170 = .ok (.lload 6, 2) := by decide +kernel
theorem dX3_openSets_172 : decode cX3_openSets 172 = .ok (.lload 11, 2) := by decide +kernel
theorem dX3_openSets_174 : decode cX3_openSets 174 = .ok (.lor, 1) := by decide +kernel
theorem dX3_openSets_175 : decode cX3_openSets 175 = .ok (.lstore 6, 2) := by decide +kernel
theorem dX3_openSets_177 : decode cX3_openSets 177 = .ok (.iinc 10 1, 3) := by decide +kernel
theorem dX3_openSets_180 : decode cX3_openSets 180 = .ok (.goto (-140), 3) := by decide +kernel
theorem dX3_openSets_183 : decode cX3_openSets 183 = .ok (.iconst 0, 1) := by decide +kernel
theorem dX3_openSets_184 : decode cX3_openSets 184 = .ok (.istore 10, 2) := by decide +kernel
theorem dX3_openSets_186 : decode cX3_openSets 186 = .ok (.iload 10, 2) := by decide +kernel
theorem dX3_openSets_188 : decode cX3_openSets 188 = .ok (.aload_n 0, 1) := by decide +kernel
theorem dX3_openSets_189 : decode cX3_openSets 189 = .ok (.getfield 89, 3) := by decide +kernel
theorem dX3_openSets_192 : decode cX3_openSets 192 = .ok (.getfield 127, 3) := by decide +kernel
theorem dX3_openSets_195 : decode cX3_openSets 195 = .ok (.if_icmp .ge 77, 3) := by decide +kernel
theorem dX3_openSets_198 : decode cX3_openSets 198 = .ok (.lload 6, 2) := by decide +kernel
theorem dX3_openSets_200 : decode cX3_openSets 200 = .ok (.lconst 0, 1) := by decide +kernel
theorem dX3_openSets_201 : decode cX3_openSets 201 = .ok (.lcmp, 1) := by decide +kernel
theorem dX3_openSets_202 : decode cX3_openSets 202 = .ok (.ifCond .eq 70, 3) := by decide +kernel
theorem dX3_openSets_205 : decode cX3_openSets 205 = .ok (.aload_n 0, 1) := by decide +kernel
theorem dX3_openSets_206 : decode cX3_openSets 206 = .ok (.getfield 89, 3) := by decide +kernel
theorem dX3_openSets_209 : decode cX3_openSets 209 = .ok (.getfield 130, 3) := by decide +kernel
theorem dX3_openSets_212 : decode cX3_openSets 212 = .ok (.iload 10, 2) := by decide +kernel
theorem dX3_openSets_214 : decode cX3_openSets 214 = .ok (.baload, 1) := by decide +kernel
theorem dX3_openSets_215 : decode cX3_openSets 215 = .ok (.ifCond .ne 51, 3) := by decide +kernel
theorem dX3_openSets_218 : decode cX3_openSets 218 = .ok (.lload 6, 2) := by decide +kernel
theorem dX3_openSets_220 : decode cX3_openSets 220 = .ok (.aload_n 0, 1) := by decide +kernel
theorem dX3_openSets_221 : decode cX3_openSets 221 = .ok (.getfield 89, 3) := by decide +kernel
theorem dX3_openSets_224 : decode cX3_openSets 224 = .ok (.getfield 133, 3) := by decide +kernel
theorem dX3_openSets_227 : decode cX3_openSets 227 = .ok (.iload 10, 2) := by decide +kernel
theorem dX3_openSets_229 : decode cX3_openSets 229 = .ok (.laload, 1) := by decide +kernel
theorem dX3_openSets_230 : decode cX3_openSets 230 = .ok (.land, 1) := by decide +kernel
theorem dX3_openSets_231 : decode cX3_openSets 231 = .ok (.lconst 0, 1) := by decide +kernel
theorem dX3_openSets_232 : decode cX3_openSets 232 = .ok (.lcmp, 1) := by decide +kernel
theorem dX3_openSets_233 : decode cX3_openSets 233 = .ok (.ifCond .eq 33, 3) := by decide +kernel
theorem dX3_openSets_236 : decode cX3_openSets 236 = .ok (.aload_n 0, 1) := by decide +kernel
theorem dX3_openSets_237 : decode cX3_openSets 237 = .ok (.iload 10, 2) := by decide +kernel
theorem dX3_openSets_239 : decode cX3_openSets 239 = .ok (.iload 4, 2) := by decide +kernel
theorem dX3_openSets_241 : decode cX3_openSets 241 = .ok (.invokevirtual 139, 3) := by decide +kernel
theorem dX3_openSets_244 : decode cX3_openSets 244 = .ok (.ifCond .eq 22, 3) := by decide +kernel
theorem dX3_openSets_247 : decode cX3_openSets 247 = .ok (.lload 6, 2) := by decide +kernel
theorem dX3_openSets_249 : decode cX3_openSets 249 = .ok (.aload_n 0, 1) := by decide +kernel
theorem dX3_openSets_250 : decode cX3_openSets 250 = .ok (.getfield 89, 3) := by decide +kernel
theorem dX3_openSets_253 : decode cX3_openSets 253 = .ok (.getfield 133, 3) := by decide +kernel
theorem dX3_openSets_256 : decode cX3_openSets 256 = .ok (.iload 10, 2) := by decide +kernel
theorem dX3_openSets_258 : decode cX3_openSets 258 = .ok (.laload, 1) := by decide +kernel
theorem dX3_openSets_259 : decode cX3_openSets 259 = .ok (.ldc2_w 137, 3) := by decide +kernel
theorem dX3_openSets_262 : decode cX3_openSets 262 = .ok (.lxor, 1) := by decide +kernel
theorem dX3_openSets_263 : decode cX3_openSets 263 = .ok (.land, 1) := by decide +kernel
theorem dX3_openSets_264 : decode cX3_openSets 264 = .ok (.lstore 6, 2) := by decide +kernel
theorem dX3_openSets_266 : decode cX3_openSets 266 = .ok (.iinc 10 1, 3) := by decide +kernel
theorem dX3_openSets_269 : decode cX3_openSets 269 = .ok (.goto (-83), 3) := by decide +kernel
theorem dX3_openSets_272 : decode cX3_openSets 272 = .ok (.lload_n 1, 1) := by decide +kernel
theorem dX3_openSets_273 : decode cX3_openSets 273 = .ok (.lload 6, 2) := by decide +kernel
theorem dX3_openSets_275 : decode cX3_openSets 275 = .ok (.ldc2_w 137, 3) := by decide +kernel
theorem dX3_openSets_278 : decode cX3_openSets 278 = .ok (.lxor, 1) := by decide +kernel
theorem dX3_openSets_279 : decode cX3_openSets 279 = .ok (.land, 1) := by decide +kernel
theorem dX3_openSets_280 : decode cX3_openSets 280 = .ok (.lreturn, 1) := by decide +kernel
theorem dX4_init_0 : decode cX4_init 0 = .ok (.aload_n 0, 1) := by decide +kernel
theorem dX4_init_1 : decode cX4_init 1 = .ok (.invokespecial 3, 3) := by decide +kernel
theorem dX4_init_4 : decode cX4_init 4 = .ok (.aload_n 0, 1) := by decide +kernel
theorem dX4_init_5 : decode cX4_init 5 = .ok (.bipush 18, 2) := by decide +kernel
theorem dX4_init_7 : decode cX4_init 7 = .ok (.newarray .boolean, 2) := by decide +kernel
theorem dX4_init_9 : decode cX4_init 9 = .ok (.putfield 9, 3) := by decide +kernel
theorem dX4_init_12 : decode cX4_init 12 = .ok (.aload_n 0, 1) := by decide +kernel
theorem dX4_init_13 : decode cX4_init 13 = .ok (.bipush 18, 2) := by decide +kernel
theorem dX4_init_15 : decode cX4_init 15 = .ok (.newarray .long, 2) := by decide +kernel
theorem dX4_init_17 : decode cX4_init 17 = .ok (.putfield 15, 3) := by decide +kernel
theorem dX4_init_20 : decode cX4_init 20 = .ok (.aload_n 0, 1) := by decide +kernel
theorem dX4_init_21 : decode cX4_init 21 = .ok (.bipush 18, 2) := by decide +kernel
theorem dX4_init_23 : decode cX4_init 23 = .ok (.newarray .int, 2) := by decide +kernel
theorem dX4_init_25 : decode cX4_init 25 = .ok (.putfield 19, 3) := by decide +kernel
theorem dX4_init_28 : decode cX4_init 28 = .ok (.aload_n 0, 1) := by decide +kernel
theorem dX4_init_29 : decode cX4_init 29 = .ok (.bipush 18, 2) := by decide +kernel
theorem dX4_init_31 : decode cX4_init 31 = .ok (.newarray .int, 2) := by decide +kernel
theorem dX4_init_33 : decode cX4_init 33 = .ok (.putfield 23, 3) := by decide +kernel
theorem dX4_init_36 : decode cX4_init 36 = .ok (.aload_n 0, 1) := by decide +kernel
theorem dX4_init_37 : decode cX4_init 37 = .ok (.bipush 18, 2) := by decide +kernel
theorem dX4_init_39 : decode cX4_init 39 = .ok (.newarray .int, 2) := by decide +kernel
theorem dX4_init_41 : decode cX4_init 41 = .ok (.putfield 26, 3) := by decide +kernel
theorem dX4_init_44 : decode cX4_init 44 = .ok (.aload_n 0, 1) := by decide +kernel
theorem dX4_init_45 : decode cX4_init 45 = .ok (.bipush 18, 2) := by decide +kernel
theorem dX4_init_47 : decode cX4_init 47 = .ok (.newarray .int, 2) := by decide +kernel
theorem dX4_init_49 : decode cX4_init 49 = .ok (.putfield 29, 3) := by decide +kernel
theorem dX4_init_52 : decode cX4_init 52 = .ok (.aload_n 0, 1) := by decide +kernel
theorem dX4_init_53 : decode cX4_init 53 = .ok (.bipush 18, 2) := by decide +kernel
theorem dX4_init_55 : decode cX4_init 55 = .ok (.newarray .int, 2) := by decide +kernel
theorem dX4_init_57 : decode cX4_init 57 = .ok (.putfield 32, 3) := by decide +kernel
theorem dX4_init_60 : decode cX4_init 60 = .ok (.aload_n 0, 1) := by decide +kernel
theorem dX4_init_61 : decode cX4_init 61 = .ok (.bipush 18, 2) := by decide +kernel
theorem dX4_init_63 : decode cX4_init 63 = .ok (.newarray .int, 2) := by decide +kernel
theorem dX4_init_65 : decode cX4_init 65 = .ok (.putfield 35, 3) := by decide +kernel
theorem dX4_init_68 : decode cX4_init 68 = .ok (.aload_n 0, 1) := by decide +kernel
theorem dX4_init_69 : decode cX4_init 69 = .ok (.bipush 18, 2) := by decide +kernel
theorem dX4_init_71 : decode cX4_init 71 = .ok (.newarray .boolean, 2) := by decide +kernel
theorem dX4_init_73 : decode cX4_init 73 = .ok (.putfield 38, 3) := by decide +kernel
theorem dX4_init_76 : decode cX4_init 76 = .ok (.aload_n 0, 1) := by decide +kernel
theorem dX4_init_77 : decode cX4_init 77 = .ok (.sipush 1000, 3) := by decide +kernel
theorem dX4_init_80 : decode cX4_init 80 = .ok (.newarray .int, 2) := by decide +kernel
theorem dX4_init_82 : decode cX4_init 82 = .ok (.putfield 41, 3) := by decide +kernel
theorem dX4_init_85 : decode cX4_init 85 = .ok (.return_, 1) := by decide +kernel
theorem dX4_empty_0 : decode cX4_empty 0 = .ok (.aload_n 0, 1) := by decide +kernel
theorem dX4_empty_1 : decode cX4_empty 1 = .ok (.iconst 0, 1) := by decide +kernel
theorem dX4_empty_2 : decode cX4_empty 2 = .ok (.putfield 44, 3) := by decide +kernel
theorem dX4_empty_5 : decode cX4_empty 5 = .ok (.aload_n 0, 1) := by decide +kernel
theorem dX4_empty_6 : decode cX4_empty 6 = .ok (.iconst 0, 1) := by decide +kernel
theorem dX4_empty_7 : decode cX4_empty 7 = .ok (.putfield 48, 3) := by decide +kernel
theorem dX4_empty_10 : decode cX4_empty 10 = .ok (.aload_n 0, 1) := by decide +kernel
theorem dX4_empty_11 : decode cX4_empty 11 = .ok (.iconst 0, 1) := by decide +kernel
theorem dX4_empty_12 : decode cX4_empty 12 = .ok (.putfield 51, 3) := by decide +kernel
theorem dX4_empty_15 : decode cX4_empty 15 = .ok (.aload_n 0, 1) := by decide +kernel
theorem dX4_empty_16 : decode cX4_empty 16 = .ok (.iconst 0, 1) := by decide +kernel
theorem dX4_empty_17 : decode cX4_empty 17 = .ok (.putfield 54, 3) := by decide +kernel
theorem dX4_empty_20 : decode cX4_empty 20 = .ok (.aload_n 0, 1) := by decide +kernel
theorem dX4_empty_21 : decode cX4_empty 21 = .ok (.iconst 0, 1) := by decide +kernel
theorem dX4_empty_22 : decode cX4_empty 22 = .ok (.putfield 57, 3) := by decide +kernel
theorem dX4_empty_25 : decode cX4_empty 25 = .ok (.aload_n 0, 1) := by decide +kernel
theorem dX4_empty_26 : decode cX4_empty 26 = .ok (.iconst 0, 1) := by decide +kernel
theorem dX4_empty_27 : decode cX4_empty 27 = .ok (.putfield 60, 3) := by decide +kernel
theorem dX4_empty_30 : decode cX4_empty 30 = .ok (.aload_n 0, 1) := by decide +kernel
theorem dX4_empty_31 : decode cX4_empty 31 = .ok (.iconst 0, 1) := by decide +kernel
theorem dX4_empty_32 : decode cX4_empty 32 = .ok (.putfield 64, 3) := by decide +kernel
theorem dX4_empty_35 : decode cX4_empty 35 = .ok (.return_, 1) := by decide +kernel
theorem dX4_addLine_0 : decode cX4_addLine 0 = .ok (.aload_n 0, 1) := by decide +kernel
theorem dX4_addLine_1 : decode cX4_addLine 1 = .ok (.getfield 48, 3) := by decide +kernel
theorem dX4_addLine_4 : decode cX4_addLine 4 = .ok (.istore_n 3, 1) := by decide +kernel
theorem dX4_addLine_5 : decode cX4_addLine 5 = .ok (.aload_n 0, 1) := by decide +kernel
theorem dX4_addLine_6 : decode cX4_addLine 6 = .ok (.getfield 9, 3) := by decide +kernel
theorem dX4_addLine_9 : decode cX4_addLine 9 = .ok (.iload_n 3, 1) := by decide +kernel
theorem dX4_addLine_10 : decode cX4_addLine 10 = .ok (.iload_n 1, 1) := by decide +kernel
theorem dX4_addLine_11 : decode cX4_addLine 11 = .ok (.bastore, 1) := by decide +kernel
theorem dX4_addLine_12 : decode cX4_addLine 12 = .ok (.aload_n 0, 1) := by decide +kernel
theorem dX4_addLine_13 : decode cX4_addLine 13 = .ok (.getfield 26, 3) := by decide +kernel
theorem dX4_addLine_16 : decode cX4_addLine 16 = .ok (.iload_n 3, 1) := by decide +kernel
theorem dX4_addLine_17 : decode cX4_addLine 17 = .ok (.iconst 0, 1) := by decide +kernel
theorem dX4_addLine_18 : decode cX4_addLine 18 = .ok (.iastore, 1) := by decide +kernel
theorem dX4_addLine_19 : decode cX4_addLine 19 = .ok (.aload_n 0, 1) := by decide +kernel
theorem dX4_addLine_20 : decode cX4_addLine 20 = .ok (.getfield 32, 3) := by decide +kernel
theorem dX4_addLine_23 : decode cX4_addLine 23 = .ok (.iload_n 3, 1) := by decide +kernel
theorem dX4_addLine_24 : decode cX4_addLine 24 = .ok (.aload_n 0, 1) := by decide +kernel
theorem dX4_addLine_25 : decode cX4_addLine 25 = .ok (.getfield 44, 3) := by decide +kernel
theorem dX4_addLine_28 : decode cX4_addLine 28 = .ok (.iastore, 1) := by decide +kernel
theorem dX4_addLine_29 : decode cX4_addLine 29 = .ok (.aload_n 0, 1) := by decide +kernel
theorem dX4_addLine_30 : decode cX4_addLine 30 = .ok (.getfield 35, 3) := by decide +kernel
theorem dX4_addLine_33 : decode cX4_addLine 33 = .ok (.iload_n 3, 1) := by decide +kernel
theorem dX4_addLine_34 : decode cX4_addLine 34 = .ok (.aload_n 0, 1) := by decide +kernel
theorem dX4_addLine_35 : decode cX4_addLine 35 = .ok (.getfield 44, 3) := by decide +kernel
theorem dX4_addLine_38 : decode cX4_addLine 38 = .ok (.iastore, 1) := by decide +kernel
theorem dX4_addLine_39 : decode cX4_addLine 39 = .ok (.aload_n 0, 1) := by decide +kernel
theorem dX4_addLine_40 : decode cX4_addLine 40 = .ok (.getfield 38, 3) := by decide +kernel
theorem dX4_addLine_43 : decode cX4_addLine 43 = .ok (.iload_n 3, 1) := by decide +kernel
theorem dX4_addLine_44 : decode cX4_addLine 44 = .ok (.iconst 0, 1) := by decide +kernel
theorem dX4_addLine_45 : decode cX4_addLine 45 = .ok (.bastore, 1) := by decide +kernel
theorem dX4_addLine_46 : decode cX4_addLine 46 = .ok (.aload_n 0, 1) := by decide +kernel
theorem dX4_addLine_47 : decode cX4_addLine 47 = .ok (.getfield 19, 3) := by decide +kernel
theorem dX4_addLine_50 : decode cX4_addLine 50 = .ok (.iload_n 3, 1) := by decide +kernel
theorem dX4_addLine_51 : decode cX4_addLine 51 = .ok (.iconst (-1), 1) := by decide +kernel
theorem dX4_addLine_52 : decode cX4_addLine 52 = .ok (.iastore, 1) := by decide +kernel
theorem dX4_addLine_53 : decode cX4_addLine 53 = .ok (.iload_n 2, 1) := by decide +kernel
theorem dX4_addLine_54 : decode cX4_addLine 54 = .ok (.ifCond .eq 30, 3) := by decide +kernel
theorem dX4_addLine_57 : decode cX4_addLine 57 = .ok (.aload_n 0, 1) := by decide +kernel
theorem dX4_addLine_58 : decode cX4_addLine 58 = .ok (.getfield 15, 3) := by decide +kernel
theorem dX4_addLine_61 : decode cX4_addLine 61 = .ok (.iload_n 3, 1) := by decide +kernel
theorem dX4_addLine_62 : decode cX4_addLine 62 = .ok (.getstatic 67, 3) := by decide +kernel
theorem dX4_addLine_65 : decode cX4_addLine 65 = .ok (.aload_n 0, 1) := by decide +kernel
theorem dX4_addLine_66 : decode cX4_addLine 66 = .ok (.getfield 57, 3) := by decide +kernel
theorem dX4_addLine_69 : decode cX4_addLine 69 = .ok (.laload, 1) := by decide +kernel
theorem dX4_addLine_70 : decode cX4_addLine 70 = .ok (.lastore, 1) := by decide +kernel
theorem dX4_addLine_71 : decode cX4_addLine 71 = .ok (.aload_n 0, 1) := by decide +kernel
theorem dX4_addLine_72 : decode cX4_addLine 72 = .ok (.dup, 1) := by decide +kernel
theorem dX4_addLine_73 : decode cX4_addLine 73 = .ok (.getfield 57, 3) := by decide +kernel
theorem dX4_addLine_76 : decode cX4_addLine 76 = .ok (.iconst 1, 1) := by decide +kernel
theorem dX4_addLine_77 : decode cX4_addLine 77 = .ok (.iadd, 1) := by decide +kernel
theorem dX4_addLine_78 : decode cX4_addLine 78 = .ok (.putfield 57, 3) := by decide +kernel
theorem dX4_addLine_81 : decode cX4_addLine 81 = .ok (.goto 46, 3) := by decide +kernel
theorem dX4_addLine_84 : decode cX4_addLine 84 = .ok (.aload_n 0, 1) := by decide +kernel
theorem dX4_addLine_85 : decode cX4_addLine 85 = .ok (.getfield 15, 3) := by decide +kernel
theorem dX4_addLine_88 : decode cX4_addLine 88 = .ok (.iload_n 3, 1) := by decide +kernel
theorem dX4_addLine_89 : decode cX4_addLine 89 = .ok (.ldc2_w 70, 3) := by decide +kernel
theorem dX4_addLine_92 : decode cX4_addLine 92 = .ok (.lastore, 1) := by decide +kernel
theorem dX4_addLine_93 : decode cX4_addLine 93 = .ok (.aload_n 0, 1) := by decide +kernel
theorem dX4_addLine_94 : decode cX4_addLine 94 = .ok (.dup, 1) := by decide +kernel
theorem dX4_addLine_95 : decode cX4_addLine 95 = .ok (.getfield 51, 3) := by decide +kernel
theorem dX4_addLine_98 : decode cX4_addLine 98 = .ok (.iconst 1, 1) := by decide +kernel
theorem dX4_addLine_99 : decode cX4_addLine 99 = .ok (.iadd, 1) := by decide +kernel
theorem dX4_addLine_100 : decode cX4_addLine 100 = .ok (.putfield 51, 3) := by decide +kernel
theorem dX4_addLine_103 : decode cX4_addLine 103 = .ok (.iload_n 1, 1) := by decide +kernel
theorem dX4_addLine_104 : decode cX4_addLine 104 = .ok (.ifCond .eq 23, 3) := by decide +kernel
theorem dX4_addLine_107 : decode cX4_addLine 107 = .ok (.aload_n 0, 1) := by decide +kernel
theorem dX4_addLine_108 : decode cX4_addLine 108 = .ok (.getfield 19, 3) := by decide +kernel
theorem dX4_addLine_111 : decode cX4_addLine 111 = .ok (.iload_n 3, 1) := by decide +kernel
theorem dX4_addLine_112 : decode cX4_addLine 112 = .ok (.aload_n 0, 1) := by decide +kernel
theorem dX4_addLine_113 : decode cX4_addLine 113 = .ok (.getfield 54, 3) := by decide +kernel
theorem dX4_addLine_116 : decode cX4_addLine 116 = .ok (.iastore, 1) := by decide +kernel
theorem dX4_addLine_117 : decode cX4_addLine 117 = .ok (.aload_n 0, 1) := by decide +kernel
theorem dX4_addLine_118 : decode cX4_addLine 118 = .ok (.dup, 1) := by decide +kernel
theorem dX4_addLine_119 : decode cX4_addLine 119 = .ok (.getfield 54, 3) := by decide +kernel
theorem dX4_addLine_122 : decode cX4_addLine 122 = .ok (.iconst 1, 1) := by decide +kernel
theorem dX4_addLine_123 : decode cX4_addLine 123 = .ok (.iadd, 1) := by decide +kernel
theorem dX4_addLine_124 : decode cX4_addLine 124 = .ok (.putfield 54, 3) := by decide +kernel
theorem dX4_addLine_127 : decode cX4_addLine 127 = .ok (.aload_n 0, 1) := by decide +kernel
theorem dX4_addLine_128 : decode cX4_addLine 128 = .ok (.dup, 1) := by decide +kernel
theorem dX4_addLine_129 : decode cX4_addLine 129 = .ok (.getfield 48, 3) := by decide +kernel
theorem dX4_addLine_132 : decode cX4_addLine 132 = .ok (.iconst 1, 1) := by decide +kernel
theorem dX4_addLine_133 : decode cX4_addLine 133 = .ok (.iadd, 1) := by decide +kernel
theorem dX4_addLine_134 : decode cX4_addLine 134 = .ok (.putfield 48, 3) := by decide +kernel
theorem dX4_addLine_137 : decode cX4_addLine 137 = .ok (.iload_n 3, 1) := by decide +kernel
theorem dX4_addLine_138 : decode cX4_addLine 138 = .ok (.ireturn, 1) := by decide +kernel
theorem dX4_addCode_0 : decode cX4_addCode 0 = .ok (.aload_n 0, 1) := by decide +kernel
theorem dX4_addCode_1 : decode cX4_addCode 1 = .ok (.getfield 44, 3) := by decide +kernel
theorem dX4_addCode_4 : decode cX4_addCode 4 = .ok (.sipush 1000, 3) := by decide +kernel
theorem dX4_addCode_7 : decode cX4_addCode 7 = .ok (.if_icmp .ge 23, 3) := by decide +kernel
theorem dX4_addCode_10 : decode cX4_addCode 10 = .ok (.aload_n 0, 1) := by decide +kernel
theorem dX4_addCode_11 : decode cX4_addCode 11 = .ok (.getfield 41, 3) := by decide +kernel
theorem dX4_addCode_14 : decode cX4_addCode 14 = .ok (.aload_n 0, 1) := by decide +kernel
theorem dX4_addCode_15 : decode cX4_addCode 15 = .ok (.getfield 44, 3) := by decide +kernel
theorem dX4_addCode_18 : decode cX4_addCode 18 = .ok (.iload_n 1, 1) := by decide +kernel
theorem dX4_addCode_19 : decode cX4_addCode 19 = .ok (.iastore, 1) := by decide +kernel
theorem dX4_addCode_20 : decode cX4_addCode 20 = .ok (.aload_n 0, 1) := by decide +kernel
theorem dX4_addCode_21 : decode cX4_addCode 21 = .ok (.dup, 1) := by decide +kernel
theorem dX4_addCode_22 : decode cX4_addCode 22 = .ok (.getfield 44, 3) := by decide +kernel
theorem dX4_addCode_25 : decode cX4_addCode 25 = .ok (.iconst 1, 1) := by decide +kernel
theorem dX4_addCode_26 : decode cX4_addCode 26 = .ok (.iadd, 1) := by decide +kernel
theorem dX4_addCode_27 : decode cX4_addCode 27 = .ok (.putfield 44, 3) := by decide +kernel
theorem dX4_addCode_30 : decode cX4_addCode 30 = .ok (.return_, 1) := by decide +kernel
theorem dX4_endCondition_0 : decode cX4_endCondition 0 = .ok (.aload_n 0, 1) := by decide +kernel
theorem dX4_endCondition_1 : decode cX4_endCondition 1 = .ok (.getfield 35, 3) := by decide +kernel
theorem dX4_endCondition_4 : decode cX4_endCondition 4 = .ok (.iload_n 1, 1) := by decide +kernel
theorem dX4_endCondition_5 : decode cX4_endCondition 5 = .ok (.aload_n 0, 1) := by decide +kernel
theorem dX4_endCondition_6 : decode cX4_endCondition 6 = .ok (.getfield 44, 3) := by decide +kernel
theorem dX4_endCondition_9 : decode cX4_endCondition 9 = .ok (.iastore, 1) := by decide +kernel
theorem dX4_endCondition_10 : decode cX4_endCondition 10 = .ok (.aload_n 0, 1) := by decide +kernel
theorem dX4_endCondition_11 : decode cX4_endCondition 11 = .ok (.getfield 32, 3) := by decide +kernel
theorem dX4_endCondition_14 : decode cX4_endCondition 14 = .ok (.iload_n 1, 1) := by decide +kernel
theorem dX4_endCondition_15 : decode cX4_endCondition 15 = .ok (.iaload, 1) := by decide +kernel
theorem dX4_endCondition_16 : decode cX4_endCondition 16 = .ok (.istore_n 2, 1) := by decide +kernel
theorem dX4_endCondition_17 : decode cX4_endCondition 17 = .ok (.iload_n 2, 1) := by decide +kernel
theorem dX4_endCondition_18 : decode cX4_endCondition 18 = .ok (.aload_n 0, 1) := by decide +kernel
theorem dX4_endCondition_19 : decode cX4_endCondition 19 = .ok (.getfield 44, 3) := by decide +kernel
theorem dX4_endCondition_22 : decode cX4_endCondition 22 = .ok (.if_icmp .ge 63, 3) := by decide +kernel
theorem dX4_endCondition_25 : decode cX4_endCondition 25 = .ok (.aload_n 0, 1) := by decide +kernel
theorem dX4_endCondition_26 : decode cX4_endCondition 26 = .ok (.getfield 41, 3) := by decide +kernel
theorem dX4_endCondition_29 : decode cX4_endCondition 29 = .ok (.iload_n 2, 1) := by decide +kernel
theorem dX4_endCondition_30 : decode cX4_endCondition 30 = .ok (.iaload, 1) := by decide +kernel
theorem dX4_endCondition_31 : decode cX4_endCondition 31 = .ok (.sipush 10009, 3) := by decide +kernel
theorem dX4_endCondition_34 : decode cX4_endCondition 34 = .ok (.if_icmp .lt 19, 3) := by decide +kernel
theorem dX4_endCondition_37 : decode cX4_endCondition 37 = .ok (.aload_n 0, 1) := by decide +kernel
theorem dX4_endCondition_38 : decode cX4_endCondition 38 = .ok (.getfield 41, 3) := by decide +kernel
theorem dX4_endCondition_41 : decode cX4_endCondition 41 = .ok (.iload_n 2, 1) := by decide +kernel
theorem dX4_endCondition_42 : decode cX4_endCondition 42 = .ok (.iaload, 1) := by decide +kernel
theorem dX4_endCondition_43 : decode cX4_endCondition 43 = .ok (.sipush 10012, 3) := by decide +kernel
theorem dX4_endCondition_46 : decode cX4_endCondition 46 = .ok (.if_icmp .gt 7, 3) := by decide +kernel
theorem dX4_endCondition_49 : decode cX4_endCondition 49 = .ok (.iconst 1, 1) := by decide +kernel
theorem dX4_endCondition_50 : decode cX4_endCondition 50 = .ok (.goto 4, 3) := by decide +kernel
theorem dX4_endCondition_53 : decode cX4_endCondition 53 = .ok (.iconst 0, 1) := by decide +kernel
theorem dX4_endCondition_54 : decode cX4_endCondition 54 = .ok (.istore_n 3, 1) := by decide +kernel
theorem dX4_endCondition_55 : decode cX4_endCondition 55 = .ok (.aload_n 0, 1) := by decide +kernel
theorem dX4_endCondition_56 : decode cX4_endCondition 56 = .ok (.getfield 38, 3) := by decide +kernel
theorem dX4_endCondition_59 : decode cX4_endCondition 59 = .ok (.iload_n 1, 1) := by decide +kernel
theorem dX4_endCondition_60 : decode cX4_endCondition 60 = .ok (.aload_n 0, 1) := by decide +kernel
theorem dX4_endCondition_61 : decode cX4_endCondition 61 = .ok (.getfield 38, 3) := by decide +kernel
theorem dX4_endCondition_64 : decode cX4_endCondition 64 = .ok (.iload_n 1, 1) := by decide +kernel
theorem dX4_endCondition_65 : decode cX4_endCondition 65 = .ok (.baload, 1) := by decide +kernel
theorem dX4_endCondition_66 : decode cX4_endCondition 66 = .ok (.ifCond .ne 7, 3) := by decide +kernel
theorem dX4_endCondition_69 : decode cX4_endCondition 69 = .ok (.iload_n 3, 1) := by decide +kernel
theorem dX4_endCondition_70 : decode cX4_endCondition 70 = .ok (.ifCond .eq 7, 3) := by decide +kernel
theorem dX4_endCondition_73 : decode cX4_endCondition 73 = .ok (.iconst 1, 1) := by decide +kernel
theorem dX4_endCondition_74 : decode cX4_endCondition 74 = .ok (.goto 4, 3) := by decide +kernel
theorem dX4_endCondition_77 : decode cX4_endCondition 77 = .ok (.iconst 0, 1) := by decide +kernel
theorem dX4_endCondition_78 : decode cX4_endCondition 78 = .ok (.bastore, 1) := by decide +kernel
theorem dX4_endCondition_79 : decode cX4_endCondition 79 = .ok (.iinc 2 1, 3) := by decide +kernel
theorem dX4_endCondition_82 : decode cX4_endCondition 82 = .ok (.goto (-65), 3) := by decide +kernel
theorem dX4_endCondition_85 : decode cX4_endCondition 85 = .ok (.return_, 1) := by decide +kernel
theorem dX4_isFirstOn_0 : decode cX4_isFirstOn 0 = .ok (.aload_n 0, 1) := by decide +kernel
theorem dX4_isFirstOn_1 : decode cX4_isFirstOn 1 = .ok (.getfield 9, 3) := by decide +kernel
theorem dX4_isFirstOn_4 : decode cX4_isFirstOn 4 = .ok (.iload_n 1, 1) := by decide +kernel
theorem dX4_isFirstOn_5 : decode cX4_isFirstOn 5 = .ok (.baload, 1) := by decide +kernel
theorem dX4_isFirstOn_6 : decode cX4_isFirstOn 6 = .ok (.ifCond .eq 20, 3) := by decide +kernel
theorem dX4_isFirstOn_9 : decode cX4_isFirstOn 9 = .ok (.aload_n 0, 1) := by decide +kernel
theorem dX4_isFirstOn_10 : decode cX4_isFirstOn 10 = .ok (.getfield 26, 3) := by decide +kernel
theorem dX4_isFirstOn_13 : decode cX4_isFirstOn 13 = .ok (.iload_n 1, 1) := by decide +kernel
theorem dX4_isFirstOn_14 : decode cX4_isFirstOn 14 = .ok (.iaload, 1) := by decide +kernel
theorem dX4_isFirstOn_15 : decode cX4_isFirstOn 15 = .ok (.iload_n 2, 1) := by decide +kernel
theorem dX4_isFirstOn_16 : decode cX4_isFirstOn 16 = .ok (.ishr, 1) := by decide +kernel
theorem dX4_isFirstOn_17 : decode cX4_isFirstOn 17 = .ok (.iconst 1, 1) := by decide +kernel
theorem dX4_isFirstOn_18 : decode cX4_isFirstOn 18 = .ok (.iand, 1) := by decide +kernel
theorem dX4_isFirstOn_19 : decode cX4_isFirstOn 19 = .ok (.ifCond .eq 7, 3) := by decide +kernel
theorem dX4_isFirstOn_22 : decode cX4_isFirstOn 22 = .ok (.iconst 1, 1) := by decide +kernel
theorem dX4_isFirstOn_23 : decode cX4_isFirstOn 23 = .ok (.goto 4, 3) := by decide +kernel
theorem dX4_isFirstOn_26 : decode cX4_isFirstOn 26 = .ok (.iconst 0, 1) := by decide +kernel
theorem dX4_isFirstOn_27 : decode cX4_isFirstOn 27 = .ok (.ireturn, 1) := by decide +kernel
theorem dX5_init_0 : decode cX5_init 0 = .ok (.aload_n 0, 1) := by decide +kernel
theorem dX5_init_1 : decode cX5_init 1 = .ok (.invokespecial 3, 3) := by decide +kernel
theorem dX5_init_4 : decode cX5_init 4 = .ok (.aload_n 0, 1) := by decide +kernel
theorem dX5_init_5 : decode cX5_init 5 = .ok (.new 9, 3) := by decide +kernel
theorem dX5_init_8 : decode cX5_init 8 = .ok (.dup, 1) := by decide +kernel
theorem dX5_init_9 : decode cX5_init 9 = .ok (.invokespecial 11, 3) := by decide +kernel
theorem dX5_init_12 : decode cX5_init 12 = .ok (.putfield 12, 3) := by decide +kernel
theorem dX5_init_15 : decode cX5_init 15 = .ok (.aload_n 0, 1) := by decide +kernel
theorem dX5_init_16 : decode cX5_init 16 = .ok (.sipush 760, 3) := by decide +kernel
theorem dX5_init_19 : decode cX5_init 19 = .ok (.newarray .int, 2) := by decide +kernel
theorem dX5_init_21 : decode cX5_init 21 = .ok (.putfield 18, 3) := by decide +kernel
theorem dX5_init_24 : decode cX5_init 24 = .ok (.return_, 1) := by decide +kernel
theorem dX5_lay_0 : decode cX5_lay 0 = .ok (.aload_n 0, 1) := by decide +kernel
theorem dX5_lay_1 : decode cX5_lay 1 = .ok (.iload_n 1, 1) := by decide +kernel
theorem dX5_lay_2 : decode cX5_lay 2 = .ok (.putfield 22, 3) := by decide +kernel
theorem dX5_lay_5 : decode cX5_lay 5 = .ok (.aload_n 0, 1) := by decide +kernel
theorem dX5_lay_6 : decode cX5_lay 6 = .ok (.aload_n 2, 1) := by decide +kernel
theorem dX5_lay_7 : decode cX5_lay 7 = .ok (.getfield 26, 3) := by decide +kernel
theorem dX5_lay_10 : decode cX5_lay 10 = .ok (.putfield 31, 3) := by decide +kernel
theorem dX5_lay_13 : decode cX5_lay 13 = .ok (.aload_n 0, 1) := by decide +kernel
theorem dX5_lay_14 : decode cX5_lay 14 = .ok (.aload_n 2, 1) := by decide +kernel
theorem dX5_lay_15 : decode cX5_lay 15 = .ok (.getfield 32, 3) := by decide +kernel
theorem dX5_lay_18 : decode cX5_lay 18 = .ok (.putfield 35, 3) := by decide +kernel
theorem dX5_lay_21 : decode cX5_lay 21 = .ok (.aload_n 0, 1) := by decide +kernel
theorem dX5_lay_22 : decode cX5_lay 22 = .ok (.iload 5, 2) := by decide +kernel
theorem dX5_lay_24 : decode cX5_lay 24 = .ok (.putfield 36, 3) := by decide +kernel
theorem dX5_lay_27 : decode cX5_lay 27 = .ok (.aload_n 0, 1) := by decide +kernel
theorem dX5_lay_28 : decode cX5_lay 28 = .ok (.getfield 12, 3) := by decide +kernel
theorem dX5_lay_31 : decode cX5_lay 31 = .ok (.aload_n 3, 1) := by decide +kernel
theorem dX5_lay_32 : decode cX5_lay 32 = .ok (.invokevirtual 39, 3) := by decide +kernel
theorem dX5_lay_35 : decode cX5_lay 35 = .ok (.iconst 0, 1) := by decide +kernel
theorem dX5_lay_36 : decode cX5_lay 36 = .ok (.istore 6, 2) := by decide +kernel
theorem dX5_lay_38 : decode cX5_lay 38 = .ok (.iload 6, 2) := by decide +kernel
theorem dX5_lay_40 : decode cX5_lay 40 = .ok (.aload_n 0, 1) := by decide +kernel
theorem dX5_lay_41 : decode cX5_lay 41 = .ok (.getfield 36, 3) := by decide +kernel
theorem dX5_lay_44 : decode cX5_lay 44 = .ok (.if_icmp .ge 48, 3) := by decide +kernel
theorem dX5_lay_47 : decode cX5_lay 47 = .ok (.iload 6, 2) := by decide +kernel
theorem dX5_lay_49 : decode cX5_lay 49 = .ok (.aload 4, 2) := by decide +kernel
theorem dX5_lay_51 : decode cX5_lay 51 = .ok (.arraylength, 1) := by decide +kernel
theorem dX5_lay_52 : decode cX5_lay 52 = .ok (.if_icmp .ge 40, 3) := by decide +kernel
theorem dX5_lay_55 : decode cX5_lay 55 = .ok (.aload 4, 2) := by decide +kernel
theorem dX5_lay_57 : decode cX5_lay 57 = .ok (.iload 6, 2) := by decide +kernel
theorem dX5_lay_59 : decode cX5_lay 59 = .ok (.aaload, 1) := by decide +kernel
theorem dX5_lay_60 : decode cX5_lay 60 = .ok (.ifnull 26, 3) := by decide +kernel
theorem dX5_lay_63 : decode cX5_lay 63 = .ok (.aload 4, 2) := by decide +kernel
theorem dX5_lay_65 : decode cX5_lay 65 = .ok (.iload 6, 2) := by decide +kernel
theorem dX5_lay_67 : decode cX5_lay 67 = .ok (.aaload, 1) := by decide +kernel
theorem dX5_lay_68 : decode cX5_lay 68 = .ok (.getfield 43, 3) := by decide +kernel
theorem dX5_lay_71 : decode cX5_lay 71 = .ok (.iconst 0, 1) := by decide +kernel
theorem dX5_lay_72 : decode cX5_lay 72 = .ok (.aload_n 0, 1) := by decide +kernel
theorem dX5_lay_73 : decode cX5_lay 73 = .ok (.getfield 18, 3) := by decide +kernel
theorem dX5_lay_76 : decode cX5_lay 76 = .ok (.iload 6, 2) := by decide +kernel
theorem dX5_lay_78 : decode cX5_lay 78 = .ok (.bipush 19, 2) := by decide +kernel
theorem dX5_lay_80 : decode cX5_lay 80 = .ok (.imul, 1) := by decide +kernel
theorem dX5_lay_81 : decode cX5_lay 81 = .ok (.bipush 19, 2) := by decide +kernel
theorem dX5_lay_83 : decode cX5_lay 83 = .ok (.invokestatic 48, 3) := by decide +kernel
theorem dX5_lay_86 : decode cX5_lay 86 = .ok (.iinc 6 1, 3) := by decide +kernel
theorem dX5_lay_89 : decode cX5_lay 89 = .ok (.goto (-51), 3) := by decide +kernel
theorem dX5_lay_92 : decode cX5_lay 92 = .ok (.return_, 1) := by decide +kernel
theorem dX5_restore_0 : decode cX5_restore 0 = .ok (.aload_n 1, 1) := by decide +kernel
theorem dX5_restore_1 : decode cX5_restore 1 = .ok (.aload_n 0, 1) := by decide +kernel
theorem dX5_restore_2 : decode cX5_restore 2 = .ok (.getfield 35, 3) := by decide +kernel
theorem dX5_restore_5 : decode cX5_restore 5 = .ok (.putfield 32, 3) := by decide +kernel
theorem dX5_restore_8 : decode cX5_restore 8 = .ok (.iconst 0, 1) := by decide +kernel
theorem dX5_restore_9 : decode cX5_restore 9 = .ok (.istore 4, 2) := by decide +kernel
theorem dX5_restore_11 : decode cX5_restore 11 = .ok (.iload 4, 2) := by decide +kernel
theorem dX5_restore_13 : decode cX5_restore 13 = .ok (.bipush 12, 2) := by decide +kernel
theorem dX5_restore_15 : decode cX5_restore 15 = .ok (.if_icmp .ge 31, 3) := by decide +kernel
theorem dX5_restore_18 : decode cX5_restore 18 = .ok (.aload_n 0, 1) := by decide +kernel
theorem dX5_restore_19 : decode cX5_restore 19 = .ok (.getfield 31, 3) := by decide +kernel
theorem dX5_restore_22 : decode cX5_restore 22 = .ok (.iload 4, 2) := by decide +kernel
theorem dX5_restore_24 : decode cX5_restore 24 = .ok (.ishr, 1) := by decide +kernel
theorem dX5_restore_25 : decode cX5_restore 25 = .ok (.iconst 1, 1) := by decide +kernel
theorem dX5_restore_26 : decode cX5_restore 26 = .ok (.iand, 1) := by decide +kernel
theorem dX5_restore_27 : decode cX5_restore 27 = .ok (.ifCond .eq 13, 3) := by decide +kernel
theorem dX5_restore_30 : decode cX5_restore 30 = .ok (.aload_n 2, 1) := by decide +kernel
theorem dX5_restore_31 : decode cX5_restore 31 = .ok (.aload_n 0, 1) := by decide +kernel
theorem dX5_restore_32 : decode cX5_restore 32 = .ok (.getfield 12, 3) := by decide +kernel
theorem dX5_restore_35 : decode cX5_restore 35 = .ok (.iload 4, 2) := by decide +kernel
theorem dX5_restore_37 : decode cX5_restore 37 = .ok (.invokevirtual 54, 3) := by decide +kernel
theorem dX5_restore_40 : decode cX5_restore 40 = .ok (.iinc 4 1, 3) := by decide +kernel
theorem dX5_restore_43 : decode cX5_restore 43 = .ok (.goto (-32), 3) := by decide +kernel
theorem dX5_restore_46 : decode cX5_restore 46 = .ok (.iconst 0, 1) := by decide +kernel
theorem dX5_restore_47 : decode cX5_restore 47 = .ok (.istore 4, 2) := by decide +kernel
theorem dX5_restore_49 : decode cX5_restore 49 = .ok (.iload 4, 2) := by decide +kernel
theorem dX5_restore_51 : decode cX5_restore 51 = .ok (.aload_n 0, 1) := by decide +kernel
theorem dX5_restore_52 : decode cX5_restore 52 = .ok (.getfield 36, 3) := by decide +kernel
theorem dX5_restore_55 : decode cX5_restore 55 = .ok (.if_icmp .ge 45, 3) := by decide +kernel
theorem dX5_restore_58 : decode cX5_restore 58 = .ok (.iload 4, 2) := by decide +kernel
theorem dX5_restore_60 : decode cX5_restore 60 = .ok (.aload_n 3, 1) := by decide +kernel
theorem dX5_restore_61 : decode cX5_restore 61 = .ok (.arraylength, 1) := by decide +kernel
theorem dX5_restore_62 : decode cX5_restore 62 = .ok (.if_icmp .ge 38, 3) := by decide +kernel
theorem dX5_restore_65 : decode cX5_restore 65 = .ok (.aload_n 3, 1) := by decide +kernel
theorem dX5_restore_66 : decode cX5_restore 66 = .ok (.iload 4, 2) := by decide +kernel
theorem dX5_restore_68 : decode cX5_restore 68 = .ok (.aaload, 1) := by decide +kernel
theorem dX5_restore_69 : decode cX5_restore 69 = .ok (.ifnull 25, 3) := by decide +kernel
theorem dX5_restore_72 : decode cX5_restore 72 = .ok (.aload_n 0, 1) := by decide +kernel
theorem dX5_restore_73 : decode cX5_restore 73 = .ok (.getfield 18, 3) := by decide +kernel
theorem dX5_restore_76 : decode cX5_restore 76 = .ok (.iload 4, 2) := by decide +kernel
theorem dX5_restore_78 : decode cX5_restore 78 = .ok (.bipush 19, 2) := by decide +kernel
theorem dX5_restore_80 : decode cX5_restore 80 = .ok (.imul, 1) := by decide +kernel
theorem dX5_restore_81 : decode cX5_restore 81 = .ok (.aload_n 3, 1) := by decide +kernel
theorem dX5_restore_82 : decode cX5_restore 82 = .ok (.iload 4, 2) := by decide +kernel
theorem dX5_restore_84 : decode cX5_restore 84 = .ok (.aaload, 1) := by decide +kernel
theorem dX5_restore_85 : decode cX5_restore 85 = .ok (.getfield 43, 3) := by decide +kernel
theorem dX5_restore_88 : decode cX5_restore 88 = .ok (.iconst 0, 1) := by decide +kernel
theorem dX5_restore_89 : decode cX5_restore 89 = .ok (.bipush 19, 2) := by decide +kernel
theorem dX5_restore_91 : decode cX5_restore 91 = .ok (.invokestatic 48, 3) := by decide +kernel
theorem dX5_restore_94 : decode cX5_restore 94 = .ok (.iinc 4 1, 3) := by decide +kernel
theorem dX5_restore_97 : decode cX5_restore 97 = .ok (.goto (-48), 3) := by decide +kernel
theorem dX5_restore_100 : decode cX5_restore 100 = .ok (.return_, 1) := by decide +kernel
theorem dX6_init_0 : decode cX6_init 0 = .ok (.aload_n 0, 1) := by decide +kernel
theorem dX6_init_1 : decode cX6_init 1 = .ok (.invokespecial 3, 3) := by decide +kernel
theorem dX6_init_4 : decode cX6_init 4 = .ok (.aload_n 0, 1) := by decide +kernel
theorem dX6_init_5 : decode cX6_init 5 = .ok (.bipush 6, 2) := by decide +kernel
theorem dX6_init_7 : decode cX6_init 7 = .ok (.anewarray 9, 3) := by decide +kernel
theorem dX6_init_10 : decode cX6_init 10 = .ok (.putfield 11, 3) := by decide +kernel
theorem dX6_init_13 : decode cX6_init 13 = .ok (.aload_n 0, 1) := by decide +kernel
theorem dX6_init_14 : decode cX6_init 14 = .ok (.sipush 169, 3) := by decide +kernel
theorem dX6_init_17 : decode cX6_init 17 = .ok (.newarray .long, 2) := by decide +kernel
theorem dX6_init_19 : decode cX6_init 19 = .ok (.putfield 17, 3) := by decide +kernel
theorem dX6_init_22 : decode cX6_init 22 = .ok (.aload_n 0, 1) := by decide +kernel
theorem dX6_init_23 : decode cX6_init 23 = .ok (.iconst (-1), 1) := by decide +kernel
theorem dX6_init_24 : decode cX6_init 24 = .ok (.putfield 21, 3) := by decide +kernel
theorem dX6_init_27 : decode cX6_init 27 = .ok (.aload_n 0, 1) := by decide +kernel
theorem dX6_init_28 : decode cX6_init 28 = .ok (.aload_n 1, 1) := by decide +kernel
theorem dX6_init_29 : decode cX6_init 29 = .ok (.putfield 25, 3) := by decide +kernel
theorem dX6_init_32 : decode cX6_init 32 = .ok (.aload_n 0, 1) := by decide +kernel
theorem dX6_init_33 : decode cX6_init 33 = .ok (.aload_n 2, 1) := by decide +kernel
theorem dX6_init_34 : decode cX6_init 34 = .ok (.putfield 29, 3) := by decide +kernel
theorem dX6_init_37 : decode cX6_init 37 = .ok (.aload_n 0, 1) := by decide +kernel
theorem dX6_init_38 : decode cX6_init 38 = .ok (.aload_n 3, 1) := by decide +kernel
theorem dX6_init_39 : decode cX6_init 39 = .ok (.putfield 33, 3) := by decide +kernel
theorem dX6_init_42 : decode cX6_init 42 = .ok (.aload_n 0, 1) := by decide +kernel
theorem dX6_init_43 : decode cX6_init 43 = .ok (.aload 4, 2) := by decide +kernel
theorem dX6_init_45 : decode cX6_init 45 = .ok (.putfield 37, 3) := by decide +kernel
theorem dX6_init_48 : decode cX6_init 48 = .ok (.return_, 1) := by decide +kernel
theorem dX6_addHonest_0 : decode cX6_addHonest 0 = .ok (.aload_n 0, 1) := by decide +kernel
theorem dX6_addHonest_1 : decode cX6_addHonest 1 = .ok (.getfield 41, 3) := by decide +kernel
theorem dX6_addHonest_4 : decode cX6_addHonest 4 = .ok (.bipush 6, 2) := by decide +kernel
theorem dX6_addHonest_6 : decode cX6_addHonest 6 = .ok (.if_icmp .ge 42, 3) := by decide +kernel
theorem dX6_addHonest_9 : decode cX6_addHonest 9 = .ok (.aload_n 0, 1) := by decide +kernel
theorem dX6_addHonest_10 : decode cX6_addHonest 10 = .ok (.getfield 11, 3) := by decide +kernel
theorem dX6_addHonest_13 : decode cX6_addHonest 13 = .ok (.aload_n 0, 1) := by decide +kernel
theorem dX6_addHonest_14 : decode cX6_addHonest 14 = .ok (.getfield 41, 3) := by decide +kernel
theorem dX6_addHonest_17 : decode cX6_addHonest 17 = .ok (.new 9, 3) := by decide +kernel
theorem dX6_addHonest_20 : decode cX6_addHonest 20 = .ok (.dup, 1) := by decide +kernel
theorem dX6_addHonest_21 : decode cX6_addHonest 21 = .ok (.invokespecial 44, 3) := by decide +kernel
theorem dX6_addHonest_24 : decode cX6_addHonest 24 = .ok (.aastore, 1) := by decide +kernel
theorem dX6_addHonest_25 : decode cX6_addHonest 25 = .ok (.aload_n 0, 1) := by decide +kernel
theorem dX6_addHonest_26 : decode cX6_addHonest 26 = .ok (.getfield 11, 3) := by decide +kernel
theorem dX6_addHonest_29 : decode cX6_addHonest 29 = .ok (.aload_n 0, 1) := by decide +kernel
theorem dX6_addHonest_30 : decode cX6_addHonest 30 = .ok (.getfield 41, 3) := by decide +kernel
theorem dX6_addHonest_33 : decode cX6_addHonest 33 = .ok (.aaload, 1) := by decide +kernel
theorem dX6_addHonest_34 : decode cX6_addHonest 34 = .ok (.aload_n 1, 1) := by decide +kernel
theorem dX6_addHonest_35 : decode cX6_addHonest 35 = .ok (.invokevirtual 45, 3) := by decide +kernel
theorem dX6_addHonest_38 : decode cX6_addHonest 38 = .ok (.aload_n 0, 1) := by decide +kernel
theorem dX6_addHonest_39 : decode cX6_addHonest 39 = .ok (.dup, 1) := by decide +kernel
theorem dX6_addHonest_40 : decode cX6_addHonest 40 = .ok (.getfield 41, 3) := by decide +kernel
theorem dX6_addHonest_43 : decode cX6_addHonest 43 = .ok (.iconst 1, 1) := by decide +kernel
theorem dX6_addHonest_44 : decode cX6_addHonest 44 = .ok (.iadd, 1) := by decide +kernel
theorem dX6_addHonest_45 : decode cX6_addHonest 45 = .ok (.putfield 41, 3) := by decide +kernel
theorem dX6_addHonest_48 : decode cX6_addHonest 48 = .ok (.return_, 1) := by decide +kernel
theorem dX6_find_0 : decode cX6_find 0 = .ok (.aload_n 0, 1) := by decide +kernel
theorem dX6_find_1 : decode cX6_find 1 = .ok (.getfield 49, 3) := by decide +kernel
theorem dX6_find_4 : decode cX6_find 4 = .ok (.iload_n 1, 1) := by decide +kernel
theorem dX6_find_5 : decode cX6_find 5 = .ok (.if_icmp .ne 32, 3) := by decide +kernel
theorem dX6_find_8 : decode cX6_find 8 = .ok (.aload_n 0, 1) := by decide +kernel
theorem dX6_find_9 : decode cX6_find 9 = .ok (.getfield 52, 3) := by decide +kernel
theorem dX6_find_12 : decode cX6_find 12 = .ok (.iload_n 2, 1) := by decide +kernel
theorem dX6_find_13 : decode cX6_find 13 = .ok (.if_icmp .ne 24, 3) := by decide +kernel
theorem dX6_find_16 : decode cX6_find 16 = .ok (.aload_n 0, 1) := by decide +kernel
theorem dX6_find_17 : decode cX6_find 17 = .ok (.getfield 55, 3) := by decide +kernel
theorem dX6_find_20 : decode cX6_find 20 = .ok (.iload_n 3, 1) := by decide +kernel
theorem dX6_find_21 : decode cX6_find 21 = .ok (.if_icmp .ne 16, 3) := by decide +kernel
theorem dX6_find_24 : decode cX6_find 24 = .ok (.aload_n 0, 1) := by decide +kernel
theorem dX6_find_25 : decode cX6_find 25 = .ok (.getfield 58, 3) := by decide +kernel
theorem dX6_find_28 : decode cX6_find 28 = .ok (.iload 4, 2) := by decide +kernel
theorem dX6_find_30 : decode cX6_find 30 = .ok (.if_icmp .ne 7, 3) := by decide +kernel
theorem dX6_find_33 : decode cX6_find 33 = .ok (.iconst 1, 1) := by decide +kernel
theorem dX6_find_34 : decode cX6_find 34 = .ok (.goto 4, 3) := by decide +kernel
theorem dX6_find_37 : decode cX6_find 37 = .ok (.iconst 0, 1) := by decide +kernel
theorem dX6_find_38 : decode cX6_find 38 = .ok (.istore 5, 2) := by decide +kernel
theorem dX6_find_40 : decode cX6_find 40 = .ok (.iload 5, 2) := by decide +kernel
theorem dX6_find_42 : decode cX6_find 42 = .ok (.ifCond .eq 17, 3) := by decide +kernel
theorem dX6_find_45 : decode cX6_find 45 = .ok (.aload_n 0, 1) := by decide +kernel
theorem dX6_find_46 : decode cX6_find 46 = .ok (.getfield 21, 3) := by decide +kernel
theorem dX6_find_49 : decode cX6_find 49 = .ok (.aload_n 0, 1) := by decide +kernel
theorem dX6_find_50 : decode cX6_find 50 = .ok (.getfield 25, 3) := by decide +kernel
theorem dX6_find_53 : decode cX6_find 53 = .ok (.getfield 61, 3) := by decide +kernel
theorem dX6_find_56 : decode cX6_find 56 = .ok (.if_icmp .eq 61, 3) := by decide +kernel
theorem dX6_find_59 : decode cX6_find 59 = .ok (.aload_n 0, 1) := by decide +kernel
theorem dX6_find_60 : decode cX6_find 60 = .ok (.iload_n 1, 1) := by decide +kernel
theorem dX6_find_61 : decode cX6_find 61 = .ok (.putfield 49, 3) := by decide +kernel
theorem dX6_find_64 : decode cX6_find 64 = .ok (.aload_n 0, 1) := by decide +kernel
theorem dX6_find_65 : decode cX6_find 65 = .ok (.iload_n 2, 1) := by decide +kernel
theorem dX6_find_66 : decode cX6_find 66 = .ok (.putfield 52, 3) := by decide +kernel
theorem dX6_find_69 : decode cX6_find 69 = .ok (.aload_n 0, 1) := by decide +kernel
theorem dX6_find_70 : decode cX6_find 70 = .ok (.iload_n 3, 1) := by decide +kernel
theorem dX6_find_71 : decode cX6_find 71 = .ok (.putfield 55, 3) := by decide +kernel
theorem dX6_find_74 : decode cX6_find 74 = .ok (.aload_n 0, 1) := by decide +kernel
theorem dX6_find_75 : decode cX6_find 75 = .ok (.iload 4, 2) := by decide +kernel
theorem dX6_find_77 : decode cX6_find 77 = .ok (.putfield 58, 3) := by decide +kernel
theorem dX6_find_80 : decode cX6_find 80 = .ok (.aload_n 0, 1) := by decide +kernel
theorem dX6_find_81 : decode cX6_find 81 = .ok (.invokevirtual 66, 3) := by decide +kernel
theorem dX6_find_84 : decode cX6_find 84 = .ok (.lstore 6, 2) := by decide +kernel
theorem dX6_find_86 : decode cX6_find 86 = .ok (.aload_n 0, 1) := by decide +kernel
theorem dX6_find_87 : decode cX6_find 87 = .ok (.lload 6, 2) := by decide +kernel
theorem dX6_find_89 : decode cX6_find 89 = .ok (.aload_n 0, 1) := by decide +kernel
theorem dX6_find_90 : decode cX6_find 90 = .ok (.lload 6, 2) := by decide +kernel
theorem dX6_find_92 : decode cX6_find 92 = .ok (.invokevirtual 70, 3) := by decide +kernel
theorem dX6_find_95 : decode cX6_find 95 = .ok (.ldc2_w 74, 3) := by decide +kernel
theorem dX6_find_98 : decode cX6_find 98 = .ok (.lxor, 1) := by decide +kernel
theorem dX6_find_99 : decode cX6_find 99 = .ok (.land, 1) := by decide +kernel
theorem dX6_find_100 : decode cX6_find 100 = .ok (.invokestatic 76, 3) := by decide +kernel
theorem dX6_find_103 : decode cX6_find 103 = .ok (.putfield 80, 3) := by decide +kernel
theorem dX6_find_106 : decode cX6_find 106 = .ok (.aload_n 0, 1) := by decide +kernel
theorem dX6_find_107 : decode cX6_find 107 = .ok (.aload_n 0, 1) := by decide +kernel
theorem dX6_find_108 : decode cX6_find 108 = .ok (.getfield 25, 3) := by decide +kernel
theorem dX6_find_111 : decode cX6_find 111 = .ok (.getfield 61, 3) := by decide +kernel
theorem dX6_find_114 : decode cX6_find 114 = .ok (.putfield 21, 3) := by decide +kernel
theorem dX6_find_117 : decode cX6_find 117 = .ok (.aload_n 0, 1) := by decide +kernel
theorem dX6_find_118 : decode cX6_find 118 = .ok (.getfield 80, 3) := by decide +kernel
theorem dX6_find_121 : decode cX6_find 121 = .ok (.ireturn, 1) := by decide +kernel
theorem dX6_honestSets_0 : decode cX6_honestSets 0 = .ok (.aload_n 0, 1) := by decide +kernel
theorem dX6_honestSets_1 : decode cX6_honestSets 1 = .ok (.getfield 33, 3) := by decide +kernel
theorem dX6_honestSets_4 : decode cX6_honestSets 4 = .ok (.getfield 83, 3) := by decide +kernel
theorem dX6_honestSets_7 : decode cX6_honestSets 7 = .ok (.getfield 89, 3) := by decide +kernel
theorem dX6_honestSets_10 : decode cX6_honestSets 10 = .ok (.istore_n 1, 1) := by decide +kernel
theorem dX6_honestSets_11 : decode cX6_honestSets 11 = .ok (.iload_n 1, 1) := by decide +kernel
theorem dX6_honestSets_12 : decode cX6_honestSets 12 = .ok (.bipush 6, 2) := by decide +kernel
theorem dX6_honestSets_14 : decode cX6_honestSets 14 = .ok (.if_icmp .lt 9, 3) := by decide +kernel
theorem dX6_honestSets_17 : decode cX6_honestSets 17 = .ok (.ldc2_w 74, 3) := by decide +kernel
theorem dX6_honestSets_20 : decode cX6_honestSets 20 = .ok (.goto 10, 3) := by decide +kernel
theorem dX6_honestSets_23 : decode cX6_honestSets 23 = .ok (.lconst 1, 1) := by decide +kernel
theorem dX6_honestSets_24 : decode cX6_honestSets 24 = .ok (.iconst 1, 1) := by decide +kernel
theorem dX6_honestSets_25 : decode cX6_honestSets 25 = .ok (.iload_n 1, 1) := by decide +kernel
theorem dX6_honestSets_26 : decode cX6_honestSets 26 = .ok (.ishl, 1) := by decide +kernel
theorem dX6_honestSets_27 : decode cX6_honestSets 27 = .ok (.lshl, 1) := by decide +kernel
theorem dX6_honestSets_28 : decode cX6_honestSets 28 = .ok (.lconst 1, 1) := by decide +kernel
theorem dX6_honestSets_29 : decode cX6_honestSets 29 = .ok (.lsub, 1) := by decide +kernel
theorem dX6_honestSets_30 : decode cX6_honestSets 30 = .ok (.lstore_n 2, 1) := by decide +kernel
theorem dX6_honestSets_31 : decode cX6_honestSets 31 = .ok (.iconst 0, 1) := by decide +kernel
theorem dX6_honestSets_32 : decode cX6_honestSets 32 = .ok (.istore 4, 2) := by decide +kernel
theorem dX6_honestSets_34 : decode cX6_honestSets 34 = .ok (.iload 4, 2) := by decide +kernel
theorem dX6_honestSets_36 : decode cX6_honestSets 36 = .ok (.aload_n 0, 1) := by decide +kernel
theorem dX6_honestSets_37 : decode cX6_honestSets 37 = .ok (.getfield 41, 3) := by decide +kernel
theorem dX6_honestSets_40 : decode cX6_honestSets 40 = .ok (.if_icmp .ge 87, 3) := by decide +kernel
theorem dX6_honestSets_43 : decode cX6_honestSets 43 = .ok (.iload 4, 2) := by decide +kernel
theorem dX6_honestSets_45 : decode cX6_honestSets 45 = .ok (.bipush 6, 2) := by decide +kernel
theorem dX6_honestSets_47 : decode cX6_honestSets 47 = .ok (.if_icmp .ge 80, 3) := by decide +kernel
theorem dX6_honestSets_50 : decode cX6_honestSets 50 = .ok (.aload_n 0, 1) := by decide +kernel
theorem dX6_honestSets_51 : decode cX6_honestSets 51 = .ok (.getfield 11, 3) := by decide +kernel
theorem dX6_honestSets_54 : decode cX6_honestSets 54 = .ok (.iload 4, 2) := by decide +kernel
theorem dX6_honestSets_56 : decode cX6_honestSets 56 = .ok (.aaload, 1) := by decide +kernel
theorem dX6_honestSets_57 : decode cX6_honestSets 57 = .ok (.astore 5, 2) := by decide +kernel
theorem dX6_honestSets_59 : decode cX6_honestSets 59 = .ok (.aload 5, 2) := by decide +kernel
theorem dX6_honestSets_61 : decode cX6_honestSets 61 = .ok (.ifnull 60, 3) := by decide +kernel
theorem dX6_honestSets_64 : decode cX6_honestSets 64 = .ok (.aload 5, 2) := by decide +kernel
theorem dX6_honestSets_66 : decode cX6_honestSets 66 = .ok (.aload_n 0, 1) := by decide +kernel
theorem dX6_honestSets_67 : decode cX6_honestSets 67 = .ok (.getfield 25, 3) := by decide +kernel
theorem dX6_honestSets_70 : decode cX6_honestSets 70 = .ok (.aload_n 0, 1) := by decide +kernel
theorem dX6_honestSets_71 : decode cX6_honestSets 71 = .ok (.getfield 29, 3) := by decide +kernel
theorem dX6_honestSets_74 : decode cX6_honestSets 74 = .ok (.invokevirtual 94, 3) := by decide +kernel
theorem dX6_honestSets_77 : decode cX6_honestSets 77 = .ok (.ifCond .eq 44, 3) := by decide +kernel
theorem dX6_honestSets_80 : decode cX6_honestSets 80 = .ok (.aload_n 0, 1) := by decide +kernel
theorem dX6_honestSets_81 : decode cX6_honestSets 81 = .ok (.getfield 33, 3) := by decide +kernel
theorem dX6_honestSets_84 : decode cX6_honestSets 84 = .ok (.aload_n 0, 1) := by decide +kernel
theorem dX6_honestSets_85 : decode cX6_honestSets 85 = .ok (.getfield 29, 3) := by decide +kernel
theorem dX6_honestSets_88 : decode cX6_honestSets 88 = .ok (.aload 5, 2) := by decide +kernel
theorem dX6_honestSets_90 : decode cX6_honestSets 90 = .ok (.getfield 98, 3) := by decide +kernel
theorem dX6_honestSets_93 : decode cX6_honestSets 93 = .ok (.aload 5, 2) := by decide +kernel
theorem dX6_honestSets_95 : decode cX6_honestSets 95 = .ok (.getfield 99, 3) := by decide +kernel
theorem dX6_honestSets_98 : decode cX6_honestSets 98 = .ok (.invokevirtual 102, 3) := by decide +kernel
theorem dX6_honestSets_101 : decode cX6_honestSets 101 = .ok (.aload_n 0, 1) := by decide +kernel
theorem dX6_honestSets_102 : decode cX6_honestSets 102 = .ok (.getfield 33, 3) := by decide +kernel
theorem dX6_honestSets_105 : decode cX6_honestSets 105 = .ok (.aload 5, 2) := by decide +kernel
theorem dX6_honestSets_107 : decode cX6_honestSets 107 = .ok (.invokevirtual 106, 3) := by decide +kernel
theorem dX6_honestSets_110 : decode cX6_honestSets 110 = .ok (.aload_n 0, 1) := by decide +kernel
theorem dX6_honestSets_111 : decode cX6_honestSets 111 = .ok (.getfield 33, 3) := by decide +kernel
theorem dX6_honestSets_114 : decode cX6_honestSets 114 = .ok (.lload_n 2, 1) := by decide +kernel
theorem dX6_honestSets_115 : decode cX6_honestSets 115 = .ok (.ldc 109, 2) := by decide +kernel
theorem dX6_honestSets_117 : decode cX6_honestSets 117 = .ok (.invokevirtual 110, 3) := by decide +kernel
theorem dX6_honestSets_120 : decode cX6_honestSets 120 = .ok (.lstore_n 2, 1) := by decide +kernel
theorem dX6_honestSets_121 : decode cX6_honestSets 121 = .ok (.iinc 4 1, 3) := by decide +kernel
theorem dX6_honestSets_124 : decode cX6_honestSets 124 = .ok (.goto (-90), 3) := by decide +kernel
theorem dX6_honestSets_127 : decode cX6_honestSets 127 = .ok (.lload_n 2, 1) := by decide +kernel
theorem dX6_honestSets_128 : decode cX6_honestSets 128 = .ok (.lreturn, 1) := by decide +kernel
theorem dX6_slySets_0 : decode cX6_slySets 0 = .ok (.aload_n 0, 1) := by decide +kernel
theorem dX6_slySets_1 : decode cX6_slySets 1 = .ok (.getfield 37, 3) := by decide +kernel
theorem dX6_slySets_4 : decode cX6_slySets 4 = .ok (.aload_n 0, 1) := by decide +kernel
theorem dX6_slySets_5 : decode cX6_slySets 5 = .ok (.getfield 49, 3) := by decide +kernel
theorem dX6_slySets_8 : decode cX6_slySets 8 = .ok (.aload_n 0, 1) := by decide +kernel
theorem dX6_slySets_9 : decode cX6_slySets 9 = .ok (.getfield 52, 3) := by decide +kernel
theorem dX6_slySets_12 : decode cX6_slySets 12 = .ok (.aload_n 0, 1) := by decide +kernel
theorem dX6_slySets_13 : decode cX6_slySets 13 = .ok (.getfield 55, 3) := by decide +kernel
theorem dX6_slySets_16 : decode cX6_slySets 16 = .ok (.aload_n 0, 1) := by decide +kernel
theorem dX6_slySets_17 : decode cX6_slySets 17 = .ok (.getfield 58, 3) := by decide +kernel
theorem dX6_slySets_20 : decode cX6_slySets 20 = .ok (.invokevirtual 114, 3) := by decide +kernel
theorem dX6_slySets_23 : decode cX6_slySets 23 = .ok (.iconst 0, 1) := by decide +kernel
theorem dX6_slySets_24 : decode cX6_slySets 24 = .ok (.istore_n 3, 1) := by decide +kernel
theorem dX6_slySets_25 : decode cX6_slySets 25 = .ok (.iload_n 3, 1) := by decide +kernel
theorem dX6_slySets_26 : decode cX6_slySets 26 = .ok (.sipush 169, 3) := by decide +kernel
theorem dX6_slySets_29 : decode cX6_slySets 29 = .ok (.if_icmp .ge 16, 3) := by decide +kernel
theorem dX6_slySets_32 : decode cX6_slySets 32 = .ok (.aload_n 0, 1) := by decide +kernel
theorem dX6_slySets_33 : decode cX6_slySets 33 = .ok (.getfield 17, 3) := by decide +kernel
theorem dX6_slySets_36 : decode cX6_slySets 36 = .ok (.iload_n 3, 1) := by decide +kernel
theorem dX6_slySets_37 : decode cX6_slySets 37 = .ok (.lconst 0, 1) := by decide +kernel
theorem dX6_slySets_38 : decode cX6_slySets 38 = .ok (.lastore, 1) := by decide +kernel
theorem dX6_slySets_39 : decode cX6_slySets 39 = .ok (.iinc 3 1, 3) := by decide +kernel
theorem dX6_slySets_42 : decode cX6_slySets 42 = .ok (.goto (-17), 3) := by decide +kernel
theorem dX6_slySets_45 : decode cX6_slySets 45 = .ok (.aload_n 0, 1) := by decide +kernel
theorem dX6_slySets_46 : decode cX6_slySets 46 = .ok (.getfield 17, 3) := by decide +kernel
theorem dX6_slySets_49 : decode cX6_slySets 49 = .ok (.aload_n 0, 1) := by decide +kernel
theorem dX6_slySets_50 : decode cX6_slySets 50 = .ok (.getfield 37, 3) := by decide +kernel
theorem dX6_slySets_53 : decode cX6_slySets 53 = .ok (.getfield 120, 3) := by decide +kernel
theorem dX6_slySets_56 : decode cX6_slySets 56 = .ok (.lload_n 1, 1) := by decide +kernel
theorem dX6_slySets_57 : decode cX6_slySets 57 = .ok (.lastore, 1) := by decide +kernel
theorem dX6_slySets_58 : decode cX6_slySets 58 = .ok (.lconst 0, 1) := by decide +kernel
theorem dX6_slySets_59 : decode cX6_slySets 59 = .ok (.lstore_n 3, 1) := by decide +kernel
theorem dX6_slySets_60 : decode cX6_slySets 60 = .ok (.aload_n 0, 1) := by decide +kernel
theorem dX6_slySets_61 : decode cX6_slySets 61 = .ok (.getfield 37, 3) := by decide +kernel
theorem dX6_slySets_64 : decode cX6_slySets 64 = .ok (.getfield 120, 3) := by decide +kernel
theorem dX6_slySets_67 : decode cX6_slySets 67 = .ok (.istore 5, 2) := by decide +kernel
theorem dX6_slySets_69 : decode cX6_slySets 69 = .ok (.iload 5, 2) := by decide +kernel
theorem dX6_slySets_71 : decode cX6_slySets 71 = .ok (.bipush 13, 2) := by decide +kernel
theorem dX6_slySets_73 : decode cX6_slySets 73 = .ok (.if_icmp .lt 101, 3) := by decide +kernel
theorem dX6_slySets_76 : decode cX6_slySets 76 = .ok (.aload_n 0, 1) := by decide +kernel
theorem dX6_slySets_77 : decode cX6_slySets 77 = .ok (.getfield 17, 3) := by decide +kernel
theorem dX6_slySets_80 : decode cX6_slySets 80 = .ok (.iload 5, 2) := by decide +kernel
theorem dX6_slySets_82 : decode cX6_slySets 82 = .ok (.dup2, 1) := by decide +kernel
theorem dX6_slySets_83 : decode cX6_slySets 83 = .ok (.laload, 1) := by decide +kernel
theorem dX6_slySets_84 : decode cX6_slySets 84 = .ok (.lload_n 3, 1) := by decide +kernel
theorem dX6_slySets_85 : decode cX6_slySets 85 = .ok (.ldc2_w 74, 3) := by decide +kernel
theorem dX6_slySets_88 : decode cX6_slySets 88 = .ok (.lxor, 1) := by decide +kernel
theorem dX6_slySets_89 : decode cX6_slySets 89 = .ok (.land, 1) := by decide +kernel
theorem dX6_slySets_90 : decode cX6_slySets 90 = .ok (.lastore, 1) := by decide +kernel
theorem dX6_slySets_91 : decode cX6_slySets 91 = .ok (.aload_n 0, 1) := by decide +kernel
theorem dX6_slySets_92 : decode cX6_slySets 92 = .ok (.getfield 17, 3) := by decide +kernel
theorem dX6_slySets_95 : decode cX6_slySets 95 = .ok (.iload 5, 2) := by decide +kernel
theorem dX6_slySets_97 : decode cX6_slySets 97 = .ok (.laload, 1) := by decide +kernel
theorem dX6_slySets_98 : decode cX6_slySets 98 = .ok (.lconst 0, 1) := by decide +kernel
theorem dX6_slySets_99 : decode cX6_slySets 99 = .ok (.lcmp, 1) := by decide +kernel
theorem dX6_slySets_100 : decode cX6_slySets 100 = .ok (.ifCond .eq 68, 3) := by decide +kernel
theorem dX6_slySets_103 : decode cX6_slySets 103 = .ok (.aload_n 0, 1) := by decide +kernel
theorem dX6_slySets_104 : decode cX6_slySets 104 = .ok (.getfield 37, 3) := by decide +kernel
theorem dX6_slySets_107 : decode cX6_slySets 107 = .ok (.iload 5, 2) := by decide +kernel
theorem dX6_slySets_109 : decode cX6_slySets 109 = .ok (.invokevirtual 123, 3) := by decide +kernel
theorem dX6_slySets_112 : decode cX6_slySets 112 = .ok (.aload_n 0, 1) := by decide +kernel
theorem dX6_slySets_113 : decode cX6_slySets 113 = .ok (.getfield 37, 3) := by decide +kernel
theorem dX6_slySets_116 : decode cX6_slySets 116 = .ok (.iconst 0, 1) := by decide +kernel
theorem dX6_slySets_117 : decode cX6_slySets 117 = .ok (.invokevirtual 127, 3) := by decide +kernel
theorem dX6_slySets_120 : decode cX6_slySets 120 = .ok (.lload_n 3, 1) := by decide +kernel
theorem dX6_slySets_121 : decode cX6_slySets 121 = .ok (.aload_n 0, 1) := by decide +kernel
theorem dX6_slySets_122 : decode cX6_slySets 122 = .ok (.getfield 37, 3) := by decide +kernel
theorem dX6_slySets_125 : decode cX6_slySets 125 = .ok (.aload_n 0, 1) := by decide +kernel
theorem dX6_slySets_126 : decode cX6_slySets 126 = .ok (.getfield 37, 3) := by decide +kernel
theorem dX6_slySets_129 : decode cX6_slySets 129 = .ok (.iload 5, 2) := by decide +kernel
theorem dX6_slySets_131 : decode cX6_slySets 131 = .ok (.iconst 0, 1) := by decide +kernel
theorem dX6_slySets_132 : decode cX6_slySets 132 = .ok (.invokevirtual 130, 3) := by decide +kernel
theorem dX6_slySets_135 : decode cX6_slySets 135 = .ok (.aload_n 0, 1) := by decide +kernel
theorem dX6_slySets_136 : decode cX6_slySets 136 = .ok (.getfield 17, 3) := by decide +kernel
theorem dX6_slySets_139 : decode cX6_slySets 139 = .ok (.iload 5, 2) := by decide +kernel
theorem dX6_slySets_141 : decode cX6_slySets 141 = .ok (.laload, 1) := by decide +kernel
theorem dX6_slySets_142 : decode cX6_slySets 142 = .ok (.invokevirtual 134, 3) := by decide +kernel
theorem dX6_slySets_145 : decode cX6_slySets 145 = .ok (.lor, 1) := by decide +kernel
theorem dX6_slySets_146 : decode cX6_slySets 146 = .ok (.lstore_n 3, 1) := by decide +kernel
theorem dX6_slySets_147 : decode cX6_slySets 147 = .ok (.aload_n 0, 1) := by decide +kernel
theorem dX6_slySets_148 : decode cX6_slySets 148 = .ok (.getfield 17, 3) := by decide +kernel
theorem dX6_slySets_151 : decode cX6_slySets 151 = .ok (.iload 5, 2) := by decide +kernel
theorem dX6_slySets_153 : decode cX6_slySets 153 = .ok (.dup2, 1) := by decide +kernel
theorem dX6_slySets_154 : decode cX6_slySets 154 = .ok (.laload, 1) := by decide +kernel
theorem dX6_slySets_155 : decode cX6_slySets 155 = .ok (.lload_n 3, 1) := by decide +kernel
theorem dX6_slySets_156 : decode cX6_slySets 156 = .ok (.ldc2_w 74, 3) := by decide +kernel
theorem dX6_slySets_159 : decode cX6_slySets 159 = .ok (.lxor, 1) := by decide +kernel
theorem dX6_slySets_160 : decode cX6_slySets 160 = .ok (.land, 1) := by decide +kernel
theorem dX6_slySets_161 : decode cX6_slySets 161 = .ok (.lastore, 1) := by decide +kernel
theorem dX6_slySets_162 : decode cX6_slySets 162 = .ok (.aload_n 0, 1) := by decide +kernel
theorem dX6_slySets_163 : decode cX6_slySets 163 = .ok (.iload 5, 2) := by decide +kernel
theorem dX6_slySets_165 : decode cX6_slySets 165 = .ok (.invokevirtual 137, 3) := by decide +kernel
theorem dX6_slySets_168 : decode cX6_slySets 168 = .ok (.iinc 5 (-1), 3) := by decide +kernel
theorem dX6_slySets_171 : decode cX6_slySets 171 = .ok (.goto (-102), 3) := by decide +kernel
theorem dX6_slySets_174 : decode cX6_slySets 174 = .ok (.lload_n 3, 1) := by decide +kernel
theorem dX6_slySets_175 : decode cX6_slySets 175 = .ok (.lreturn, 1) := by decide +kernel
theorem dX6_spread_0 : decode cX6_spread 0 = .ok (.iconst 0, 1) := by decide +kernel
theorem dX6_spread_1 : decode cX6_spread 1 = .ok (.istore_n 2, 1) := by decide +kernel
theorem dX6_spread_2 : decode cX6_spread 2 = .ok (.iload_n 2, 1) := by decide +kernel
theorem dX6_spread_3 : decode cX6_spread 3 = .ok (.iconst 2, 1) := by decide +kernel
theorem dX6_spread_4 : decode cX6_spread 4 = .ok (.if_icmp .ge 102, 3) := by decide +kernel
theorem dX6_spread_7 : decode cX6_spread 7 = .ok (.aload_n 0, 1) := by decide +kernel
theorem dX6_spread_8 : decode cX6_spread 8 = .ok (.getfield 37, 3) := by decide +kernel
theorem dX6_spread_11 : decode cX6_spread 11 = .ok (.iload_n 2, 1) := by decide +kernel
theorem dX6_spread_12 : decode cX6_spread 12 = .ok (.invokevirtual 127, 3) := by decide +kernel
theorem dX6_spread_15 : decode cX6_spread 15 = .ok (.aload_n 0, 1) := by decide +kernel
theorem dX6_spread_16 : decode cX6_spread 16 = .ok (.getfield 37, 3) := by decide +kernel
theorem dX6_spread_19 : decode cX6_spread 19 = .ok (.iload_n 1, 1) := by decide +kernel
theorem dX6_spread_20 : decode cX6_spread 20 = .ok (.iload_n 2, 1) := by decide +kernel
theorem dX6_spread_21 : decode cX6_spread 21 = .ok (.invokevirtual 130, 3) := by decide +kernel
theorem dX6_spread_24 : decode cX6_spread 24 = .ok (.iload_n 2, 1) := by decide +kernel
theorem dX6_spread_25 : decode cX6_spread 25 = .ok (.ifCond .ne 7, 3) := by decide +kernel
theorem dX6_spread_28 : decode cX6_spread 28 = .ok (.iconst 1, 1) := by decide +kernel
theorem dX6_spread_29 : decode cX6_spread 29 = .ok (.goto 4, 3) := by decide +kernel
theorem dX6_spread_32 : decode cX6_spread 32 = .ok (.iconst 0, 1) := by decide +kernel
theorem dX6_spread_33 : decode cX6_spread 33 = .ok (.isub, 1) := by decide +kernel
theorem dX6_spread_34 : decode cX6_spread 34 = .ok (.istore_n 3, 1) := by decide +kernel
theorem dX6_spread_35 : decode cX6_spread 35 = .ok (.iconst 1, 1) := by decide +kernel
theorem dX6_spread_36 : decode cX6_spread 36 = .ok (.istore 4, 2) := by decide +kernel
theorem dX6_spread_38 : decode cX6_spread 38 = .ok (.iload 4, 2) := by decide +kernel
theorem dX6_spread_40 : decode cX6_spread 40 = .ok (.iload_n 3, 1) := by decide +kernel
theorem dX6_spread_41 : decode cX6_spread 41 = .ok (.if_icmp .gt 59, 3) := by decide +kernel
theorem dX6_spread_44 : decode cX6_spread 44 = .ok (.aload_n 0, 1) := by decide +kernel
theorem dX6_spread_45 : decode cX6_spread 45 = .ok (.getfield 37, 3) := by decide +kernel
theorem dX6_spread_48 : decode cX6_spread 48 = .ok (.iload_n 1, 1) := by decide +kernel
theorem dX6_spread_49 : decode cX6_spread 49 = .ok (.iload_n 2, 1) := by decide +kernel
theorem dX6_spread_50 : decode cX6_spread 50 = .ok (.iload 4, 2) := by decide +kernel
theorem dX6_spread_52 : decode cX6_spread 52 = .ok (.invokevirtual 140, 3) := by decide +kernel
theorem dX6_spread_55 : decode cX6_spread 55 = .ok (.istore 5, 2) := by decide +kernel
theorem dX6_spread_57 : decode cX6_spread 57 = .ok (.aload_n 0, 1) := by decide +kernel
theorem dX6_spread_58 : decode cX6_spread 58 = .ok (.getfield 17, 3) := by decide +kernel
theorem dX6_spread_61 : decode cX6_spread 61 = .ok (.iload 5, 2) := by decide +kernel
theorem dX6_spread_63 : decode cX6_spread 63 = .ok (.dup2, 1) := by decide +kernel
theorem dX6_spread_64 : decode cX6_spread 64 = .ok (.laload, 1) := by decide +kernel
theorem dX6_spread_65 : decode cX6_spread 65 = .ok (.aload_n 0, 1) := by decide +kernel
theorem dX6_spread_66 : decode cX6_spread 66 = .ok (.getfield 37, 3) := by decide +kernel
theorem dX6_spread_69 : decode cX6_spread 69 = .ok (.iload 4, 2) := by decide +kernel
theorem dX6_spread_71 : decode cX6_spread 71 = .ok (.aload_n 0, 1) := by decide +kernel
theorem dX6_spread_72 : decode cX6_spread 72 = .ok (.getfield 17, 3) := by decide +kernel
theorem dX6_spread_75 : decode cX6_spread 75 = .ok (.iload_n 1, 1) := by decide +kernel
theorem dX6_spread_76 : decode cX6_spread 76 = .ok (.laload, 1) := by decide +kernel
theorem dX6_spread_77 : decode cX6_spread 77 = .ok (.aload_n 0, 1) := by decide +kernel
theorem dX6_spread_78 : decode cX6_spread 78 = .ok (.getfield 17, 3) := by decide +kernel
theorem dX6_spread_81 : decode cX6_spread 81 = .ok (.iload 5, 2) := by decide +kernel
theorem dX6_spread_83 : decode cX6_spread 83 = .ok (.laload, 1) := by decide +kernel
theorem dX6_spread_84 : decode cX6_spread 84 = .ok (.ldc2_w 74, 3) := by decide +kernel
theorem dX6_spread_87 : decode cX6_spread 87 = .ok (.lxor, 1) := by decide +kernel
theorem dX6_spread_88 : decode cX6_spread 88 = .ok (.land, 1) := by decide +kernel
theorem dX6_spread_89 : decode cX6_spread 89 = .ok (.invokevirtual 134, 3) := by decide +kernel
theorem dX6_spread_92 : decode cX6_spread 92 = .ok (.lor, 1) := by decide +kernel
theorem dX6_spread_93 : decode cX6_spread 93 = .ok (.lastore, 1) := by decide +kernel
theorem dX6_spread_94 : decode cX6_spread 94 = .ok (.iinc 4 1, 3) := by decide +kernel
theorem dX6_spread_97 : decode cX6_spread 97 = .ok (.goto (-59), 3) := by decide +kernel
theorem dX6_spread_100 : decode cX6_spread 100 = .ok (.iinc 2 1, 3) := by decide +kernel
theorem dX6_spread_103 : decode cX6_spread 103 = .ok (.goto (-101), 3) := by decide +kernel
theorem dX6_spread_106 : decode cX6_spread 106 = .ok (.return_, 1) := by decide +kernel
theorem dX6_leastOf_0 : decode cX6_leastOf 0 = .ok (.iconst (-1), 1) := by decide +kernel
theorem dX6_leastOf_1 : decode cX6_leastOf 1 = .ok (.istore_n 2, 1) := by decide +kernel
theorem dX6_leastOf_2 : decode cX6_leastOf 2 = .ok (.iconst 0, 1) := by decide +kernel
theorem dX6_leastOf_3 : decode cX6_leastOf 3 = .ok (.istore_n 3, 1) := by decide +kernel
theorem dX6_leastOf_4 : decode cX6_leastOf 4 = .ok (.iload_n 3, 1) := by decide +kernel
theorem dX6_leastOf_5 : decode cX6_leastOf 5 = .ok (.bipush 64, 2) := by decide +kernel
theorem dX6_leastOf_7 : decode cX6_leastOf 7 = .ok (.if_icmp .ge 49, 3) := by decide +kernel
theorem dX6_leastOf_10 : decode cX6_leastOf 10 = .ok (.lload_n 0, 1) := by decide +kernel
theorem dX6_leastOf_11 : decode cX6_leastOf 11 = .ok (.iload_n 3, 1) := by decide +kernel
theorem dX6_leastOf_12 : decode cX6_leastOf 12 = .ok (.lushr, 1) := by decide +kernel
theorem dX6_leastOf_13 : decode cX6_leastOf 13 = .ok (.lconst 1, 1) := by decide +kernel
theorem dX6_leastOf_14 : decode cX6_leastOf 14 = .ok (.land, 1) := by decide +kernel
theorem dX6_leastOf_15 : decode cX6_leastOf 15 = .ok (.lconst 0, 1) := by decide +kernel
theorem dX6_leastOf_16 : decode cX6_leastOf 16 = .ok (.lcmp, 1) := by decide +kernel
theorem dX6_leastOf_17 : decode cX6_leastOf 17 = .ok (.ifCond .eq 7, 3) := by decide +kernel
theorem dX6_leastOf_20 : decode cX6_leastOf 20 = .ok (.iconst 1, 1) := by decide +kernel
theorem dX6_leastOf_21 : decode cX6_leastOf 21 = .ok (.goto 4, 3) := by decide +kernel
theorem dX6_leastOf_24 : decode cX6_leastOf 24 = .ok (.iconst 0, 1) := by decide +kernel
theorem dX6_leastOf_25 : decode cX6_leastOf 25 = .ok (.istore 4, 2) := by decide +kernel
theorem dX6_leastOf_27 : decode cX6_leastOf 27 = .ok (.iload 4, 2) := by decide +kernel
theorem dX6_leastOf_29 : decode cX6_leastOf 29 = .ok (.ifCond .eq 21, 3) := by decide +kernel
theorem dX6_leastOf_32 : decode cX6_leastOf 32 = .ok (.iload_n 2, 1) := by decide +kernel
theorem dX6_leastOf_33 : decode cX6_leastOf 33 = .ok (.iconst (-1), 1) := by decide +kernel
theorem dX6_leastOf_34 : decode cX6_leastOf 34 = .ok (.if_icmp .eq 14, 3) := by decide +kernel
theorem dX6_leastOf_37 : decode cX6_leastOf 37 = .ok (.iload_n 3, 1) := by decide +kernel
theorem dX6_leastOf_38 : decode cX6_leastOf 38 = .ok (.invokestatic 144, 3) := by decide +kernel
theorem dX6_leastOf_41 : decode cX6_leastOf 41 = .ok (.iload_n 2, 1) := by decide +kernel
theorem dX6_leastOf_42 : decode cX6_leastOf 42 = .ok (.invokestatic 144, 3) := by decide +kernel
theorem dX6_leastOf_45 : decode cX6_leastOf 45 = .ok (.if_icmp .ge 5, 3) := by decide +kernel
theorem dX6_leastOf_48 : decode cX6_leastOf 48 = .ok (.iload_n 3, 1) := by decide +kernel
theorem dX6_leastOf_49 : decode cX6_leastOf 49 = .ok (.istore_n 2, 1) := by decide +kernel
theorem dX6_leastOf_50 : decode cX6_leastOf 50 = .ok (.iinc 3 1, 3) := by decide +kernel
theorem dX6_leastOf_53 : decode cX6_leastOf 53 = .ok (.goto (-49), 3) := by decide +kernel
theorem dX6_leastOf_56 : decode cX6_leastOf 56 = .ok (.iload_n 2, 1) := by decide +kernel
theorem dX6_leastOf_57 : decode cX6_leastOf 57 = .ok (.ireturn, 1) := by decide +kernel
theorem dX7_init_0 : decode cX7_init 0 = .ok (.aload_n 0, 1) := by decide +kernel
theorem dX7_init_1 : decode cX7_init 1 = .ok (.invokespecial 3, 3) := by decide +kernel
theorem dX7_init_4 : decode cX7_init 4 = .ok (.aload_n 0, 1) := by decide +kernel
theorem dX7_init_5 : decode cX7_init 5 = .ok (.new 9, 3) := by decide +kernel
theorem dX7_init_8 : decode cX7_init 8 = .ok (.dup, 1) := by decide +kernel
theorem dX7_init_9 : decode cX7_init 9 = .ok (.invokespecial 11, 3) := by decide +kernel
theorem dX7_init_12 : decode cX7_init 12 = .ok (.putfield 12, 3) := by decide +kernel
theorem dX7_init_15 : decode cX7_init 15 = .ok (.aload_n 0, 1) := by decide +kernel
theorem dX7_init_16 : decode cX7_init 16 = .ok (.bipush 16, 2) := by decide +kernel
theorem dX7_init_18 : decode cX7_init 18 = .ok (.newarray .int, 2) := by decide +kernel
theorem dX7_init_20 : decode cX7_init 20 = .ok (.putfield 18, 3) := by decide +kernel
theorem dX7_init_23 : decode cX7_init 23 = .ok (.aload_n 0, 1) := by decide +kernel
theorem dX7_init_24 : decode cX7_init 24 = .ok (.bipush 16, 2) := by decide +kernel
theorem dX7_init_26 : decode cX7_init 26 = .ok (.newarray .int, 2) := by decide +kernel
theorem dX7_init_28 : decode cX7_init 28 = .ok (.putfield 22, 3) := by decide +kernel
theorem dX7_init_31 : decode cX7_init 31 = .ok (.aload_n 0, 1) := by decide +kernel
theorem dX7_init_32 : decode cX7_init 32 = .ok (.bipush 16, 2) := by decide +kernel
theorem dX7_init_34 : decode cX7_init 34 = .ok (.newarray .int, 2) := by decide +kernel
theorem dX7_init_36 : decode cX7_init 36 = .ok (.putfield 25, 3) := by decide +kernel
theorem dX7_init_39 : decode cX7_init 39 = .ok (.aload_n 0, 1) := by decide +kernel
theorem dX7_init_40 : decode cX7_init 40 = .ok (.bipush 19, 2) := by decide +kernel
theorem dX7_init_42 : decode cX7_init 42 = .ok (.newarray .int, 2) := by decide +kernel
theorem dX7_init_44 : decode cX7_init 44 = .ok (.putfield 28, 3) := by decide +kernel
theorem dX7_init_47 : decode cX7_init 47 = .ok (.return_, 1) := by decide +kernel
theorem dX7_begin_0 : decode cX7_begin 0 = .ok (.aload_n 0, 1) := by decide +kernel
theorem dX7_begin_1 : decode cX7_begin 1 = .ok (.getfield 12, 3) := by decide +kernel
theorem dX7_begin_4 : decode cX7_begin 4 = .ok (.aload_n 2, 1) := by decide +kernel
theorem dX7_begin_5 : decode cX7_begin 5 = .ok (.invokevirtual 31, 3) := by decide +kernel
theorem dX7_begin_8 : decode cX7_begin 8 = .ok (.aload_n 0, 1) := by decide +kernel
theorem dX7_begin_9 : decode cX7_begin 9 = .ok (.iload_n 3, 1) := by decide +kernel
theorem dX7_begin_10 : decode cX7_begin 10 = .ok (.putfield 35, 3) := by decide +kernel
theorem dX7_begin_13 : decode cX7_begin 13 = .ok (.aload_n 0, 1) := by decide +kernel
theorem dX7_begin_14 : decode cX7_begin 14 = .ok (.aload_n 1, 1) := by decide +kernel
theorem dX7_begin_15 : decode cX7_begin 15 = .ok (.getfield 39, 3) := by decide +kernel
theorem dX7_begin_18 : decode cX7_begin 18 = .ok (.putfield 45, 3) := by decide +kernel
theorem dX7_begin_21 : decode cX7_begin 21 = .ok (.aload_n 0, 1) := by decide +kernel
theorem dX7_begin_22 : decode cX7_begin 22 = .ok (.aload_n 1, 1) := by decide +kernel
theorem dX7_begin_23 : decode cX7_begin 23 = .ok (.aload_n 2, 1) := by decide +kernel
theorem dX7_begin_24 : decode cX7_begin 24 = .ok (.getfield 46, 3) := by decide +kernel
theorem dX7_begin_27 : decode cX7_begin 27 = .ok (.invokevirtual 49, 3) := by decide +kernel
theorem dX7_begin_30 : decode cX7_begin 30 = .ok (.putfield 53, 3) := by decide +kernel
theorem dX7_begin_33 : decode cX7_begin 33 = .ok (.aload_n 0, 1) := by decide +kernel
theorem dX7_begin_34 : decode cX7_begin 34 = .ok (.aload_n 1, 1) := by decide +kernel
theorem dX7_begin_35 : decode cX7_begin 35 = .ok (.getfield 56, 3) := by decide +kernel
theorem dX7_begin_38 : decode cX7_begin 38 = .ok (.getfield 60, 3) := by decide +kernel
theorem dX7_begin_41 : decode cX7_begin 41 = .ok (.putfield 65, 3) := by decide +kernel
theorem dX7_begin_44 : decode cX7_begin 44 = .ok (.iconst 0, 1) := by decide +kernel
theorem dX7_begin_45 : decode cX7_begin 45 = .ok (.istore 4, 2) := by decide +kernel
theorem dX7_begin_47 : decode cX7_begin 47 = .ok (.iload 4, 2) := by decide +kernel
theorem dX7_begin_49 : decode cX7_begin 49 = .ok (.bipush 16, 2) := by decide +kernel
theorem dX7_begin_51 : decode cX7_begin 51 = .ok (.if_icmp .ge 44, 3) := by decide +kernel
theorem dX7_begin_54 : decode cX7_begin 54 = .ok (.aload_n 0, 1) := by decide +kernel
theorem dX7_begin_55 : decode cX7_begin 55 = .ok (.getfield 28, 3) := by decide +kernel
theorem dX7_begin_58 : decode cX7_begin 58 = .ok (.iload 4, 2) := by decide +kernel
theorem dX7_begin_60 : decode cX7_begin 60 = .ok (.iconst (-1), 1) := by decide +kernel
theorem dX7_begin_61 : decode cX7_begin 61 = .ok (.iastore, 1) := by decide +kernel
theorem dX7_begin_62 : decode cX7_begin 62 = .ok (.aload_n 0, 1) := by decide +kernel
theorem dX7_begin_63 : decode cX7_begin 63 = .ok (.getfield 18, 3) := by decide +kernel
theorem dX7_begin_66 : decode cX7_begin 66 = .ok (.iload 4, 2) := by decide +kernel
theorem dX7_begin_68 : decode cX7_begin 68 = .ok (.iconst (-1), 1) := by decide +kernel
theorem dX7_begin_69 : decode cX7_begin 69 = .ok (.iastore, 1) := by decide +kernel
theorem dX7_begin_70 : decode cX7_begin 70 = .ok (.aload_n 1, 1) := by decide +kernel
theorem dX7_begin_71 : decode cX7_begin 71 = .ok (.getfield 68, 3) := by decide +kernel
theorem dX7_begin_74 : decode cX7_begin 74 = .ok (.iload 4, 2) := by decide +kernel
theorem dX7_begin_76 : decode cX7_begin 76 = .ok (.ishr, 1) := by decide +kernel
theorem dX7_begin_77 : decode cX7_begin 77 = .ok (.iconst 1, 1) := by decide +kernel
theorem dX7_begin_78 : decode cX7_begin 78 = .ok (.iand, 1) := by decide +kernel
theorem dX7_begin_79 : decode cX7_begin 79 = .ok (.ifCond .eq 10, 3) := by decide +kernel
theorem dX7_begin_82 : decode cX7_begin 82 = .ok (.aload_n 0, 1) := by decide +kernel
theorem dX7_begin_83 : decode cX7_begin 83 = .ok (.aload_n 1, 1) := by decide +kernel
theorem dX7_begin_84 : decode cX7_begin 84 = .ok (.iload 4, 2) := by decide +kernel
theorem dX7_begin_86 : decode cX7_begin 86 = .ok (.invokevirtual 71, 3) := by decide +kernel
theorem dX7_begin_89 : decode cX7_begin 89 = .ok (.iinc 4 1, 3) := by decide +kernel
theorem dX7_begin_92 : decode cX7_begin 92 = .ok (.goto (-45), 3) := by decide +kernel
theorem dX7_begin_95 : decode cX7_begin 95 = .ok (.aload_n 0, 1) := by decide +kernel
theorem dX7_begin_96 : decode cX7_begin 96 = .ok (.getfield 28, 3) := by decide +kernel
theorem dX7_begin_99 : decode cX7_begin 99 = .ok (.bipush 16, 2) := by decide +kernel
theorem dX7_begin_101 : decode cX7_begin 101 = .ok (.iconst 0, 1) := by decide +kernel
theorem dX7_begin_102 : decode cX7_begin 102 = .ok (.iastore, 1) := by decide +kernel
theorem dX7_begin_103 : decode cX7_begin 103 = .ok (.aload_n 0, 1) := by decide +kernel
theorem dX7_begin_104 : decode cX7_begin 104 = .ok (.getfield 28, 3) := by decide +kernel
theorem dX7_begin_107 : decode cX7_begin 107 = .ok (.bipush 17, 2) := by decide +kernel
theorem dX7_begin_109 : decode cX7_begin 109 = .ok (.iconst (-1), 1) := by decide +kernel
theorem dX7_begin_110 : decode cX7_begin 110 = .ok (.iastore, 1) := by decide +kernel
theorem dX7_begin_111 : decode cX7_begin 111 = .ok (.aload_n 0, 1) := by decide +kernel
theorem dX7_begin_112 : decode cX7_begin 112 = .ok (.getfield 28, 3) := by decide +kernel
theorem dX7_begin_115 : decode cX7_begin 115 = .ok (.bipush 18, 2) := by decide +kernel
theorem dX7_begin_117 : decode cX7_begin 117 = .ok (.aload_n 2, 1) := by decide +kernel
theorem dX7_begin_118 : decode cX7_begin 118 = .ok (.getfield 75, 3) := by decide +kernel
theorem dX7_begin_121 : decode cX7_begin 121 = .ok (.iastore, 1) := by decide +kernel
theorem dX7_begin_122 : decode cX7_begin 122 = .ok (.return_, 1) := by decide +kernel
theorem dX7_keepComer_0 : decode cX7_keepComer 0 = .ok (.aload_n 1, 1) := by decide +kernel
theorem dX7_keepComer_1 : decode cX7_keepComer 1 = .ok (.getfield 78, 3) := by decide +kernel
theorem dX7_keepComer_4 : decode cX7_keepComer 4 = .ok (.iload_n 2, 1) := by decide +kernel
theorem dX7_keepComer_5 : decode cX7_keepComer 5 = .ok (.iaload, 1) := by decide +kernel
theorem dX7_keepComer_6 : decode cX7_keepComer 6 = .ok (.istore_n 3, 1) := by decide +kernel
theorem dX7_keepComer_7 : decode cX7_keepComer 7 = .ok (.aload_n 1, 1) := by decide +kernel
theorem dX7_keepComer_8 : decode cX7_keepComer 8 = .ok (.getfield 56, 3) := by decide +kernel
theorem dX7_keepComer_11 : decode cX7_keepComer 11 = .ok (.getfield 81, 3) := by decide +kernel
theorem dX7_keepComer_14 : decode cX7_keepComer 14 = .ok (.iload_n 3, 1) := by decide +kernel
theorem dX7_keepComer_15 : decode cX7_keepComer 15 = .ok (.iaload, 1) := by decide +kernel
theorem dX7_keepComer_16 : decode cX7_keepComer 16 = .ok (.istore 4, 2) := by decide +kernel
theorem dX7_keepComer_18 : decode cX7_keepComer 18 = .ok (.aload_n 0, 1) := by decide +kernel
theorem dX7_keepComer_19 : decode cX7_keepComer 19 = .ok (.getfield 18, 3) := by decide +kernel
theorem dX7_keepComer_22 : decode cX7_keepComer 22 = .ok (.iload_n 2, 1) := by decide +kernel
theorem dX7_keepComer_23 : decode cX7_keepComer 23 = .ok (.aload_n 1, 1) := by decide +kernel
theorem dX7_keepComer_24 : decode cX7_keepComer 24 = .ok (.getfield 56, 3) := by decide +kernel
theorem dX7_keepComer_27 : decode cX7_keepComer 27 = .ok (.getfield 84, 3) := by decide +kernel
theorem dX7_keepComer_30 : decode cX7_keepComer 30 = .ok (.iload_n 3, 1) := by decide +kernel
theorem dX7_keepComer_31 : decode cX7_keepComer 31 = .ok (.iaload, 1) := by decide +kernel
theorem dX7_keepComer_32 : decode cX7_keepComer 32 = .ok (.iastore, 1) := by decide +kernel
theorem dX7_keepComer_33 : decode cX7_keepComer 33 = .ok (.aload_n 0, 1) := by decide +kernel
theorem dX7_keepComer_34 : decode cX7_keepComer 34 = .ok (.getfield 22, 3) := by decide +kernel
theorem dX7_keepComer_37 : decode cX7_keepComer 37 = .ok (.iload_n 2, 1) := by decide +kernel
theorem dX7_keepComer_38 : decode cX7_keepComer 38 = .ok (.aload_n 1, 1) := by decide +kernel
theorem dX7_keepComer_39 : decode cX7_keepComer 39 = .ok (.getfield 56, 3) := by decide +kernel
theorem dX7_keepComer_42 : decode cX7_keepComer 42 = .ok (.getfield 85, 3) := by decide +kernel
theorem dX7_keepComer_45 : decode cX7_keepComer 45 = .ok (.iload_n 3, 1) := by decide +kernel
theorem dX7_keepComer_46 : decode cX7_keepComer 46 = .ok (.iaload, 1) := by decide +kernel
theorem dX7_keepComer_47 : decode cX7_keepComer 47 = .ok (.iastore, 1) := by decide +kernel
theorem dX7_keepComer_48 : decode cX7_keepComer 48 = .ok (.aload_n 0, 1) := by decide +kernel
theorem dX7_keepComer_49 : decode cX7_keepComer 49 = .ok (.getfield 25, 3) := by decide +kernel
theorem dX7_keepComer_52 : decode cX7_keepComer 52 = .ok (.iload_n 2, 1) := by decide +kernel
theorem dX7_keepComer_53 : decode cX7_keepComer 53 = .ok (.aload_n 1, 1) := by decide +kernel
theorem dX7_keepComer_54 : decode cX7_keepComer 54 = .ok (.getfield 56, 3) := by decide +kernel
theorem dX7_keepComer_57 : decode cX7_keepComer 57 = .ok (.getfield 86, 3) := by decide +kernel
theorem dX7_keepComer_60 : decode cX7_keepComer 60 = .ok (.ifCond .eq 27, 3) := by decide +kernel
theorem dX7_keepComer_63 : decode cX7_keepComer 63 = .ok (.aload_n 1, 1) := by decide +kernel
theorem dX7_keepComer_64 : decode cX7_keepComer 64 = .ok (.getfield 89, 3) := by decide +kernel
theorem dX7_keepComer_67 : decode cX7_keepComer 67 = .ok (.iload 4, 2) := by decide +kernel
theorem dX7_keepComer_69 : decode cX7_keepComer 69 = .ok (.aload_n 1, 1) := by decide +kernel
theorem dX7_keepComer_70 : decode cX7_keepComer 70 = .ok (.getfield 93, 3) := by decide +kernel
theorem dX7_keepComer_73 : decode cX7_keepComer 73 = .ok (.aload_n 0, 1) := by decide +kernel
theorem dX7_keepComer_74 : decode cX7_keepComer 74 = .ok (.getfield 12, 3) := by decide +kernel
theorem dX7_keepComer_77 : decode cX7_keepComer 77 = .ok (.getfield 97, 3) := by decide +kernel
theorem dX7_keepComer_80 : decode cX7_keepComer 80 = .ok (.iload_n 2, 1) := by decide +kernel
theorem dX7_keepComer_81 : decode cX7_keepComer 81 = .ok (.invokevirtual 100, 3) := by decide +kernel
theorem dX7_keepComer_84 : decode cX7_keepComer 84 = .ok (.goto 4, 3) := by decide +kernel
theorem dX7_keepComer_87 : decode cX7_keepComer 87 = .ok (.iconst 1, 1) := by decide +kernel
theorem dX7_keepComer_88 : decode cX7_keepComer 88 = .ok (.iastore, 1) := by decide +kernel
theorem dX7_keepComer_89 : decode cX7_keepComer 89 = .ok (.return_, 1) := by decide +kernel
theorem dX7_tells_0 : decode cX7_tells 0 = .ok (.iload_n 1, 1) := by decide +kernel
theorem dX7_tells_1 : decode cX7_tells 1 = .ok (.tableswitch 146 0 10 #[59, 67, 75, 83, 91, 99, 107, 115, 120, 133, 138], 59) := by decide +kernel
theorem dX7_tells_60 : decode cX7_tells 60 = .ok (.aload_n 0, 1) := by decide +kernel
theorem dX7_tells_61 : decode cX7_tells 61 = .ok (.getfield 12, 3) := by decide +kernel
theorem dX7_tells_64 : decode cX7_tells 64 = .ok (.getfield 97, 3) := by decide +kernel
theorem dX7_tells_67 : decode cX7_tells 67 = .ok (.ireturn, 1) := by decide +kernel
theorem dX7_tells_68 : decode cX7_tells 68 = .ok (.aload_n 0, 1) := by decide +kernel
theorem dX7_tells_69 : decode cX7_tells 69 = .ok (.getfield 12, 3) := by decide +kernel
theorem dX7_tells_72 : decode cX7_tells 72 = .ok (.getfield 106, 3) := by decide +kernel
theorem dX7_tells_75 : decode cX7_tells 75 = .ok (.ireturn, 1) := by decide +kernel
theorem dX7_tells_76 : decode cX7_tells 76 = .ok (.aload_n 0, 1) := by decide +kernel
theorem dX7_tells_77 : decode cX7_tells 77 = .ok (.getfield 12, 3) := by decide +kernel
theorem dX7_tells_80 : decode cX7_tells 80 = .ok (.getfield 46, 3) := by decide +kernel
theorem dX7_tells_83 : decode cX7_tells 83 = .ok (.ireturn, 1) := by decide +kernel
theorem dX7_tells_84 : decode cX7_tells 84 = .ok (.aload_n 0, 1) := by decide +kernel
theorem dX7_tells_85 : decode cX7_tells 85 = .ok (.getfield 12, 3) := by decide +kernel
theorem dX7_tells_88 : decode cX7_tells 88 = .ok (.getfield 109, 3) := by decide +kernel
theorem dX7_tells_91 : decode cX7_tells 91 = .ok (.ireturn, 1) := by decide +kernel
theorem dX7_tells_92 : decode cX7_tells 92 = .ok (.aload_n 0, 1) := by decide +kernel
theorem dX7_tells_93 : decode cX7_tells 93 = .ok (.getfield 12, 3) := by decide +kernel
theorem dX7_tells_96 : decode cX7_tells 96 = .ok (.getfield 112, 3) := by decide +kernel
theorem dX7_tells_99 : decode cX7_tells 99 = .ok (.ireturn, 1) := by decide +kernel
theorem dX7_tells_100 : decode cX7_tells 100 = .ok (.aload_n 0, 1) := by decide +kernel
theorem dX7_tells_101 : decode cX7_tells 101 = .ok (.getfield 12, 3) := by decide +kernel
theorem dX7_tells_104 : decode cX7_tells 104 = .ok (.getfield 115, 3) := by decide +kernel
theorem dX7_tells_107 : decode cX7_tells 107 = .ok (.ireturn, 1) := by decide +kernel
theorem dX7_tells_108 : decode cX7_tells 108 = .ok (.aload_n 0, 1) := by decide +kernel
theorem dX7_tells_109 : decode cX7_tells 109 = .ok (.getfield 28, 3) := by decide +kernel
theorem dX7_tells_112 : decode cX7_tells 112 = .ok (.bipush 18, 2) := by decide +kernel
theorem dX7_tells_114 : decode cX7_tells 114 = .ok (.iaload, 1) := by decide +kernel
theorem dX7_tells_115 : decode cX7_tells 115 = .ok (.ireturn, 1) := by decide +kernel
theorem dX7_tells_116 : decode cX7_tells 116 = .ok (.aload_n 0, 1) := by decide +kernel
theorem dX7_tells_117 : decode cX7_tells 117 = .ok (.getfield 35, 3) := by decide +kernel
theorem dX7_tells_120 : decode cX7_tells 120 = .ok (.ireturn, 1) := by decide +kernel
theorem dX7_tells_121 : decode cX7_tells 121 = .ok (.aload_n 0, 1) := by decide +kernel
theorem dX7_tells_122 : decode cX7_tells 122 = .ok (.getfield 45, 3) := by decide +kernel
theorem dX7_tells_125 : decode cX7_tells 125 = .ok (.ifCond .eq 7, 3) := by decide +kernel
theorem dX7_tells_128 : decode cX7_tells 128 = .ok (.iconst 1, 1) := by decide +kernel
theorem dX7_tells_129 : decode cX7_tells 129 = .ok (.goto 4, 3) := by decide +kernel
theorem dX7_tells_132 : decode cX7_tells 132 = .ok (.iconst 0, 1) := by decide +kernel
theorem dX7_tells_133 : decode cX7_tells 133 = .ok (.ireturn, 1) := by decide +kernel
theorem dX7_tells_134 : decode cX7_tells 134 = .ok (.aload_n 0, 1) := by decide +kernel
theorem dX7_tells_135 : decode cX7_tells 135 = .ok (.getfield 53, 3) := by decide +kernel
theorem dX7_tells_138 : decode cX7_tells 138 = .ok (.ireturn, 1) := by decide +kernel
theorem dX7_tells_139 : decode cX7_tells 139 = .ok (.aload_n 0, 1) := by decide +kernel
theorem dX7_tells_140 : decode cX7_tells 140 = .ok (.getfield 28, 3) := by decide +kernel
theorem dX7_tells_143 : decode cX7_tells 143 = .ok (.bipush 17, 2) := by decide +kernel
theorem dX7_tells_145 : decode cX7_tells 145 = .ok (.iaload, 1) := by decide +kernel
theorem dX7_tells_146 : decode cX7_tells 146 = .ok (.ireturn, 1) := by decide +kernel
theorem dX7_tells_147 : decode cX7_tells 147 = .ok (.aload_n 0, 1) := by decide +kernel
theorem dX7_tells_148 : decode cX7_tells 148 = .ok (.invokevirtual 118, 3) := by decide +kernel
theorem dX7_tells_151 : decode cX7_tells 151 = .ok (.ireturn, 1) := by decide +kernel
theorem dX7_priceAsked_0 : decode cX7_priceAsked 0 = .ok (.aload_n 0, 1) := by decide +kernel
theorem dX7_priceAsked_1 : decode cX7_priceAsked 1 = .ok (.getfield 65, 3) := by decide +kernel
theorem dX7_priceAsked_4 : decode cX7_priceAsked 4 = .ok (.ifCond .eq 13, 3) := by decide +kernel
theorem dX7_priceAsked_7 : decode cX7_priceAsked 7 = .ok (.aload_n 0, 1) := by decide +kernel
theorem dX7_priceAsked_8 : decode cX7_priceAsked 8 = .ok (.getfield 28, 3) := by decide +kernel
theorem dX7_priceAsked_11 : decode cX7_priceAsked 11 = .ok (.bipush 18, 2) := by decide +kernel
theorem dX7_priceAsked_13 : decode cX7_priceAsked 13 = .ok (.iaload, 1) := by decide +kernel
theorem dX7_priceAsked_14 : decode cX7_priceAsked 14 = .ok (.goto 10, 3) := by decide +kernel
theorem dX7_priceAsked_17 : decode cX7_priceAsked 17 = .ok (.aload_n 0, 1) := by decide +kernel
theorem dX7_priceAsked_18 : decode cX7_priceAsked 18 = .ok (.getfield 12, 3) := by decide +kernel
theorem dX7_priceAsked_21 : decode cX7_priceAsked 21 = .ok (.getfield 115, 3) := by decide +kernel
theorem dX7_priceAsked_24 : decode cX7_priceAsked 24 = .ok (.ireturn, 1) := by decide +kernel
theorem dX7_isWaived_0 : decode cX7_isWaived 0 = .ok (.aload_n 0, 1) := by decide +kernel
theorem dX7_isWaived_1 : decode cX7_isWaived 1 = .ok (.getfield 28, 3) := by decide +kernel
theorem dX7_isWaived_4 : decode cX7_isWaived 4 = .ok (.bipush 16, 2) := by decide +kernel
theorem dX7_isWaived_6 : decode cX7_isWaived 6 = .ok (.iaload, 1) := by decide +kernel
theorem dX7_isWaived_7 : decode cX7_isWaived 7 = .ok (.iload_n 1, 1) := by decide +kernel
theorem dX7_isWaived_8 : decode cX7_isWaived 8 = .ok (.ishr, 1) := by decide +kernel
theorem dX7_isWaived_9 : decode cX7_isWaived 9 = .ok (.iconst 1, 1) := by decide +kernel
theorem dX7_isWaived_10 : decode cX7_isWaived 10 = .ok (.iand, 1) := by decide +kernel
theorem dX7_isWaived_11 : decode cX7_isWaived 11 = .ok (.ifCond .eq 7, 3) := by decide +kernel
theorem dX7_isWaived_14 : decode cX7_isWaived 14 = .ok (.iconst 1, 1) := by decide +kernel
theorem dX7_isWaived_15 : decode cX7_isWaived 15 = .ok (.goto 4, 3) := by decide +kernel
theorem dX7_isWaived_18 : decode cX7_isWaived 18 = .ok (.iconst 0, 1) := by decide +kernel
theorem dX7_isWaived_19 : decode cX7_isWaived 19 = .ok (.ireturn, 1) := by decide +kernel
theorem dX7_isTaken_0 : decode cX7_isTaken 0 = .ok (.aload_n 0, 1) := by decide +kernel
theorem dX7_isTaken_1 : decode cX7_isTaken 1 = .ok (.getfield 28, 3) := by decide +kernel
theorem dX7_isTaken_4 : decode cX7_isTaken 4 = .ok (.bipush 17, 2) := by decide +kernel
theorem dX7_isTaken_6 : decode cX7_isTaken 6 = .ok (.iaload, 1) := by decide +kernel
theorem dX7_isTaken_7 : decode cX7_isTaken 7 = .ok (.iconst (-1), 1) := by decide +kernel
