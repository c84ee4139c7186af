theorem dX0_init_0 : decode cX0_init 0 = .ok (.aload_n 0, 1) := by decide +kernel
theorem dX0_init_1 : decode cX0_init 1 = .ok (.invokespecial 3, 3) := by decide +kernel
theorem dX0_init_4 : decode cX0_init 4 = .ok (.aload_n 0, 1) := by decide +kernel
theorem dX0_init_5 : decode cX0_init 5 = .ok (.iconst 0, 1) := by decide +kernel
theorem dX0_init_6 : decode cX0_init 6 = .ok (.putfield 9, 3) := by decide +kernel
theorem dX0_init_9 : decode cX0_init 9 = .ok (.aload_n 0, 1) := by decide +kernel
theorem dX0_init_10 : decode cX0_init 10 = .ok (.bipush 6, 2) := by decide +kernel
theorem dX0_init_12 : decode cX0_init 12 = .ok (.newarray .int, 2) := by decide +kernel
theorem dX0_init_14 : decode cX0_init 14 = .ok (.putfield 15, 3) := by decide +kernel
theorem dX0_init_17 : decode cX0_init 17 = .ok (.aload_n 0, 1) := by decide +kernel
theorem dX0_init_18 : decode cX0_init 18 = .ok (.bipush 6, 2) := by decide +kernel
theorem dX0_init_20 : decode cX0_init 20 = .ok (.newarray .int, 2) := by decide +kernel
theorem dX0_init_22 : decode cX0_init 22 = .ok (.putfield 19, 3) := by decide +kernel
theorem dX0_init_25 : decode cX0_init 25 = .ok (.aload_n 0, 1) := by decide +kernel
theorem dX0_init_26 : decode cX0_init 26 = .ok (.bipush 6, 2) := by decide +kernel
theorem dX0_init_28 : decode cX0_init 28 = .ok (.newarray .int, 2) := by decide +kernel
theorem dX0_init_30 : decode cX0_init 30 = .ok (.putfield 22, 3) := by decide +kernel
theorem dX0_init_33 : decode cX0_init 33 = .ok (.aload_n 0, 1) := by decide +kernel
theorem dX0_init_34 : decode cX0_init 34 = .ok (.bipush 6, 2) := by decide +kernel
theorem dX0_init_36 : decode cX0_init 36 = .ok (.newarray .int, 2) := by decide +kernel
theorem dX0_init_38 : decode cX0_init 38 = .ok (.putfield 25, 3) := by decide +kernel
theorem dX0_init_41 : decode cX0_init 41 = .ok (.aload_n 0, 1) := by decide +kernel
theorem dX0_init_42 : decode cX0_init 42 = .ok (.bipush 6, 2) := by decide +kernel
theorem dX0_init_44 : decode cX0_init 44 = .ok (.newarray .int, 2) := by decide +kernel
theorem dX0_init_46 : decode cX0_init 46 = .ok (.putfield 28, 3) := by decide +kernel
theorem dX0_init_49 : decode cX0_init 49 = .ok (.aload_n 0, 1) := by decide +kernel
theorem dX0_init_50 : decode cX0_init 50 = .ok (.bipush 6, 2) := by decide +kernel
theorem dX0_init_52 : decode cX0_init 52 = .ok (.newarray .int, 2) := by decide +kernel
theorem dX0_init_54 : decode cX0_init 54 = .ok (.putfield 31, 3) := by decide +kernel
theorem dX0_init_57 : decode cX0_init 57 = .ok (.aload_n 0, 1) := by decide +kernel
theorem dX0_init_58 : decode cX0_init 58 = .ok (.iconst 0, 1) := by decide +kernel
theorem dX0_init_59 : decode cX0_init 59 = .ok (.putfield 34, 3) := by decide +kernel
theorem dX0_init_62 : decode cX0_init 62 = .ok (.aload_n 0, 1) := by decide +kernel
theorem dX0_init_63 : decode cX0_init 63 = .ok (.iconst 0, 1) := by decide +kernel
theorem dX0_init_64 : decode cX0_init 64 = .ok (.putfield 37, 3) := by decide +kernel
theorem dX0_init_67 : decode cX0_init 67 = .ok (.aload_n 0, 1) := by decide +kernel
theorem dX0_init_68 : decode cX0_init 68 = .ok (.bipush 48, 2) := by decide +kernel
theorem dX0_init_70 : decode cX0_init 70 = .ok (.newarray .int, 2) := by decide +kernel
theorem dX0_init_72 : decode cX0_init 72 = .ok (.putfield 40, 3) := by decide +kernel
theorem dX0_init_75 : decode cX0_init 75 = .ok (.return_, 1) := by decide +kernel
theorem dX0_makeEmpty_0 : decode cX0_makeEmpty 0 = .ok (.aload_n 0, 1) := by decide +kernel
theorem dX0_makeEmpty_1 : decode cX0_makeEmpty 1 = .ok (.iconst 0, 1) := by decide +kernel
theorem dX0_makeEmpty_2 : decode cX0_makeEmpty 2 = .ok (.putfield 9, 3) := by decide +kernel
theorem dX0_makeEmpty_5 : decode cX0_makeEmpty 5 = .ok (.aload_n 0, 1) := by decide +kernel
theorem dX0_makeEmpty_6 : decode cX0_makeEmpty 6 = .ok (.iconst 0, 1) := by decide +kernel
theorem dX0_makeEmpty_7 : decode cX0_makeEmpty 7 = .ok (.putfield 34, 3) := by decide +kernel
theorem dX0_makeEmpty_10 : decode cX0_makeEmpty 10 = .ok (.aload_n 0, 1) := by decide +kernel
theorem dX0_makeEmpty_11 : decode cX0_makeEmpty 11 = .ok (.iconst 0, 1) := by decide +kernel
theorem dX0_makeEmpty_12 : decode cX0_makeEmpty 12 = .ok (.putfield 37, 3) := by decide +kernel
theorem dX0_makeEmpty_15 : decode cX0_makeEmpty 15 = .ok (.return_, 1) := by decide +kernel
theorem dX0_becomeLike_0 : decode cX0_becomeLike 0 = .ok (.aload_n 0, 1) := by decide +kernel
theorem dX0_becomeLike_1 : decode cX0_becomeLike 1 = .ok (.aload_n 1, 1) := by decide +kernel
theorem dX0_becomeLike_2 : decode cX0_becomeLike 2 = .ok (.getfield 9, 3) := by decide +kernel
theorem dX0_becomeLike_5 : decode cX0_becomeLike 5 = .ok (.putfield 9, 3) := by decide +kernel
theorem dX0_becomeLike_8 : decode cX0_becomeLike 8 = .ok (.aload_n 1, 1) := by decide +kernel
theorem dX0_becomeLike_9 : decode cX0_becomeLike 9 = .ok (.getfield 15, 3) := by decide +kernel
theorem dX0_becomeLike_12 : decode cX0_becomeLike 12 = .ok (.aload_n 0, 1) := by decide +kernel
theorem dX0_becomeLike_13 : decode cX0_becomeLike 13 = .ok (.getfield 15, 3) := by decide +kernel
theorem dX0_becomeLike_16 : decode cX0_becomeLike 16 = .ok (.invokestatic 43, 3) := by decide +kernel
theorem dX0_becomeLike_19 : decode cX0_becomeLike 19 = .ok (.aload_n 1, 1) := by decide +kernel
theorem dX0_becomeLike_20 : decode cX0_becomeLike 20 = .ok (.getfield 19, 3) := by decide +kernel
theorem dX0_becomeLike_23 : decode cX0_becomeLike 23 = .ok (.aload_n 0, 1) := by decide +kernel
theorem dX0_becomeLike_24 : decode cX0_becomeLike 24 = .ok (.getfield 19, 3) := by decide +kernel
theorem dX0_becomeLike_27 : decode cX0_becomeLike 27 = .ok (.invokestatic 43, 3) := by decide +kernel
theorem dX0_becomeLike_30 : decode cX0_becomeLike 30 = .ok (.aload_n 1, 1) := by decide +kernel
theorem dX0_becomeLike_31 : decode cX0_becomeLike 31 = .ok (.getfield 22, 3) := by decide +kernel
theorem dX0_becomeLike_34 : decode cX0_becomeLike 34 = .ok (.aload_n 0, 1) := by decide +kernel
theorem dX0_becomeLike_35 : decode cX0_becomeLike 35 = .ok (.getfield 22, 3) := by decide +kernel
theorem dX0_becomeLike_38 : decode cX0_becomeLike 38 = .ok (.invokestatic 43, 3) := by decide +kernel
theorem dX0_becomeLike_41 : decode cX0_becomeLike 41 = .ok (.aload_n 1, 1) := by decide +kernel
theorem dX0_becomeLike_42 : decode cX0_becomeLike 42 = .ok (.getfield 25, 3) := by decide +kernel
theorem dX0_becomeLike_45 : decode cX0_becomeLike 45 = .ok (.aload_n 0, 1) := by decide +kernel
theorem dX0_becomeLike_46 : decode cX0_becomeLike 46 = .ok (.getfield 25, 3) := by decide +kernel
theorem dX0_becomeLike_49 : decode cX0_becomeLike 49 = .ok (.invokestatic 43, 3) := by decide +kernel
theorem dX0_becomeLike_52 : decode cX0_becomeLike 52 = .ok (.aload_n 1, 1) := by decide +kernel
theorem dX0_becomeLike_53 : decode cX0_becomeLike 53 = .ok (.getfield 28, 3) := by decide +kernel
theorem dX0_becomeLike_56 : decode cX0_becomeLike 56 = .ok (.aload_n 0, 1) := by decide +kernel
theorem dX0_becomeLike_57 : decode cX0_becomeLike 57 = .ok (.getfield 28, 3) := by decide +kernel
theorem dX0_becomeLike_60 : decode cX0_becomeLike 60 = .ok (.invokestatic 43, 3) := by decide +kernel
theorem dX0_becomeLike_63 : decode cX0_becomeLike 63 = .ok (.aload_n 0, 1) := by decide +kernel
theorem dX0_becomeLike_64 : decode cX0_becomeLike 64 = .ok (.aload_n 1, 1) := by decide +kernel
theorem dX0_becomeLike_65 : decode cX0_becomeLike 65 = .ok (.getfield 34, 3) := by decide +kernel
theorem dX0_becomeLike_68 : decode cX0_becomeLike 68 = .ok (.putfield 34, 3) := by decide +kernel
theorem dX0_becomeLike_71 : decode cX0_becomeLike 71 = .ok (.aload_n 0, 1) := by decide +kernel
theorem dX0_becomeLike_72 : decode cX0_becomeLike 72 = .ok (.aload_n 1, 1) := by decide +kernel
theorem dX0_becomeLike_73 : decode cX0_becomeLike 73 = .ok (.getfield 37, 3) := by decide +kernel
theorem dX0_becomeLike_76 : decode cX0_becomeLike 76 = .ok (.putfield 37, 3) := by decide +kernel
theorem dX0_becomeLike_79 : decode cX0_becomeLike 79 = .ok (.aload_n 1, 1) := by decide +kernel
theorem dX0_becomeLike_80 : decode cX0_becomeLike 80 = .ok (.getfield 40, 3) := by decide +kernel
theorem dX0_becomeLike_83 : decode cX0_becomeLike 83 = .ok (.aload_n 0, 1) := by decide +kernel
theorem dX0_becomeLike_84 : decode cX0_becomeLike 84 = .ok (.getfield 40, 3) := by decide +kernel
theorem dX0_becomeLike_87 : decode cX0_becomeLike 87 = .ok (.invokestatic 43, 3) := by decide +kernel
theorem dX0_becomeLike_90 : decode cX0_becomeLike 90 = .ok (.return_, 1) := by decide +kernel
theorem dX0_playsAt_0 : decode cX0_playsAt 0 = .ok (.iconst 0, 1) := by decide +kernel
theorem dX0_playsAt_1 : decode cX0_playsAt 1 = .ok (.istore_n 2, 1) := by decide +kernel
theorem dX0_playsAt_2 : decode cX0_playsAt 2 = .ok (.iload_n 2, 1) := by decide +kernel
theorem dX0_playsAt_3 : decode cX0_playsAt 3 = .ok (.aload_n 0, 1) := by decide +kernel
theorem dX0_playsAt_4 : decode cX0_playsAt 4 = .ok (.getfield 9, 3) := by decide +kernel
theorem dX0_playsAt_7 : decode cX0_playsAt 7 = .ok (.if_icmp .ge 21, 3) := by decide +kernel
theorem dX0_playsAt_10 : decode cX0_playsAt 10 = .ok (.aload_n 0, 1) := by decide +kernel
theorem dX0_playsAt_11 : decode cX0_playsAt 11 = .ok (.getfield 19, 3) := by decide +kernel
theorem dX0_playsAt_14 : decode cX0_playsAt 14 = .ok (.iload_n 2, 1) := by decide +kernel
theorem dX0_playsAt_15 : decode cX0_playsAt 15 = .ok (.iaload, 1) := by decide +kernel
theorem dX0_playsAt_16 : decode cX0_playsAt 16 = .ok (.iload_n 1, 1) := by decide +kernel
theorem dX0_playsAt_17 : decode cX0_playsAt 17 = .ok (.if_icmp .ne 5, 3) := by decide +kernel
theorem dX0_playsAt_20 : decode cX0_playsAt 20 = .ok (.iconst 1, 1) := by decide +kernel
theorem dX0_playsAt_21 : decode cX0_playsAt 21 = .ok (.ireturn, 1) := by decide +kernel
theorem dX0_playsAt_22 : decode cX0_playsAt 22 = .ok (.iinc 2 1, 3) := by decide +kernel
theorem dX0_playsAt_25 : decode cX0_playsAt 25 = .ok (.goto (-23), 3) := by decide +kernel
theorem dX0_playsAt_28 : decode cX0_playsAt 28 = .ok (.iconst 0, 1) := by decide +kernel
theorem dX0_playsAt_29 : decode cX0_playsAt 29 = .ok (.ireturn, 1) := by decide +kernel
theorem dX0_addPlayer_0 : decode cX0_addPlayer 0 = .ok (.aload_n 0, 1) := by decide +kernel
theorem dX0_addPlayer_1 : decode cX0_addPlayer 1 = .ok (.getfield 9, 3) := by decide +kernel
theorem dX0_addPlayer_4 : decode cX0_addPlayer 4 = .ok (.bipush 6, 2) := by decide +kernel
theorem dX0_addPlayer_6 : decode cX0_addPlayer 6 = .ok (.if_icmp .lt 6, 3) := by decide +kernel
theorem dX0_addPlayer_9 : decode cX0_addPlayer 9 = .ok (.bipush (-4), 2) := by decide +kernel
theorem dX0_addPlayer_11 : decode cX0_addPlayer 11 = .ok (.ireturn, 1) := by decide +kernel
theorem dX0_addPlayer_12 : decode cX0_addPlayer 12 = .ok (.aload_n 0, 1) := by decide +kernel
theorem dX0_addPlayer_13 : decode cX0_addPlayer 13 = .ok (.getfield 15, 3) := by decide +kernel
theorem dX0_addPlayer_16 : decode cX0_addPlayer 16 = .ok (.aload_n 0, 1) := by decide +kernel
theorem dX0_addPlayer_17 : decode cX0_addPlayer 17 = .ok (.getfield 9, 3) := by decide +kernel
theorem dX0_addPlayer_20 : decode cX0_addPlayer 20 = .ok (.iload_n 1, 1) := by decide +kernel
theorem dX0_addPlayer_21 : decode cX0_addPlayer 21 = .ok (.iastore, 1) := by decide +kernel
theorem dX0_addPlayer_22 : decode cX0_addPlayer 22 = .ok (.aload_n 0, 1) := by decide +kernel
theorem dX0_addPlayer_23 : decode cX0_addPlayer 23 = .ok (.getfield 19, 3) := by decide +kernel
theorem dX0_addPlayer_26 : decode cX0_addPlayer 26 = .ok (.aload_n 0, 1) := by decide +kernel
theorem dX0_addPlayer_27 : decode cX0_addPlayer 27 = .ok (.getfield 9, 3) := by decide +kernel
theorem dX0_addPlayer_30 : decode cX0_addPlayer 30 = .ok (.iload_n 2, 1) := by decide +kernel
theorem dX0_addPlayer_31 : decode cX0_addPlayer 31 = .ok (.iastore, 1) := by decide +kernel
theorem dX0_addPlayer_32 : decode cX0_addPlayer 32 = .ok (.aload_n 0, 1) := by decide +kernel
theorem dX0_addPlayer_33 : decode cX0_addPlayer 33 = .ok (.getfield 22, 3) := by decide +kernel
theorem dX0_addPlayer_36 : decode cX0_addPlayer 36 = .ok (.aload_n 0, 1) := by decide +kernel
theorem dX0_addPlayer_37 : decode cX0_addPlayer 37 = .ok (.getfield 9, 3) := by decide +kernel
theorem dX0_addPlayer_40 : decode cX0_addPlayer 40 = .ok (.iload_n 3, 1) := by decide +kernel
theorem dX0_addPlayer_41 : decode cX0_addPlayer 41 = .ok (.iastore, 1) := by decide +kernel
theorem dX0_addPlayer_42 : decode cX0_addPlayer 42 = .ok (.aload_n 0, 1) := by decide +kernel
theorem dX0_addPlayer_43 : decode cX0_addPlayer 43 = .ok (.getfield 25, 3) := by decide +kernel
theorem dX0_addPlayer_46 : decode cX0_addPlayer 46 = .ok (.aload_n 0, 1) := by decide +kernel
theorem dX0_addPlayer_47 : decode cX0_addPlayer 47 = .ok (.getfield 9, 3) := by decide +kernel
theorem dX0_addPlayer_50 : decode cX0_addPlayer 50 = .ok (.iconst 0, 1) := by decide +kernel
theorem dX0_addPlayer_51 : decode cX0_addPlayer 51 = .ok (.iastore, 1) := by decide +kernel
theorem dX0_addPlayer_52 : decode cX0_addPlayer 52 = .ok (.aload_n 0, 1) := by decide +kernel
theorem dX0_addPlayer_53 : decode cX0_addPlayer 53 = .ok (.getfield 28, 3) := by decide +kernel
theorem dX0_addPlayer_56 : decode cX0_addPlayer 56 = .ok (.aload_n 0, 1) := by decide +kernel
theorem dX0_addPlayer_57 : decode cX0_addPlayer 57 = .ok (.getfield 9, 3) := by decide +kernel
theorem dX0_addPlayer_60 : decode cX0_addPlayer 60 = .ok (.aload_n 0, 1) := by decide +kernel
theorem dX0_addPlayer_61 : decode cX0_addPlayer 61 = .ok (.getfield 9, 3) := by decide +kernel
theorem dX0_addPlayer_64 : decode cX0_addPlayer 64 = .ok (.iastore, 1) := by decide +kernel
theorem dX0_addPlayer_65 : decode cX0_addPlayer 65 = .ok (.aload_n 0, 1) := by decide +kernel
theorem dX0_addPlayer_66 : decode cX0_addPlayer 66 = .ok (.dup, 1) := by decide +kernel
theorem dX0_addPlayer_67 : decode cX0_addPlayer 67 = .ok (.getfield 9, 3) := by decide +kernel
theorem dX0_addPlayer_70 : decode cX0_addPlayer 70 = .ok (.iconst 1, 1) := by decide +kernel
theorem dX0_addPlayer_71 : decode cX0_addPlayer 71 = .ok (.iadd, 1) := by decide +kernel
theorem dX0_addPlayer_72 : decode cX0_addPlayer 72 = .ok (.putfield 9, 3) := by decide +kernel
theorem dX0_addPlayer_75 : decode cX0_addPlayer 75 = .ok (.aload_n 0, 1) := by decide +kernel
theorem dX0_addPlayer_76 : decode cX0_addPlayer 76 = .ok (.iconst 0, 1) := by decide +kernel
theorem dX0_addPlayer_77 : decode cX0_addPlayer 77 = .ok (.putfield 37, 3) := by decide +kernel
theorem dX0_addPlayer_80 : decode cX0_addPlayer 80 = .ok (.aload_n 0, 1) := by decide +kernel
theorem dX0_addPlayer_81 : decode cX0_addPlayer 81 = .ok (.getfield 9, 3) := by decide +kernel
theorem dX0_addPlayer_84 : decode cX0_addPlayer 84 = .ok (.iconst 1, 1) := by decide +kernel
theorem dX0_addPlayer_85 : decode cX0_addPlayer 85 = .ok (.isub, 1) := by decide +kernel
theorem dX0_addPlayer_86 : decode cX0_addPlayer 86 = .ok (.ireturn, 1) := by decide +kernel
theorem dX0_lateOf_0 : decode cX0_lateOf 0 = .ok (.aload_n 0, 1) := by decide +kernel
theorem dX0_lateOf_1 : decode cX0_lateOf 1 = .ok (.getfield 15, 3) := by decide +kernel
theorem dX0_lateOf_4 : decode cX0_lateOf 4 = .ok (.iload_n 1, 1) := by decide +kernel
theorem dX0_lateOf_5 : decode cX0_lateOf 5 = .ok (.iaload, 1) := by decide +kernel
theorem dX0_lateOf_6 : decode cX0_lateOf 6 = .ok (.iconst 1, 1) := by decide +kernel
theorem dX0_lateOf_7 : decode cX0_lateOf 7 = .ok (.if_icmp .ne 13, 3) := by decide +kernel
theorem dX0_lateOf_10 : decode cX0_lateOf 10 = .ok (.aload_n 0, 1) := by decide +kernel
theorem dX0_lateOf_11 : decode cX0_lateOf 11 = .ok (.getfield 25, 3) := by decide +kernel
theorem dX0_lateOf_14 : decode cX0_lateOf 14 = .ok (.iload_n 1, 1) := by decide +kernel
theorem dX0_lateOf_15 : decode cX0_lateOf 15 = .ok (.iaload, 1) := by decide +kernel
theorem dX0_lateOf_16 : decode cX0_lateOf 16 = .ok (.bipush 20, 2) := by decide +kernel
theorem dX0_lateOf_18 : decode cX0_lateOf 18 = .ok (.isub, 1) := by decide +kernel
theorem dX0_lateOf_19 : decode cX0_lateOf 19 = .ok (.ireturn, 1) := by decide +kernel
theorem dX0_lateOf_20 : decode cX0_lateOf 20 = .ok (.aload_n 0, 1) := by decide +kernel
theorem dX0_lateOf_21 : decode cX0_lateOf 21 = .ok (.getfield 15, 3) := by decide +kernel
theorem dX0_lateOf_24 : decode cX0_lateOf 24 = .ok (.iload_n 1, 1) := by decide +kernel
theorem dX0_lateOf_25 : decode cX0_lateOf 25 = .ok (.iaload, 1) := by decide +kernel
theorem dX0_lateOf_26 : decode cX0_lateOf 26 = .ok (.iconst 3, 1) := by decide +kernel
theorem dX0_lateOf_27 : decode cX0_lateOf 27 = .ok (.if_icmp .ne 16, 3) := by decide +kernel
theorem dX0_lateOf_30 : decode cX0_lateOf 30 = .ok (.aload_n 0, 1) := by decide +kernel
theorem dX0_lateOf_31 : decode cX0_lateOf 31 = .ok (.getfield 25, 3) := by decide +kernel
theorem dX0_lateOf_34 : decode cX0_lateOf 34 = .ok (.iload_n 1, 1) := by decide +kernel
theorem dX0_lateOf_35 : decode cX0_lateOf 35 = .ok (.iaload, 1) := by decide +kernel
theorem dX0_lateOf_36 : decode cX0_lateOf 36 = .ok (.bipush 10, 2) := by decide +kernel
theorem dX0_lateOf_38 : decode cX0_lateOf 38 = .ok (.idiv, 1) := by decide +kernel
theorem dX0_lateOf_39 : decode cX0_lateOf 39 = .ok (.bipush 10, 2) := by decide +kernel
theorem dX0_lateOf_41 : decode cX0_lateOf 41 = .ok (.imul, 1) := by decide +kernel
theorem dX0_lateOf_42 : decode cX0_lateOf 42 = .ok (.ireturn, 1) := by decide +kernel
theorem dX0_lateOf_43 : decode cX0_lateOf 43 = .ok (.aload_n 0, 1) := by decide +kernel
theorem dX0_lateOf_44 : decode cX0_lateOf 44 = .ok (.getfield 25, 3) := by decide +kernel
theorem dX0_lateOf_47 : decode cX0_lateOf 47 = .ok (.iload_n 1, 1) := by decide +kernel
theorem dX0_lateOf_48 : decode cX0_lateOf 48 = .ok (.iaload, 1) := by decide +kernel
theorem dX0_lateOf_49 : decode cX0_lateOf 49 = .ok (.ireturn, 1) := by decide +kernel
theorem dX0_advance_0 : decode cX0_advance 0 = .ok (.iconst 0, 1) := by decide +kernel
theorem dX0_advance_1 : decode cX0_advance 1 = .ok (.istore_n 2, 1) := by decide +kernel
theorem dX0_advance_2 : decode cX0_advance 2 = .ok (.iload_n 2, 1) := by decide +kernel
theorem dX0_advance_3 : decode cX0_advance 3 = .ok (.aload_n 0, 1) := by decide +kernel
theorem dX0_advance_4 : decode cX0_advance 4 = .ok (.getfield 9, 3) := by decide +kernel
theorem dX0_advance_7 : decode cX0_advance 7 = .ok (.if_icmp .ge 74, 3) := by decide +kernel
theorem dX0_advance_10 : decode cX0_advance 10 = .ok (.aload_n 0, 1) := by decide +kernel
theorem dX0_advance_11 : decode cX0_advance 11 = .ok (.getfield 28, 3) := by decide +kernel
theorem dX0_advance_14 : decode cX0_advance 14 = .ok (.iload_n 2, 1) := by decide +kernel
theorem dX0_advance_15 : decode cX0_advance 15 = .ok (.iaload, 1) := by decide +kernel
theorem dX0_advance_16 : decode cX0_advance 16 = .ok (.istore_n 3, 1) := by decide +kernel
theorem dX0_advance_17 : decode cX0_advance 17 = .ok (.aload_n 0, 1) := by decide +kernel
theorem dX0_advance_18 : decode cX0_advance 18 = .ok (.getfield 31, 3) := by decide +kernel
theorem dX0_advance_21 : decode cX0_advance 21 = .ok (.iload_n 2, 1) := by decide +kernel
theorem dX0_advance_22 : decode cX0_advance 22 = .ok (.aload_n 0, 1) := by decide +kernel
theorem dX0_advance_23 : decode cX0_advance 23 = .ok (.getfield 25, 3) := by decide +kernel
theorem dX0_advance_26 : decode cX0_advance 26 = .ok (.iload_n 2, 1) := by decide +kernel
theorem dX0_advance_27 : decode cX0_advance 27 = .ok (.iaload, 1) := by decide +kernel
theorem dX0_advance_28 : decode cX0_advance 28 = .ok (.iastore, 1) := by decide +kernel
theorem dX0_advance_29 : decode cX0_advance 29 = .ok (.iload_n 3, 1) := by decide +kernel
theorem dX0_advance_30 : decode cX0_advance 30 = .ok (.iload_n 2, 1) := by decide +kernel
theorem dX0_advance_31 : decode cX0_advance 31 = .ok (.if_icmp .eq 44, 3) := by decide +kernel
theorem dX0_advance_34 : decode cX0_advance 34 = .ok (.aload_n 1, 1) := by decide +kernel
theorem dX0_advance_35 : decode cX0_advance 35 = .ok (.aload_n 0, 1) := by decide +kernel
theorem dX0_advance_36 : decode cX0_advance 36 = .ok (.getfield 19, 3) := by decide +kernel
theorem dX0_advance_39 : decode cX0_advance 39 = .ok (.iload_n 2, 1) := by decide +kernel
theorem dX0_advance_40 : decode cX0_advance 40 = .ok (.iaload, 1) := by decide +kernel
theorem dX0_advance_41 : decode cX0_advance 41 = .ok (.aload_n 0, 1) := by decide +kernel
theorem dX0_advance_42 : decode cX0_advance 42 = .ok (.getfield 19, 3) := by decide +kernel
theorem dX0_advance_45 : decode cX0_advance 45 = .ok (.iload_n 3, 1) := by decide +kernel
theorem dX0_advance_46 : decode cX0_advance 46 = .ok (.iaload, 1) := by decide +kernel
theorem dX0_advance_47 : decode cX0_advance 47 = .ok (.invokevirtual 47, 3) := by decide +kernel
theorem dX0_advance_50 : decode cX0_advance 50 = .ok (.istore 4, 2) := by decide +kernel
theorem dX0_advance_52 : decode cX0_advance 52 = .ok (.aload_n 0, 1) := by decide +kernel
theorem dX0_advance_53 : decode cX0_advance 53 = .ok (.getfield 31, 3) := by decide +kernel
theorem dX0_advance_56 : decode cX0_advance 56 = .ok (.iload_n 2, 1) := by decide +kernel
theorem dX0_advance_57 : decode cX0_advance 57 = .ok (.aload_n 0, 1) := by decide +kernel
theorem dX0_advance_58 : decode cX0_advance 58 = .ok (.getfield 25, 3) := by decide +kernel
theorem dX0_advance_61 : decode cX0_advance 61 = .ok (.iload_n 3, 1) := by decide +kernel
theorem dX0_advance_62 : decode cX0_advance 62 = .ok (.iaload, 1) := by decide +kernel
theorem dX0_advance_63 : decode cX0_advance 63 = .ok (.iload 4, 2) := by decide +kernel
theorem dX0_advance_65 : decode cX0_advance 65 = .ok (.iadd, 1) := by decide +kernel
theorem dX0_advance_66 : decode cX0_advance 66 = .ok (.aload_n 0, 1) := by decide +kernel
theorem dX0_advance_67 : decode cX0_advance 67 = .ok (.getfield 34, 3) := by decide +kernel
theorem dX0_advance_70 : decode cX0_advance 70 = .ok (.isub, 1) := by decide +kernel
theorem dX0_advance_71 : decode cX0_advance 71 = .ok (.invokestatic 53, 3) := by decide +kernel
theorem dX0_advance_74 : decode cX0_advance 74 = .ok (.iastore, 1) := by decide +kernel
theorem dX0_advance_75 : decode cX0_advance 75 = .ok (.iinc 2 1, 3) := by decide +kernel
theorem dX0_advance_78 : decode cX0_advance 78 = .ok (.goto (-76), 3) := by decide +kernel
theorem dX0_advance_81 : decode cX0_advance 81 = .ok (.iconst 0, 1) := by decide +kernel
theorem dX0_advance_82 : decode cX0_advance 82 = .ok (.istore_n 2, 1) := by decide +kernel
theorem dX0_advance_83 : decode cX0_advance 83 = .ok (.iconst 0, 1) := by decide +kernel
theorem dX0_advance_84 : decode cX0_advance 84 = .ok (.istore_n 3, 1) := by decide +kernel
theorem dX0_advance_85 : decode cX0_advance 85 = .ok (.iload_n 3, 1) := by decide +kernel
theorem dX0_advance_86 : decode cX0_advance 86 = .ok (.aload_n 0, 1) := by decide +kernel
theorem dX0_advance_87 : decode cX0_advance 87 = .ok (.getfield 9, 3) := by decide +kernel
theorem dX0_advance_90 : decode cX0_advance 90 = .ok (.if_icmp .ge 39, 3) := by decide +kernel
theorem dX0_advance_93 : decode cX0_advance 93 = .ok (.aload_n 0, 1) := by decide +kernel
theorem dX0_advance_94 : decode cX0_advance 94 = .ok (.getfield 31, 3) := by decide +kernel
theorem dX0_advance_97 : decode cX0_advance 97 = .ok (.iload_n 3, 1) := by decide +kernel
theorem dX0_advance_98 : decode cX0_advance 98 = .ok (.iaload, 1) := by decide +kernel
theorem dX0_advance_99 : decode cX0_advance 99 = .ok (.aload_n 0, 1) := by decide +kernel
theorem dX0_advance_100 : decode cX0_advance 100 = .ok (.getfield 25, 3) := by decide +kernel
theorem dX0_advance_103 : decode cX0_advance 103 = .ok (.iload_n 3, 1) := by decide +kernel
theorem dX0_advance_104 : decode cX0_advance 104 = .ok (.iaload, 1) := by decide +kernel
theorem dX0_advance_105 : decode cX0_advance 105 = .ok (.if_icmp .eq 6, 3) := by decide +kernel
theorem dX0_advance_108 : decode cX0_advance 108 = .ok (.iinc 2 1, 3) := by decide +kernel
theorem dX0_advance_111 : decode cX0_advance 111 = .ok (.aload_n 0, 1) := by decide +kernel
theorem dX0_advance_112 : decode cX0_advance 112 = .ok (.getfield 25, 3) := by decide +kernel
theorem dX0_advance_115 : decode cX0_advance 115 = .ok (.iload_n 3, 1) := by decide +kernel
theorem dX0_advance_116 : decode cX0_advance 116 = .ok (.aload_n 0, 1) := by decide +kernel
theorem dX0_advance_117 : decode cX0_advance 117 = .ok (.getfield 31, 3) := by decide +kernel
theorem dX0_advance_120 : decode cX0_advance 120 = .ok (.iload_n 3, 1) := by decide +kernel
theorem dX0_advance_121 : decode cX0_advance 121 = .ok (.iaload, 1) := by decide +kernel
theorem dX0_advance_122 : decode cX0_advance 122 = .ok (.iastore, 1) := by decide +kernel
theorem dX0_advance_123 : decode cX0_advance 123 = .ok (.iinc 3 1, 3) := by decide +kernel
theorem dX0_advance_126 : decode cX0_advance 126 = .ok (.goto (-41), 3) := by decide +kernel
theorem dX0_advance_129 : decode cX0_advance 129 = .ok (.iload_n 2, 1) := by decide +kernel
theorem dX0_advance_130 : decode cX0_advance 130 = .ok (.ireturn, 1) := by decide +kernel
theorem dX0_rememberOffsets_0 : decode cX0_rememberOffsets 0 = .ok (.aload_n 0, 1) := by decide +kernel
theorem dX0_rememberOffsets_1 : decode cX0_rememberOffsets 1 = .ok (.getfield 37, 3) := by decide +kernel
theorem dX0_rememberOffsets_4 : decode cX0_rememberOffsets 4 = .ok (.bipush 8, 2) := by decide +kernel
theorem dX0_rememberOffsets_6 : decode cX0_rememberOffsets 6 = .ok (.if_icmp .lt 25, 3) := by decide +kernel
theorem dX0_rememberOffsets_9 : decode cX0_rememberOffsets 9 = .ok (.aload_n 0, 1) := by decide +kernel
theorem dX0_rememberOffsets_10 : decode cX0_rememberOffsets 10 = .ok (.getfield 40, 3) := by decide +kernel
theorem dX0_rememberOffsets_13 : decode cX0_rememberOffsets 13 = .ok (.bipush 6, 2) := by decide +kernel
theorem dX0_rememberOffsets_15 : decode cX0_rememberOffsets 15 = .ok (.aload_n 0, 1) := by decide +kernel
theorem dX0_rememberOffsets_16 : decode cX0_rememberOffsets 16 = .ok (.getfield 40, 3) := by decide +kernel
theorem dX0_rememberOffsets_19 : decode cX0_rememberOffsets 19 = .ok (.iconst 0, 1) := by decide +kernel
theorem dX0_rememberOffsets_20 : decode cX0_rememberOffsets 20 = .ok (.bipush 42, 2) := by decide +kernel
theorem dX0_rememberOffsets_22 : decode cX0_rememberOffsets 22 = .ok (.invokestatic 57, 3) := by decide +kernel
theorem dX0_rememberOffsets_25 : decode cX0_rememberOffsets 25 = .ok (.aload_n 0, 1) := by decide +kernel
theorem dX0_rememberOffsets_26 : decode cX0_rememberOffsets 26 = .ok (.bipush 7, 2) := by decide +kernel
theorem dX0_rememberOffsets_28 : decode cX0_rememberOffsets 28 = .ok (.putfield 37, 3) := by decide +kernel
theorem dX0_rememberOffsets_31 : decode cX0_rememberOffsets 31 = .ok (.aload_n 0, 1) := by decide +kernel
theorem dX0_rememberOffsets_32 : decode cX0_rememberOffsets 32 = .ok (.getfield 25, 3) := by decide +kernel
theorem dX0_rememberOffsets_35 : decode cX0_rememberOffsets 35 = .ok (.iconst 0, 1) := by decide +kernel
theorem dX0_rememberOffsets_36 : decode cX0_rememberOffsets 36 = .ok (.aload_n 0, 1) := by decide +kernel
theorem dX0_rememberOffsets_37 : decode cX0_rememberOffsets 37 = .ok (.getfield 40, 3) := by decide +kernel
theorem dX0_rememberOffsets_40 : decode cX0_rememberOffsets 40 = .ok (.aload_n 0, 1) := by decide +kernel
theorem dX0_rememberOffsets_41 : decode cX0_rememberOffsets 41 = .ok (.getfield 37, 3) := by decide +kernel
theorem dX0_rememberOffsets_44 : decode cX0_rememberOffsets 44 = .ok (.bipush 6, 2) := by decide +kernel
theorem dX0_rememberOffsets_46 : decode cX0_rememberOffsets 46 = .ok (.imul, 1) := by decide +kernel
theorem dX0_rememberOffsets_47 : decode cX0_rememberOffsets 47 = .ok (.bipush 6, 2) := by decide +kernel
theorem dX0_rememberOffsets_49 : decode cX0_rememberOffsets 49 = .ok (.invokestatic 57, 3) := by decide +kernel
theorem dX0_rememberOffsets_52 : decode cX0_rememberOffsets 52 = .ok (.aload_n 0, 1) := by decide +kernel
theorem dX0_rememberOffsets_53 : decode cX0_rememberOffsets 53 = .ok (.dup, 1) := by decide +kernel
theorem dX0_rememberOffsets_54 : decode cX0_rememberOffsets 54 = .ok (.getfield 37, 3) := by decide +kernel
theorem dX0_rememberOffsets_57 : decode cX0_rememberOffsets 57 = .ok (.iconst 1, 1) := by decide +kernel
theorem dX0_rememberOffsets_58 : decode cX0_rememberOffsets 58 = .ok (.iadd, 1) := by decide +kernel
theorem dX0_rememberOffsets_59 : decode cX0_rememberOffsets 59 = .ok (.putfield 37, 3) := by decide +kernel
theorem dX0_rememberOffsets_62 : decode cX0_rememberOffsets 62 = .ok (.return_, 1) := by decide +kernel
theorem dX0_recallOffsets_0 : decode cX0_recallOffsets 0 = .ok (.aload_n 0, 1) := by decide +kernel
theorem dX0_recallOffsets_1 : decode cX0_recallOffsets 1 = .ok (.getfield 37, 3) := by decide +kernel
theorem dX0_recallOffsets_4 : decode cX0_recallOffsets 4 = .ok (.ifCond .gt 4, 3) := by decide +kernel
theorem dX0_recallOffsets_7 : decode cX0_recallOffsets 7 = .ok (.return_, 1) := by decide +kernel
theorem dX0_recallOffsets_8 : decode cX0_recallOffsets 8 = .ok (.aload_n 0, 1) := by decide +kernel
theorem dX0_recallOffsets_9 : decode cX0_recallOffsets 9 = .ok (.dup, 1) := by decide +kernel
theorem dX0_recallOffsets_10 : decode cX0_recallOffsets 10 = .ok (.getfield 37, 3) := by decide +kernel
theorem dX0_recallOffsets_13 : decode cX0_recallOffsets 13 = .ok (.iconst 1, 1) := by decide +kernel
theorem dX0_recallOffsets_14 : decode cX0_recallOffsets 14 = .ok (.isub, 1) := by decide +kernel
theorem dX0_recallOffsets_15 : decode cX0_recallOffsets 15 = .ok (.putfield 37, 3) := by decide +kernel
theorem dX0_recallOffsets_18 : decode cX0_recallOffsets 18 = .ok (.aload_n 0, 1) := by decide +kernel
theorem dX0_recallOffsets_19 : decode cX0_recallOffsets 19 = .ok (.getfield 40, 3) := by decide +kernel
theorem dX0_recallOffsets_22 : decode cX0_recallOffsets 22 = .ok (.aload_n 0, 1) := by decide +kernel
theorem dX0_recallOffsets_23 : decode cX0_recallOffsets 23 = .ok (.getfield 37, 3) := by decide +kernel
theorem dX0_recallOffsets_26 : decode cX0_recallOffsets 26 = .ok (.bipush 6, 2) := by decide +kernel
theorem dX0_recallOffsets_28 : decode cX0_recallOffsets 28 = .ok (.imul, 1) := by decide +kernel
theorem dX0_recallOffsets_29 : decode cX0_recallOffsets 29 = .ok (.aload_n 0, 1) := by decide +kernel
theorem dX0_recallOffsets_30 : decode cX0_recallOffsets 30 = .ok (.getfield 25, 3) := by decide +kernel
theorem dX0_recallOffsets_33 : decode cX0_recallOffsets 33 = .ok (.iconst 0, 1) := by decide +kernel
theorem dX0_recallOffsets_34 : decode cX0_recallOffsets 34 = .ok (.bipush 6, 2) := by decide +kernel
theorem dX0_recallOffsets_36 : decode cX0_recallOffsets 36 = .ok (.invokestatic 57, 3) := by decide +kernel
theorem dX0_recallOffsets_39 : decode cX0_recallOffsets 39 = .ok (.return_, 1) := by decide +kernel
theorem dX0_playersUnlike_0 : decode cX0_playersUnlike 0 = .ok (.iconst 0, 1) := by decide +kernel
theorem dX0_playersUnlike_1 : decode cX0_playersUnlike 1 = .ok (.istore_n 2, 1) := by decide +kernel
theorem dX0_playersUnlike_2 : decode cX0_playersUnlike 2 = .ok (.iconst 0, 1) := by decide +kernel
theorem dX0_playersUnlike_3 : decode cX0_playersUnlike 3 = .ok (.istore_n 3, 1) := by decide +kernel
theorem dX0_playersUnlike_4 : decode cX0_playersUnlike 4 = .ok (.iload_n 3, 1) := by decide +kernel
theorem dX0_playersUnlike_5 : decode cX0_playersUnlike 5 = .ok (.aload_n 0, 1) := by decide +kernel
theorem dX0_playersUnlike_6 : decode cX0_playersUnlike 6 = .ok (.getfield 9, 3) := by decide +kernel
theorem dX0_playersUnlike_9 : decode cX0_playersUnlike 9 = .ok (.if_icmp .ge 30, 3) := by decide +kernel
theorem dX0_playersUnlike_12 : decode cX0_playersUnlike 12 = .ok (.aload_n 0, 1) := by decide +kernel
theorem dX0_playersUnlike_13 : decode cX0_playersUnlike 13 = .ok (.getfield 25, 3) := by decide +kernel
theorem dX0_playersUnlike_16 : decode cX0_playersUnlike 16 = .ok (.iload_n 3, 1) := by decide +kernel
theorem dX0_playersUnlike_17 : decode cX0_playersUnlike 17 = .ok (.iaload, 1) := by decide +kernel
theorem dX0_playersUnlike_18 : decode cX0_playersUnlike 18 = .ok (.aload_n 1, 1) := by decide +kernel
theorem dX0_playersUnlike_19 : decode cX0_playersUnlike 19 = .ok (.getfield 25, 3) := by decide +kernel
theorem dX0_playersUnlike_22 : decode cX0_playersUnlike 22 = .ok (.iload_n 3, 1) := by decide +kernel
theorem dX0_playersUnlike_23 : decode cX0_playersUnlike 23 = .ok (.iaload, 1) := by decide +kernel
theorem dX0_playersUnlike_24 : decode cX0_playersUnlike 24 = .ok (.if_icmp .eq 9, 3) := by decide +kernel
theorem dX0_playersUnlike_27 : decode cX0_playersUnlike 27 = .ok (.iload_n 2, 1) := by decide +kernel
theorem dX0_playersUnlike_28 : decode cX0_playersUnlike 28 = .ok (.iconst 1, 1) := by decide +kernel
theorem dX0_playersUnlike_29 : decode cX0_playersUnlike 29 = .ok (.iload_n 3, 1) := by decide +kernel
theorem dX0_playersUnlike_30 : decode cX0_playersUnlike 30 = .ok (.ishl, 1) := by decide +kernel
theorem dX0_playersUnlike_31 : decode cX0_playersUnlike 31 = .ok (.ior, 1) := by decide +kernel
theorem dX0_playersUnlike_32 : decode cX0_playersUnlike 32 = .ok (.istore_n 2, 1) := by decide +kernel
theorem dX0_playersUnlike_33 : decode cX0_playersUnlike 33 = .ok (.iinc 3 1, 3) := by decide +kernel
theorem dX0_playersUnlike_36 : decode cX0_playersUnlike 36 = .ok (.goto (-32), 3) := by decide +kernel
theorem dX0_playersUnlike_39 : decode cX0_playersUnlike 39 = .ok (.iload_n 2, 1) := by decide +kernel
theorem dX0_playersUnlike_40 : decode cX0_playersUnlike 40 = .ok (.ireturn, 1) := by decide +kernel
theorem dX0_digestOn_0 : decode cX0_digestOn 0 = .ok (.lload_n 1, 1) := by decide +kernel
theorem dX0_digestOn_1 : decode cX0_digestOn 1 = .ok (.lstore 4, 2) := by decide +kernel
theorem dX0_digestOn_3 : decode cX0_digestOn 3 = .ok (.ldc2_w 63, 3) := by decide +kernel
theorem dX0_digestOn_6 : decode cX0_digestOn 6 = .ok (.lload 4, 2) := by decide +kernel
theorem dX0_digestOn_8 : decode cX0_digestOn 8 = .ok (.lmul, 1) := by decide +kernel
theorem dX0_digestOn_9 : decode cX0_digestOn 9 = .ok (.aload_n 3, 1) := by decide +kernel
theorem dX0_digestOn_10 : decode cX0_digestOn 10 = .ok (.getfield 65, 3) := by decide +kernel
theorem dX0_digestOn_13 : decode cX0_digestOn 13 = .ok (.i2l, 1) := by decide +kernel
theorem dX0_digestOn_14 : decode cX0_digestOn 14 = .ok (.ladd, 1) := by decide +kernel
theorem dX0_digestOn_15 : decode cX0_digestOn 15 = .ok (.lstore 4, 2) := by decide +kernel
theorem dX0_digestOn_17 : decode cX0_digestOn 17 = .ok (.ldc2_w 63, 3) := by decide +kernel
theorem dX0_digestOn_20 : decode cX0_digestOn 20 = .ok (.lload 4, 2) := by decide +kernel
theorem dX0_digestOn_22 : decode cX0_digestOn 22 = .ok (.lmul, 1) := by decide +kernel
theorem dX0_digestOn_23 : decode cX0_digestOn 23 = .ok (.aload_n 3, 1) := by decide +kernel
theorem dX0_digestOn_24 : decode cX0_digestOn 24 = .ok (.getfield 68, 3) := by decide +kernel
theorem dX0_digestOn_27 : decode cX0_digestOn 27 = .ok (.i2l, 1) := by decide +kernel
theorem dX0_digestOn_28 : decode cX0_digestOn 28 = .ok (.ladd, 1) := by decide +kernel
theorem dX0_digestOn_29 : decode cX0_digestOn 29 = .ok (.lstore 4, 2) := by decide +kernel
theorem dX0_digestOn_31 : decode cX0_digestOn 31 = .ok (.ldc2_w 63, 3) := by decide +kernel
theorem dX0_digestOn_34 : decode cX0_digestOn 34 = .ok (.lload 4, 2) := by decide +kernel
theorem dX0_digestOn_36 : decode cX0_digestOn 36 = .ok (.lmul, 1) := by decide +kernel
theorem dX0_digestOn_37 : decode cX0_digestOn 37 = .ok (.aload_n 3, 1) := by decide +kernel
theorem dX0_digestOn_38 : decode cX0_digestOn 38 = .ok (.getfield 71, 3) := by decide +kernel
theorem dX0_digestOn_41 : decode cX0_digestOn 41 = .ok (.i2l, 1) := by decide +kernel
theorem dX0_digestOn_42 : decode cX0_digestOn 42 = .ok (.ladd, 1) := by decide +kernel
theorem dX0_digestOn_43 : decode cX0_digestOn 43 = .ok (.lstore 4, 2) := by decide +kernel
theorem dX0_digestOn_45 : decode cX0_digestOn 45 = .ok (.ldc2_w 63, 3) := by decide +kernel
theorem dX0_digestOn_48 : decode cX0_digestOn 48 = .ok (.lload 4, 2) := by decide +kernel
theorem dX0_digestOn_50 : decode cX0_digestOn 50 = .ok (.lmul, 1) := by decide +kernel
theorem dX0_digestOn_51 : decode cX0_digestOn 51 = .ok (.aload_n 0, 1) := by decide +kernel
theorem dX0_digestOn_52 : decode cX0_digestOn 52 = .ok (.getfield 34, 3) := by decide +kernel
theorem dX0_digestOn_55 : decode cX0_digestOn 55 = .ok (.i2l, 1) := by decide +kernel
theorem dX0_digestOn_56 : decode cX0_digestOn 56 = .ok (.ladd, 1) := by decide +kernel
theorem dX0_digestOn_57 : decode cX0_digestOn 57 = .ok (.lstore 4, 2) := by decide +kernel
theorem dX0_digestOn_59 : decode cX0_digestOn 59 = .ok (.iconst 0, 1) := by decide +kernel
theorem dX0_digestOn_60 : decode cX0_digestOn 60 = .ok (.istore 6, 2) := by decide +kernel
theorem dX0_digestOn_62 : decode cX0_digestOn 62 = .ok (.iload 6, 2) := by decide +kernel
theorem dX0_digestOn_64 : decode cX0_digestOn 64 = .ok (.aload_n 0, 1) := by decide +kernel
theorem dX0_digestOn_65 : decode cX0_digestOn 65 = .ok (.getfield 9, 3) := by decide +kernel
theorem dX0_digestOn_68 : decode cX0_digestOn 68 = .ok (.if_icmp .ge 94, 3) := by decide +kernel
theorem dX0_digestOn_71 : decode cX0_digestOn 71 = .ok (.ldc2_w 63, 3) := by decide +kernel
theorem dX0_digestOn_74 : decode cX0_digestOn 74 = .ok (.lload 4, 2) := by decide +kernel
theorem dX0_digestOn_76 : decode cX0_digestOn 76 = .ok (.lmul, 1) := by decide +kernel
theorem dX0_digestOn_77 : decode cX0_digestOn 77 = .ok (.aload_n 0, 1) := by decide +kernel
theorem dX0_digestOn_78 : decode cX0_digestOn 78 = .ok (.getfield 15, 3) := by decide +kernel
theorem dX0_digestOn_81 : decode cX0_digestOn 81 = .ok (.iload 6, 2) := by decide +kernel
theorem dX0_digestOn_83 : decode cX0_digestOn 83 = .ok (.iaload, 1) := by decide +kernel
theorem dX0_digestOn_84 : decode cX0_digestOn 84 = .ok (.i2l, 1) := by decide +kernel
theorem dX0_digestOn_85 : decode cX0_digestOn 85 = .ok (.ladd, 1) := by decide +kernel
theorem dX0_digestOn_86 : decode cX0_digestOn 86 = .ok (.lstore 4, 2) := by decide +kernel
theorem dX0_digestOn_88 : decode cX0_digestOn 88 = .ok (.ldc2_w 63, 3) := by decide +kernel
theorem dX0_digestOn_91 : decode cX0_digestOn 91 = .ok (.lload 4, 2) := by decide +kernel
theorem dX0_digestOn_93 : decode cX0_digestOn 93 = .ok (.lmul, 1) := by decide +kernel
theorem dX0_digestOn_94 : decode cX0_digestOn 94 = .ok (.aload_n 0, 1) := by decide +kernel
theorem dX0_digestOn_95 : decode cX0_digestOn 95 = .ok (.getfield 19, 3) := by decide +kernel
theorem dX0_digestOn_98 : decode cX0_digestOn 98 = .ok (.iload 6, 2) := by decide +kernel
theorem dX0_digestOn_100 : decode cX0_digestOn 100 = .ok (.iaload, 1) := by decide +kernel
theorem dX0_digestOn_101 : decode cX0_digestOn 101 = .ok (.i2l, 1) := by decide +kernel
theorem dX0_digestOn_102 : decode cX0_digestOn 102 = .ok (.ladd, 1) := by decide +kernel
theorem dX0_digestOn_103 : decode cX0_digestOn 103 = .ok (.lstore 4, 2) := by decide +kernel
theorem dX0_digestOn_105 : decode cX0_digestOn 105 = .ok (.ldc2_w 63, 3) := by decide +kernel
theorem dX0_digestOn_108 : decode cX0_digestOn 108 = .ok (.lload 4, 2) := by decide +kernel
theorem dX0_digestOn_110 : decode cX0_digestOn 110 = .ok (.lmul, 1) := by decide +kernel
theorem dX0_digestOn_111 : decode cX0_digestOn 111 = .ok (.aload_n 0, 1) := by decide +kernel
theorem dX0_digestOn_112 : decode cX0_digestOn 112 = .ok (.getfield 22, 3) := by decide +kernel
theorem dX0_digestOn_115 : decode cX0_digestOn 115 = .ok (.iload 6, 2) := by decide +kernel
theorem dX0_digestOn_117 : decode cX0_digestOn 117 = .ok (.iaload, 1) := by decide +kernel
theorem dX0_digestOn_118 : decode cX0_digestOn 118 = .ok (.i2l, 1) := by decide +kernel
theorem dX0_digestOn_119 : decode cX0_digestOn 119 = .ok (.ladd, 1) := by decide +kernel
theorem dX0_digestOn_120 : decode cX0_digestOn 120 = .ok (.lstore 4, 2) := by decide +kernel
theorem dX0_digestOn_122 : decode cX0_digestOn 122 = .ok (.ldc2_w 63, 3) := by decide +kernel
theorem dX0_digestOn_125 : decode cX0_digestOn 125 = .ok (.lload 4, 2) := by decide +kernel
theorem dX0_digestOn_127 : decode cX0_digestOn 127 = .ok (.lmul, 1) := by decide +kernel
theorem dX0_digestOn_128 : decode cX0_digestOn 128 = .ok (.aload_n 0, 1) := by decide +kernel
theorem dX0_digestOn_129 : decode cX0_digestOn 129 = .ok (.getfield 25, 3) := by decide +kernel
theorem dX0_digestOn_132 : decode cX0_digestOn 132 = .ok (.iload 6, 2) := by decide +kernel
theorem dX0_digestOn_134 : decode cX0_digestOn 134 = .ok (.iaload, 1) := by decide +kernel
theorem dX0_digestOn_135 : decode cX0_digestOn 135 = .ok (.i2l, 1) := by decide +kernel
theorem dX0_digestOn_136 : decode cX0_digestOn 136 = .ok (.ladd, 1) := by decide +kernel
theorem dX0_digestOn_137 : decode cX0_digestOn 137 = .ok (.lstore 4, 2) := by decide +kernel
theorem dX0_digestOn_139 : decode cX0_digestOn 139 = .ok (.ldc2_w 63, 3) := by decide +kernel
theorem dX0_digestOn_142 : decode cX0_digestOn 142 = .ok (.lload 4, 2) := by decide +kernel
theorem dX0_digestOn_144 : decode cX0_digestOn 144 = .ok (.lmul, 1) := by decide +kernel
theorem dX0_digestOn_145 : decode cX0_digestOn 145 = .ok (.aload_n 0, 1) := by decide +kernel
theorem dX0_digestOn_146 : decode cX0_digestOn 146 = .ok (.getfield 28, 3) := by decide +kernel
theorem dX0_digestOn_149 : decode cX0_digestOn 149 = .ok (.iload 6, 2) := by decide +kernel
theorem dX0_digestOn_151 : decode cX0_digestOn 151 = .ok (.iaload, 1) := by decide +kernel
theorem dX0_digestOn_152 : decode cX0_digestOn 152 = .ok (.i2l, 1) := by decide +kernel
theorem dX0_digestOn_153 : decode cX0_digestOn 153 = .ok (.ladd, 1) := by decide +kernel
theorem dX0_digestOn_154 : decode cX0_digestOn 154 = .ok (.lstore 4, 2) := by decide +kernel
theorem dX0_digestOn_156 : decode cX0_digestOn 156 = .ok (.iinc 6 1, 3) := by decide +kernel
theorem dX0_digestOn_159 : decode cX0_digestOn 159 = .ok (.goto (-97), 3) := by decide +kernel
theorem dX0_digestOn_162 : decode cX0_digestOn 162 = .ok (.lload 4, 2) := by decide +kernel
theorem dX0_digestOn_164 : decode cX0_digestOn 164 = .ok (.lreturn, 1) := by decide +kernel
theorem dX1_init_0 : decode cX1_init 0 = .ok (.aload_n 0, 1) := by decide +kernel
theorem dX1_init_1 : decode cX1_init 1 = .ok (.invokespecial 3, 3) := by decide +kernel
theorem dX1_init_4 : decode cX1_init 4 = .ok (.aload_n 0, 1) := by decide +kernel
theorem dX1_init_5 : decode cX1_init 5 = .ok (.iconst 0, 1) := by decide +kernel
theorem dX1_init_6 : decode cX1_init 6 = .ok (.putfield 9, 3) := by decide +kernel
theorem dX1_init_9 : decode cX1_init 9 = .ok (.aload_n 0, 1) := by decide +kernel
theorem dX1_init_10 : decode cX1_init 10 = .ok (.bipush 12, 2) := by decide +kernel
theorem dX1_init_12 : decode cX1_init 12 = .ok (.newarray .int, 2) := by decide +kernel
theorem dX1_init_14 : decode cX1_init 14 = .ok (.putfield 15, 3) := by decide +kernel
theorem dX1_init_17 : decode cX1_init 17 = .ok (.aload_n 0, 1) := by decide +kernel
theorem dX1_init_18 : decode cX1_init 18 = .ok (.bipush 12, 2) := by decide +kernel
theorem dX1_init_20 : decode cX1_init 20 = .ok (.newarray .int, 2) := by decide +kernel
theorem dX1_init_22 : decode cX1_init 22 = .ok (.putfield 19, 3) := by decide +kernel
theorem dX1_init_25 : decode cX1_init 25 = .ok (.aload_n 0, 1) := by decide +kernel
theorem dX1_init_26 : decode cX1_init 26 = .ok (.bipush 12, 2) := by decide +kernel
theorem dX1_init_28 : decode cX1_init 28 = .ok (.newarray .int, 2) := by decide +kernel
theorem dX1_init_30 : decode cX1_init 30 = .ok (.putfield 22, 3) := by decide +kernel
theorem dX1_init_33 : decode cX1_init 33 = .ok (.return_, 1) := by decide +kernel
theorem dX1_listen_0 : decode cX1_listen 0 = .ok (.aload_n 0, 1) := by decide +kernel
theorem dX1_listen_1 : decode cX1_listen 1 = .ok (.iconst 0, 1) := by decide +kernel
theorem dX1_listen_2 : decode cX1_listen 2 = .ok (.putfield 9, 3) := by decide +kernel
theorem dX1_listen_5 : decode cX1_listen 5 = .ok (.iconst 0, 1) := by decide +kernel
theorem dX1_listen_6 : decode cX1_listen 6 = .ok (.istore 4, 2) := by decide +kernel
theorem dX1_listen_8 : decode cX1_listen 8 = .ok (.iload 4, 2) := by decide +kernel
theorem dX1_listen_10 : decode cX1_listen 10 = .ok (.aload_n 2, 1) := by decide +kernel
theorem dX1_listen_11 : decode cX1_listen 11 = .ok (.getfield 25, 3) := by decide +kernel
theorem dX1_listen_14 : decode cX1_listen 14 = .ok (.if_icmp .ge 147, 3) := by decide +kernel
theorem dX1_listen_17 : decode cX1_listen 17 = .ok (.aload_n 2, 1) := by decide +kernel
theorem dX1_listen_18 : decode cX1_listen 18 = .ok (.getfield 30, 3) := by decide +kernel
theorem dX1_listen_21 : decode cX1_listen 21 = .ok (.iload 4, 2) := by decide +kernel
theorem dX1_listen_23 : decode cX1_listen 23 = .ok (.iaload, 1) := by decide +kernel
theorem dX1_listen_24 : decode cX1_listen 24 = .ok (.istore 5, 2) := by decide +kernel
theorem dX1_listen_26 : decode cX1_listen 26 = .ok (.iload 5, 2) := by decide +kernel
theorem dX1_listen_28 : decode cX1_listen 28 = .ok (.iconst 5, 1) := by decide +kernel
theorem dX1_listen_29 : decode cX1_listen 29 = .ok (.if_icmp .ne 6, 3) := by decide +kernel
theorem dX1_listen_32 : decode cX1_listen 32 = .ok (.goto 123, 3) := by decide +kernel
theorem dX1_listen_35 : decode cX1_listen 35 = .ok (.aload_n 2, 1) := by decide +kernel
theorem dX1_listen_36 : decode cX1_listen 36 = .ok (.getfield 33, 3) := by decide +kernel
theorem dX1_listen_39 : decode cX1_listen 39 = .ok (.iload 4, 2) := by decide +kernel
theorem dX1_listen_41 : decode cX1_listen 41 = .ok (.iaload, 1) := by decide +kernel
theorem dX1_listen_42 : decode cX1_listen 42 = .ok (.istore 6, 2) := by decide +kernel
theorem dX1_listen_44 : decode cX1_listen 44 = .ok (.aload_n 2, 1) := by decide +kernel
theorem dX1_listen_45 : decode cX1_listen 45 = .ok (.getfield 36, 3) := by decide +kernel
theorem dX1_listen_48 : decode cX1_listen 48 = .ok (.iload 4, 2) := by decide +kernel
theorem dX1_listen_50 : decode cX1_listen 50 = .ok (.iaload, 1) := by decide +kernel
theorem dX1_listen_51 : decode cX1_listen 51 = .ok (.istore 7, 2) := by decide +kernel
theorem dX1_listen_53 : decode cX1_listen 53 = .ok (.aload_n 0, 1) := by decide +kernel
theorem dX1_listen_54 : decode cX1_listen 54 = .ok (.iload 4, 2) := by decide +kernel
theorem dX1_listen_56 : decode cX1_listen 56 = .ok (.aload_n 1, 1) := by decide +kernel
theorem dX1_listen_57 : decode cX1_listen 57 = .ok (.iload 6, 2) := by decide +kernel
theorem dX1_listen_59 : decode cX1_listen 59 = .ok (.iload_n 3, 1) := by decide +kernel
theorem dX1_listen_60 : decode cX1_listen 60 = .ok (.invokevirtual 39, 3) := by decide +kernel
theorem dX1_listen_63 : decode cX1_listen 63 = .ok (.iload 7, 2) := by decide +kernel
theorem dX1_listen_65 : decode cX1_listen 65 = .ok (.aload_n 1, 1) := by decide +kernel
theorem dX1_listen_66 : decode cX1_listen 66 = .ok (.iload 6, 2) := by decide +kernel
theorem dX1_listen_68 : decode cX1_listen 68 = .ok (.iload_n 3, 1) := by decide +kernel
theorem dX1_listen_69 : decode cX1_listen 69 = .ok (.invokevirtual 45, 3) := by decide +kernel
theorem dX1_listen_72 : decode cX1_listen 72 = .ok (.isub, 1) := by decide +kernel
theorem dX1_listen_73 : decode cX1_listen 73 = .ok (.invokevirtual 48, 3) := by decide +kernel
theorem dX1_listen_76 : decode cX1_listen 76 = .ok (.iload 5, 2) := by decide +kernel
theorem dX1_listen_78 : decode cX1_listen 78 = .ok (.iconst 2, 1) := by decide +kernel
theorem dX1_listen_79 : decode cX1_listen 79 = .ok (.if_icmp .ne 39, 3) := by decide +kernel
theorem dX1_listen_82 : decode cX1_listen 82 = .ok (.aload_n 1, 1) := by decide +kernel
theorem dX1_listen_83 : decode cX1_listen 83 = .ok (.invokevirtual 52, 3) := by decide +kernel
theorem dX1_listen_86 : decode cX1_listen 86 = .ok (.ifCond .eq 32, 3) := by decide +kernel
theorem dX1_listen_89 : decode cX1_listen 89 = .ok (.aload_n 1, 1) := by decide +kernel
theorem dX1_listen_90 : decode cX1_listen 90 = .ok (.iload 6, 2) := by decide +kernel
theorem dX1_listen_92 : decode cX1_listen 92 = .ok (.iload_n 3, 1) := by decide +kernel
theorem dX1_listen_93 : decode cX1_listen 93 = .ok (.invokevirtual 56, 3) := by decide +kernel
theorem dX1_listen_96 : decode cX1_listen 96 = .ok (.istore 8, 2) := by decide +kernel
theorem dX1_listen_98 : decode cX1_listen 98 = .ok (.aload_n 0, 1) := by decide +kernel
theorem dX1_listen_99 : decode cX1_listen 99 = .ok (.iload 4, 2) := by decide +kernel
theorem dX1_listen_101 : decode cX1_listen 101 = .ok (.iload 8, 2) := by decide +kernel
theorem dX1_listen_103 : decode cX1_listen 103 = .ok (.aload_n 1, 1) := by decide +kernel
theorem dX1_listen_104 : decode cX1_listen 104 = .ok (.getfield 59, 3) := by decide +kernel
theorem dX1_listen_107 : decode cX1_listen 107 = .ok (.imul, 1) := by decide +kernel
theorem dX1_listen_108 : decode cX1_listen 108 = .ok (.iload 7, 2) := by decide +kernel
theorem dX1_listen_110 : decode cX1_listen 110 = .ok (.iconst 2, 1) := by decide +kernel
theorem dX1_listen_111 : decode cX1_listen 111 = .ok (.idiv, 1) := by decide +kernel
theorem dX1_listen_112 : decode cX1_listen 112 = .ok (.iload 8, 2) := by decide +kernel
theorem dX1_listen_114 : decode cX1_listen 114 = .ok (.isub, 1) := by decide +kernel
theorem dX1_listen_115 : decode cX1_listen 115 = .ok (.invokevirtual 48, 3) := by decide +kernel
theorem dX1_listen_118 : decode cX1_listen 118 = .ok (.iload 5, 2) := by decide +kernel
theorem dX1_listen_120 : decode cX1_listen 120 = .ok (.iconst 4, 1) := by decide +kernel
theorem dX1_listen_121 : decode cX1_listen 121 = .ok (.if_icmp .ne 34, 3) := by decide +kernel
theorem dX1_listen_124 : decode cX1_listen 124 = .ok (.aload_n 1, 1) := by decide +kernel
theorem dX1_listen_125 : decode cX1_listen 125 = .ok (.iload 6, 2) := by decide +kernel
theorem dX1_listen_127 : decode cX1_listen 127 = .ok (.invokevirtual 62, 3) := by decide +kernel
theorem dX1_listen_130 : decode cX1_listen 130 = .ok (.istore 8, 2) := by decide +kernel
theorem dX1_listen_132 : decode cX1_listen 132 = .ok (.aload_n 0, 1) := by decide +kernel
theorem dX1_listen_133 : decode cX1_listen 133 = .ok (.iload 4, 2) := by decide +kernel
theorem dX1_listen_135 : decode cX1_listen 135 = .ok (.aload_n 1, 1) := by decide +kernel
theorem dX1_listen_136 : decode cX1_listen 136 = .ok (.iload 8, 2) := by decide +kernel
theorem dX1_listen_138 : decode cX1_listen 138 = .ok (.iload_n 3, 1) := by decide +kernel
theorem dX1_listen_139 : decode cX1_listen 139 = .ok (.invokevirtual 39, 3) := by decide +kernel
theorem dX1_listen_142 : decode cX1_listen 142 = .ok (.iload 7, 2) := by decide +kernel
theorem dX1_listen_144 : decode cX1_listen 144 = .ok (.aload_n 1, 1) := by decide +kernel
theorem dX1_listen_145 : decode cX1_listen 145 = .ok (.iload 8, 2) := by decide +kernel
theorem dX1_listen_147 : decode cX1_listen 147 = .ok (.iload_n 3, 1) := by decide +kernel
theorem dX1_listen_148 : decode cX1_listen 148 = .ok (.invokevirtual 45, 3) := by decide +kernel
theorem dX1_listen_151 : decode cX1_listen 151 = .ok (.isub, 1) := by decide +kernel
theorem dX1_listen_152 : decode cX1_listen 152 = .ok (.invokevirtual 48, 3) := by decide +kernel
theorem dX1_listen_155 : decode cX1_listen 155 = .ok (.iinc 4 1, 3) := by decide +kernel
theorem dX1_listen_158 : decode cX1_listen 158 = .ok (.goto (-150), 3) := by decide +kernel
theorem dX1_listen_161 : decode cX1_listen 161 = .ok (.return_, 1) := by decide +kernel
theorem dX1_add_0 : decode cX1_add 0 = .ok (.iload_n 3, 1) := by decide +kernel
theorem dX1_add_1 : decode cX1_add 1 = .ok (.ifCond .le 15, 3) := by decide +kernel
theorem dX1_add_4 : decode cX1_add 4 = .ok (.aload_n 0, 1) := by decide +kernel
theorem dX1_add_5 : decode cX1_add 5 = .ok (.getfield 9, 3) := by decide +kernel
theorem dX1_add_8 : decode cX1_add 8 = .ok (.aload_n 0, 1) := by decide +kernel
theorem dX1_add_9 : decode cX1_add 9 = .ok (.getfield 15, 3) := by decide +kernel
theorem dX1_add_12 : decode cX1_add 12 = .ok (.arraylength, 1) := by decide +kernel
theorem dX1_add_13 : decode cX1_add 13 = .ok (.if_icmp .lt 4, 3) := by decide +kernel
theorem dX1_add_16 : decode cX1_add 16 = .ok (.return_, 1) := by decide +kernel
theorem dX1_add_17 : decode cX1_add 17 = .ok (.aload_n 0, 1) := by decide +kernel
theorem dX1_add_18 : decode cX1_add 18 = .ok (.getfield 15, 3) := by decide +kernel
theorem dX1_add_21 : decode cX1_add 21 = .ok (.aload_n 0, 1) := by decide +kernel
theorem dX1_add_22 : decode cX1_add 22 = .ok (.getfield 9, 3) := by decide +kernel
theorem dX1_add_25 : decode cX1_add 25 = .ok (.iload_n 1, 1) := by decide +kernel
theorem dX1_add_26 : decode cX1_add 26 = .ok (.iastore, 1) := by decide +kernel
theorem dX1_add_27 : decode cX1_add 27 = .ok (.aload_n 0, 1) := by decide +kernel
theorem dX1_add_28 : decode cX1_add 28 = .ok (.getfield 19, 3) := by decide +kernel
theorem dX1_add_31 : decode cX1_add 31 = .ok (.aload_n 0, 1) := by decide +kernel
theorem dX1_add_32 : decode cX1_add 32 = .ok (.getfield 9, 3) := by decide +kernel
theorem dX1_add_35 : decode cX1_add 35 = .ok (.iload_n 2, 1) := by decide +kernel
theorem dX1_add_36 : decode cX1_add 36 = .ok (.iastore, 1) := by decide +kernel
theorem dX1_add_37 : decode cX1_add 37 = .ok (.aload_n 0, 1) := by decide +kernel
theorem dX1_add_38 : decode cX1_add 38 = .ok (.getfield 22, 3) := by decide +kernel
theorem dX1_add_41 : decode cX1_add 41 = .ok (.aload_n 0, 1) := by decide +kernel
theorem dX1_add_42 : decode cX1_add 42 = .ok (.getfield 9, 3) := by decide +kernel
theorem dX1_add_45 : decode cX1_add 45 = .ok (.iload_n 3, 1) := by decide +kernel
theorem dX1_add_46 : decode cX1_add 46 = .ok (.iastore, 1) := by decide +kernel
theorem dX1_add_47 : decode cX1_add 47 = .ok (.aload_n 0, 1) := by decide +kernel
theorem dX1_add_48 : decode cX1_add 48 = .ok (.dup, 1) := by decide +kernel
theorem dX1_add_49 : decode cX1_add 49 = .ok (.getfield 9, 3) := by decide +kernel
theorem dX1_add_52 : decode cX1_add 52 = .ok (.iconst 1, 1) := by decide +kernel
theorem dX1_add_53 : decode cX1_add 53 = .ok (.iadd, 1) := by decide +kernel
theorem dX1_add_54 : decode cX1_add 54 = .ok (.putfield 9, 3) := by decide +kernel
theorem dX1_add_57 : decode cX1_add 57 = .ok (.return_, 1) := by decide +kernel
theorem dX1_timeOf_0 : decode cX1_timeOf 0 = .ok (.aload_n 1, 1) := by decide +kernel
theorem dX1_timeOf_1 : decode cX1_timeOf 1 = .ok (.aload_n 0, 1) := by decide +kernel
theorem dX1_timeOf_2 : decode cX1_timeOf 2 = .ok (.getfield 15, 3) := by decide +kernel
theorem dX1_timeOf_5 : decode cX1_timeOf 5 = .ok (.iload_n 2, 1) := by decide +kernel
theorem dX1_timeOf_6 : decode cX1_timeOf 6 = .ok (.iaload, 1) := by decide +kernel
theorem dX1_timeOf_7 : decode cX1_timeOf 7 = .ok (.invokevirtual 66, 3) := by decide +kernel
theorem dX1_timeOf_10 : decode cX1_timeOf 10 = .ok (.aload_n 0, 1) := by decide +kernel
theorem dX1_timeOf_11 : decode cX1_timeOf 11 = .ok (.getfield 19, 3) := by decide +kernel
theorem dX1_timeOf_14 : decode cX1_timeOf 14 = .ok (.iload_n 2, 1) := by decide +kernel
theorem dX1_timeOf_15 : decode cX1_timeOf 15 = .ok (.iaload, 1) := by decide +kernel
theorem dX1_timeOf_16 : decode cX1_timeOf 16 = .ok (.iadd, 1) := by decide +kernel
theorem dX1_timeOf_17 : decode cX1_timeOf 17 = .ok (.ireturn, 1) := by decide +kernel
theorem dX1_spreadAt_0 : decode cX1_spreadAt 0 = .ok (.aload_n 0, 1) := by decide +kernel
theorem dX1_spreadAt_1 : decode cX1_spreadAt 1 = .ok (.aload_n 1, 1) := by decide +kernel
theorem dX1_spreadAt_2 : decode cX1_spreadAt 2 = .ok (.aload_n 2, 1) := by decide +kernel
theorem dX1_spreadAt_3 : decode cX1_spreadAt 3 = .ok (.iload_n 3, 1) := by decide +kernel
theorem dX1_spreadAt_4 : decode cX1_spreadAt 4 = .ok (.invokevirtual 69, 3) := by decide +kernel
theorem dX1_spreadAt_7 : decode cX1_spreadAt 7 = .ok (.aload_n 0, 1) := by decide +kernel
theorem dX1_spreadAt_8 : decode cX1_spreadAt 8 = .ok (.getfield 9, 3) := by decide +kernel
theorem dX1_spreadAt_11 : decode cX1_spreadAt 11 = .ok (.iconst 2, 1) := by decide +kernel
theorem dX1_spreadAt_12 : decode cX1_spreadAt 12 = .ok (.if_icmp .ge 5, 3) := by decide +kernel
theorem dX1_spreadAt_15 : decode cX1_spreadAt 15 = .ok (.iconst 0, 1) := by decide +kernel
theorem dX1_spreadAt_16 : decode cX1_spreadAt 16 = .ok (.ireturn, 1) := by decide +kernel
theorem dX1_spreadAt_17 : decode cX1_spreadAt 17 = .ok (.aload_n 0, 1) := by decide +kernel
theorem dX1_spreadAt_18 : decode cX1_spreadAt 18 = .ok (.aload_n 2, 1) := by decide +kernel
theorem dX1_spreadAt_19 : decode cX1_spreadAt 19 = .ok (.iconst 0, 1) := by decide +kernel
theorem dX1_spreadAt_20 : decode cX1_spreadAt 20 = .ok (.invokevirtual 73, 3) := by decide +kernel
theorem dX1_spreadAt_23 : decode cX1_spreadAt 23 = .ok (.istore 4, 2) := by decide +kernel
theorem dX1_spreadAt_25 : decode cX1_spreadAt 25 = .ok (.iload 4, 2) := by decide +kernel
theorem dX1_spreadAt_27 : decode cX1_spreadAt 27 = .ok (.istore 5, 2) := by decide +kernel
theorem dX1_spreadAt_29 : decode cX1_spreadAt 29 = .ok (.iconst 1, 1) := by decide +kernel
theorem dX1_spreadAt_30 : decode cX1_spreadAt 30 = .ok (.istore 6, 2) := by decide +kernel
theorem dX1_spreadAt_32 : decode cX1_spreadAt 32 = .ok (.iload 6, 2) := by decide +kernel
theorem dX1_spreadAt_34 : decode cX1_spreadAt 34 = .ok (.aload_n 0, 1) := by decide +kernel
theorem dX1_spreadAt_35 : decode cX1_spreadAt 35 = .ok (.getfield 9, 3) := by decide +kernel
theorem dX1_spreadAt_38 : decode cX1_spreadAt 38 = .ok (.if_icmp .ge 36, 3) := by decide +kernel
theorem dX1_spreadAt_41 : decode cX1_spreadAt 41 = .ok (.aload_n 0, 1) := by decide +kernel
theorem dX1_spreadAt_42 : decode cX1_spreadAt 42 = .ok (.aload_n 2, 1) := by decide +kernel
theorem dX1_spreadAt_43 : decode cX1_spreadAt 43 = .ok (.iload 6, 2) := by decide +kernel
theorem dX1_spreadAt_45 : decode cX1_spreadAt 45 = .ok (.invokevirtual 73, 3) := by decide +kernel
theorem dX1_spreadAt_48 : decode cX1_spreadAt 48 = .ok (.istore 7, 2) := by decide +kernel
theorem dX1_spreadAt_50 : decode cX1_spreadAt 50 = .ok (.iload 4, 2) := by decide +kernel
theorem dX1_spreadAt_52 : decode cX1_spreadAt 52 = .ok (.iload 7, 2) := by decide +kernel
theorem dX1_spreadAt_54 : decode cX1_spreadAt 54 = .ok (.invokestatic 77, 3) := by decide +kernel
theorem dX1_spreadAt_57 : decode cX1_spreadAt 57 = .ok (.istore 4, 2) := by decide +kernel
theorem dX1_spreadAt_59 : decode cX1_spreadAt 59 = .ok (.iload 5, 2) := by decide +kernel
theorem dX1_spreadAt_61 : decode cX1_spreadAt 61 = .ok (.iload 7, 2) := by decide +kernel
theorem dX1_spreadAt_63 : decode cX1_spreadAt 63 = .ok (.invokestatic 82, 3) := by decide +kernel
theorem dX1_spreadAt_66 : decode cX1_spreadAt 66 = .ok (.istore 5, 2) := by decide +kernel
theorem dX1_spreadAt_68 : decode cX1_spreadAt 68 = .ok (.iinc 6 1, 3) := by decide +kernel
theorem dX1_spreadAt_71 : decode cX1_spreadAt 71 = .ok (.goto (-39), 3) := by decide +kernel
theorem dX1_spreadAt_74 : decode cX1_spreadAt 74 = .ok (.iload 5, 2) := by decide +kernel
theorem dX1_spreadAt_76 : decode cX1_spreadAt 76 = .ok (.iload 4, 2) := by decide +kernel
theorem dX1_spreadAt_78 : decode cX1_spreadAt 78 = .ok (.isub, 1) := by decide +kernel
theorem dX1_spreadAt_79 : decode cX1_spreadAt 79 = .ok (.ireturn, 1) := by decide +kernel
theorem dX2_init_0 : decode cX2_init 0 = .ok (.aload_n 0, 1) := by decide +kernel
theorem dX2_init_1 : decode cX2_init 1 = .ok (.invokespecial 3, 3) := by decide +kernel
theorem dX2_init_4 : decode cX2_init 4 = .ok (.aload_n 0, 1) := by decide +kernel
theorem dX2_init_5 : decode cX2_init 5 = .ok (.iconst 0, 1) := by decide +kernel
theorem dX2_init_6 : decode cX2_init 6 = .ok (.newarray .byte, 2) := by decide +kernel
theorem dX2_init_8 : decode cX2_init 8 = .ok (.putfield 9, 3) := by decide +kernel
theorem dX2_init_11 : decode cX2_init 11 = .ok (.aload_n 0, 1) := by decide +kernel
theorem dX2_init_12 : decode cX2_init 12 = .ok (.iconst 0, 1) := by decide +kernel
theorem dX2_init_13 : decode cX2_init 13 = .ok (.putfield 15, 3) := by decide +kernel
theorem dX2_init_16 : decode cX2_init 16 = .ok (.aload_n 0, 1) := by decide +kernel
theorem dX2_init_17 : decode cX2_init 17 = .ok (.iconst 0, 1) := by decide +kernel
theorem dX2_init_18 : decode cX2_init 18 = .ok (.putfield 19, 3) := by decide +kernel
theorem dX2_init_21 : decode cX2_init 21 = .ok (.aload_n 0, 1) := by decide +kernel
theorem dX2_init_22 : decode cX2_init 22 = .ok (.iconst 0, 1) := by decide +kernel
theorem dX2_init_23 : decode cX2_init 23 = .ok (.putfield 22, 3) := by decide +kernel
theorem dX2_init_26 : decode cX2_init 26 = .ok (.aload_n 0, 1) := by decide +kernel
theorem dX2_init_27 : decode cX2_init 27 = .ok (.iconst 0, 1) := by decide +kernel
theorem dX2_init_28 : decode cX2_init 28 = .ok (.putfield 25, 3) := by decide +kernel
theorem dX2_init_31 : decode cX2_init 31 = .ok (.aload_n 0, 1) := by decide +kernel
theorem dX2_init_32 : decode cX2_init 32 = .ok (.iconst 0, 1) := by decide +kernel
theorem dX2_init_33 : decode cX2_init 33 = .ok (.putfield 28, 3) := by decide +kernel
theorem dX2_init_36 : decode cX2_init 36 = .ok (.aload_n 0, 1) := by decide +kernel
theorem dX2_init_37 : decode cX2_init 37 = .ok (.iconst 0, 1) := by decide +kernel
theorem dX2_init_38 : decode cX2_init 38 = .ok (.putfield 31, 3) := by decide +kernel
theorem dX2_init_41 : decode cX2_init 41 = .ok (.return_, 1) := by decide +kernel
theorem dX2_readTown_0 : decode cX2_readTown 0 = .ok (.aload_n 0, 1) := by decide +kernel
theorem dX2_readTown_1 : decode cX2_readTown 1 = .ok (.aload_n 1, 1) := by decide +kernel
theorem dX2_readTown_2 : decode cX2_readTown 2 = .ok (.putfield 9, 3) := by decide +kernel
theorem dX2_readTown_5 : decode cX2_readTown 5 = .ok (.aload_n 0, 1) := by decide +kernel
theorem dX2_readTown_6 : decode cX2_readTown 6 = .ok (.iload_n 2, 1) := by decide +kernel
theorem dX2_readTown_7 : decode cX2_readTown 7 = .ok (.aload_n 1, 1) := by decide +kernel
theorem dX2_readTown_8 : decode cX2_readTown 8 = .ok (.arraylength, 1) := by decide +kernel
theorem dX2_readTown_9 : decode cX2_readTown 9 = .ok (.invokestatic 34, 3) := by decide +kernel
theorem dX2_readTown_12 : decode cX2_readTown 12 = .ok (.putfield 15, 3) := by decide +kernel
theorem dX2_readTown_15 : decode cX2_readTown 15 = .ok (.aload_n 0, 1) := by decide +kernel
theorem dX2_readTown_16 : decode cX2_readTown 16 = .ok (.iconst 0, 1) := by decide +kernel
theorem dX2_readTown_17 : decode cX2_readTown 17 = .ok (.putfield 19, 3) := by decide +kernel
theorem dX2_readTown_20 : decode cX2_readTown 20 = .ok (.iconst 0, 1) := by decide +kernel
theorem dX2_readTown_21 : decode cX2_readTown 21 = .ok (.istore 5, 2) := by decide +kernel
theorem dX2_readTown_23 : decode cX2_readTown 23 = .ok (.iload 5, 2) := by decide +kernel
theorem dX2_readTown_25 : decode cX2_readTown 25 = .ok (.aload_n 0, 1) := by decide +kernel
theorem dX2_readTown_26 : decode cX2_readTown 26 = .ok (.getfield 15, 3) := by decide +kernel
theorem dX2_readTown_29 : decode cX2_readTown 29 = .ok (.if_icmp .gt 43, 3) := by decide +kernel
theorem dX2_readTown_32 : decode cX2_readTown 32 = .ok (.aload_n 0, 1) := by decide +kernel
theorem dX2_readTown_33 : decode cX2_readTown 33 = .ok (.invokevirtual 40, 3) := by decide +kernel
theorem dX2_readTown_36 : decode cX2_readTown 36 = .ok (.aload_n 0, 1) := by decide +kernel
theorem dX2_readTown_37 : decode cX2_readTown 37 = .ok (.getfield 25, 3) := by decide +kernel
theorem dX2_readTown_40 : decode cX2_readTown 40 = .ok (.ifCond .ne 6, 3) := by decide +kernel
theorem dX2_readTown_43 : decode cX2_readTown 43 = .ok (.iload 5, 2) := by decide +kernel
theorem dX2_readTown_45 : decode cX2_readTown 45 = .ok (.ireturn, 1) := by decide +kernel
theorem dX2_readTown_46 : decode cX2_readTown 46 = .ok (.aload_n 0, 1) := by decide +kernel
theorem dX2_readTown_47 : decode cX2_readTown 47 = .ok (.aload_n 3, 1) := by decide +kernel
theorem dX2_readTown_48 : decode cX2_readTown 48 = .ok (.aload 4, 2) := by decide +kernel
theorem dX2_readTown_50 : decode cX2_readTown 50 = .ok (.invokevirtual 43, 3) := by decide +kernel
theorem dX2_readTown_53 : decode cX2_readTown 53 = .ok (.ifCond .ne 13, 3) := by decide +kernel
theorem dX2_readTown_56 : decode cX2_readTown 56 = .ok (.aload_n 0, 1) := by decide +kernel
theorem dX2_readTown_57 : decode cX2_readTown 57 = .ok (.aload_n 0, 1) := by decide +kernel
theorem dX2_readTown_58 : decode cX2_readTown 58 = .ok (.getfield 22, 3) := by decide +kernel
theorem dX2_readTown_61 : decode cX2_readTown 61 = .ok (.putfield 31, 3) := by decide +kernel
theorem dX2_readTown_64 : decode cX2_readTown 64 = .ok (.iconst (-1), 1) := by decide +kernel
theorem dX2_readTown_65 : decode cX2_readTown 65 = .ok (.ireturn, 1) := by decide +kernel
theorem dX2_readTown_66 : decode cX2_readTown 66 = .ok (.iinc 5 1, 3) := by decide +kernel
theorem dX2_readTown_69 : decode cX2_readTown 69 = .ok (.goto (-46), 3) := by decide +kernel
theorem dX2_readTown_72 : decode cX2_readTown 72 = .ok (.iconst (-1), 1) := by decide +kernel
theorem dX2_readTown_73 : decode cX2_readTown 73 = .ok (.ireturn, 1) := by decide +kernel
theorem dX2_readItem_0 : decode cX2_readItem 0 = .ok (.aload_n 0, 1) := by decide +kernel
theorem dX2_readItem_1 : decode cX2_readItem 1 = .ok (.getfield 25, 3) := by decide +kernel
theorem dX2_readItem_4 : decode cX2_readItem 4 = .ok (.iconst 1, 1) := by decide +kernel
theorem dX2_readItem_5 : decode cX2_readItem 5 = .ok (.if_icmp .eq 5, 3) := by decide +kernel
theorem dX2_readItem_8 : decode cX2_readItem 8 = .ok (.iconst 0, 1) := by decide +kernel
theorem dX2_readItem_9 : decode cX2_readItem 9 = .ok (.ireturn, 1) := by decide +kernel
theorem dX2_readItem_10 : decode cX2_readItem 10 = .ok (.aload_n 0, 1) := by decide +kernel
theorem dX2_readItem_11 : decode cX2_readItem 11 = .ok (.ldc 47, 2) := by decide +kernel
theorem dX2_readItem_13 : decode cX2_readItem 13 = .ok (.invokevirtual 49, 3) := by decide +kernel
theorem dX2_readItem_16 : decode cX2_readItem 16 = .ok (.ifCond .eq 9, 3) := by decide +kernel
theorem dX2_readItem_19 : decode cX2_readItem 19 = .ok (.aload_n 0, 1) := by decide +kernel
theorem dX2_readItem_20 : decode cX2_readItem 20 = .ok (.aload_n 1, 1) := by decide +kernel
theorem dX2_readItem_21 : decode cX2_readItem 21 = .ok (.invokevirtual 53, 3) := by decide +kernel
theorem dX2_readItem_24 : decode cX2_readItem 24 = .ok (.ireturn, 1) := by decide +kernel
theorem dX2_readItem_25 : decode cX2_readItem 25 = .ok (.aload_n 0, 1) := by decide +kernel
theorem dX2_readItem_26 : decode cX2_readItem 26 = .ok (.ldc 57, 2) := by decide +kernel
theorem dX2_readItem_28 : decode cX2_readItem 28 = .ok (.invokevirtual 49, 3) := by decide +kernel
theorem dX2_readItem_31 : decode cX2_readItem 31 = .ok (.ifCond .eq 9, 3) := by decide +kernel
theorem dX2_readItem_34 : decode cX2_readItem 34 = .ok (.aload_n 0, 1) := by decide +kernel
theorem dX2_readItem_35 : decode cX2_readItem 35 = .ok (.aload_n 1, 1) := by decide +kernel
theorem dX2_readItem_36 : decode cX2_readItem 36 = .ok (.invokevirtual 59, 3) := by decide +kernel
theorem dX2_readItem_39 : decode cX2_readItem 39 = .ok (.ireturn, 1) := by decide +kernel
theorem dX2_readItem_40 : decode cX2_readItem 40 = .ok (.aload_n 0, 1) := by decide +kernel
theorem dX2_readItem_41 : decode cX2_readItem 41 = .ok (.ldc 62, 2) := by decide +kernel
theorem dX2_readItem_43 : decode cX2_readItem 43 = .ok (.invokevirtual 49, 3) := by decide +kernel
theorem dX2_readItem_46 : decode cX2_readItem 46 = .ok (.ifCond .eq 9, 3) := by decide +kernel
theorem dX2_readItem_49 : decode cX2_readItem 49 = .ok (.aload_n 0, 1) := by decide +kernel
theorem dX2_readItem_50 : decode cX2_readItem 50 = .ok (.aload_n 1, 1) := by decide +kernel
theorem dX2_readItem_51 : decode cX2_readItem 51 = .ok (.invokevirtual 64, 3) := by decide +kernel
theorem dX2_readItem_54 : decode cX2_readItem 54 = .ok (.ireturn, 1) := by decide +kernel
theorem dX2_readItem_55 : decode cX2_readItem 55 = .ok (.aload_n 0, 1) := by decide +kernel
theorem dX2_readItem_56 : decode cX2_readItem 56 = .ok (.ldc 67, 2) := by decide +kernel
theorem dX2_readItem_58 : decode cX2_readItem 58 = .ok (.invokevirtual 49, 3) := by decide +kernel
theorem dX2_readItem_61 : decode cX2_readItem 61 = .ok (.ifCond .eq 9, 3) := by decide +kernel
theorem dX2_readItem_64 : decode cX2_readItem 64 = .ok (.aload_n 0, 1) := by decide +kernel
theorem dX2_readItem_65 : decode cX2_readItem 65 = .ok (.aload_n 1, 1) := by decide +kernel
theorem dX2_readItem_66 : decode cX2_readItem 66 = .ok (.invokevirtual 69, 3) := by decide +kernel
theorem dX2_readItem_69 : decode cX2_readItem 69 = .ok (.ireturn, 1) := by decide +kernel
theorem dX2_readItem_70 : decode cX2_readItem 70 = .ok (.aload_n 0, 1) := by decide +kernel
theorem dX2_readItem_71 : decode cX2_readItem 71 = .ok (.ldc 72, 2) := by decide +kernel
theorem dX2_readItem_73 : decode cX2_readItem 73 = .ok (.invokevirtual 49, 3) := by decide +kernel
theorem dX2_readItem_76 : decode cX2_readItem 76 = .ok (.ifCond .eq 10, 3) := by decide +kernel
theorem dX2_readItem_79 : decode cX2_readItem 79 = .ok (.aload_n 0, 1) := by decide +kernel
theorem dX2_readItem_80 : decode cX2_readItem 80 = .ok (.aload_n 1, 1) := by decide +kernel
theorem dX2_readItem_81 : decode cX2_readItem 81 = .ok (.aload_n 2, 1) := by decide +kernel
theorem dX2_readItem_82 : decode cX2_readItem 82 = .ok (.invokevirtual 74, 3) := by decide +kernel
theorem dX2_readItem_85 : decode cX2_readItem 85 = .ok (.ireturn, 1) := by decide +kernel
theorem dX2_readItem_86 : decode cX2_readItem 86 = .ok (.aload_n 0, 1) := by decide +kernel
theorem dX2_readItem_87 : decode cX2_readItem 87 = .ok (.ldc 77, 2) := by decide +kernel
theorem dX2_readItem_89 : decode cX2_readItem 89 = .ok (.invokevirtual 49, 3) := by decide +kernel
theorem dX2_readItem_92 : decode cX2_readItem 92 = .ok (.ifCond .eq 9, 3) := by decide +kernel
theorem dX2_readItem_95 : decode cX2_readItem 95 = .ok (.aload_n 0, 1) := by decide +kernel
theorem dX2_readItem_96 : decode cX2_readItem 96 = .ok (.aload_n 2, 1) := by decide +kernel
theorem dX2_readItem_97 : decode cX2_readItem 97 = .ok (.invokevirtual 79, 3) := by decide +kernel
theorem dX2_readItem_100 : decode cX2_readItem 100 = .ok (.ireturn, 1) := by decide +kernel
theorem dX2_readItem_101 : decode cX2_readItem 101 = .ok (.iconst 0, 1) := by decide +kernel
theorem dX2_readItem_102 : decode cX2_readItem 102 = .ok (.ireturn, 1) := by decide +kernel
theorem dX2_readWindow_0 : decode cX2_readWindow 0 = .ok (.aload_n 1, 1) := by decide +kernel
theorem dX2_readWindow_1 : decode cX2_readWindow 1 = .ok (.getfield 83, 3) := by decide +kernel
theorem dX2_readWindow_4 : decode cX2_readWindow 4 = .ok (.bipush 6, 2) := by decide +kernel
theorem dX2_readWindow_6 : decode cX2_readWindow 6 = .ok (.if_icmp .ge 13, 3) := by decide +kernel
theorem dX2_readWindow_9 : decode cX2_readWindow 9 = .ok (.aload_n 0, 1) := by decide +kernel
theorem dX2_readWindow_10 : decode cX2_readWindow 10 = .ok (.iconst 0, 1) := by decide +kernel
theorem dX2_readWindow_11 : decode cX2_readWindow 11 = .ok (.bipush 99, 2) := by decide +kernel
theorem dX2_readWindow_13 : decode cX2_readWindow 13 = .ok (.invokevirtual 88, 3) := by decide +kernel
theorem dX2_readWindow_16 : decode cX2_readWindow 16 = .ok (.ifCond .ne 5, 3) := by decide +kernel
theorem dX2_readWindow_19 : decode cX2_readWindow 19 = .ok (.iconst 0, 1) := by decide +kernel
theorem dX2_readWindow_20 : decode cX2_readWindow 20 = .ok (.ireturn, 1) := by decide +kernel
theorem dX2_readWindow_21 : decode cX2_readWindow 21 = .ok (.aload_n 0, 1) := by decide +kernel
theorem dX2_readWindow_22 : decode cX2_readWindow 22 = .ok (.getfield 28, 3) := by decide +kernel
theorem dX2_readWindow_25 : decode cX2_readWindow 25 = .ok (.istore_n 2, 1) := by decide +kernel
theorem dX2_readWindow_26 : decode cX2_readWindow 26 = .ok (.aload_n 0, 1) := by decide +kernel
theorem dX2_readWindow_27 : decode cX2_readWindow 27 = .ok (.iconst 0, 1) := by decide +kernel
theorem dX2_readWindow_28 : decode cX2_readWindow 28 = .ok (.bipush 99, 2) := by decide +kernel
theorem dX2_readWindow_30 : decode cX2_readWindow 30 = .ok (.invokevirtual 88, 3) := by decide +kernel
theorem dX2_readWindow_33 : decode cX2_readWindow 33 = .ok (.ifCond .ne 5, 3) := by decide +kernel
theorem dX2_readWindow_36 : decode cX2_readWindow 36 = .ok (.iconst 0, 1) := by decide +kernel
theorem dX2_readWindow_37 : decode cX2_readWindow 37 = .ok (.ireturn, 1) := by decide +kernel
theorem dX2_readWindow_38 : decode cX2_readWindow 38 = .ok (.aload_n 1, 1) := by decide +kernel
theorem dX2_readWindow_39 : decode cX2_readWindow 39 = .ok (.iload_n 2, 1) := by decide +kernel
theorem dX2_readWindow_40 : decode cX2_readWindow 40 = .ok (.aload_n 0, 1) := by decide +kernel
theorem dX2_readWindow_41 : decode cX2_readWindow 41 = .ok (.getfield 28, 3) := by decide +kernel
theorem dX2_readWindow_44 : decode cX2_readWindow 44 = .ok (.invokevirtual 92, 3) := by decide +kernel
theorem dX2_readWindow_47 : decode cX2_readWindow 47 = .ok (.pop, 1) := by decide +kernel
theorem dX2_readWindow_48 : decode cX2_readWindow 48 = .ok (.aload_n 0, 1) := by decide +kernel
theorem dX2_readWindow_49 : decode cX2_readWindow 49 = .ok (.invokevirtual 95, 3) := by decide +kernel
theorem dX2_readWindow_52 : decode cX2_readWindow 52 = .ok (.ireturn, 1) := by decide +kernel
theorem dX2_readEar_0 : decode cX2_readEar 0 = .ok (.aload_n 1, 1) := by decide +kernel
theorem dX2_readEar_1 : decode cX2_readEar 1 = .ok (.getfield 99, 3) := by decide +kernel
theorem dX2_readEar_4 : decode cX2_readEar 4 = .ok (.iconst 3, 1) := by decide +kernel
theorem dX2_readEar_5 : decode cX2_readEar 5 = .ok (.if_icmp .ge 13, 3) := by decide +kernel
theorem dX2_readEar_8 : decode cX2_readEar 8 = .ok (.aload_n 0, 1) := by decide +kernel
theorem dX2_readEar_9 : decode cX2_readEar 9 = .ok (.iconst 0, 1) := by decide +kernel
theorem dX2_readEar_10 : decode cX2_readEar 10 = .ok (.bipush 99, 2) := by decide +kernel
theorem dX2_readEar_12 : decode cX2_readEar 12 = .ok (.invokevirtual 88, 3) := by decide +kernel
theorem dX2_readEar_15 : decode cX2_readEar 15 = .ok (.ifCond .ne 5, 3) := by decide +kernel
theorem dX2_readEar_18 : decode cX2_readEar 18 = .ok (.iconst 0, 1) := by decide +kernel
theorem dX2_readEar_19 : decode cX2_readEar 19 = .ok (.ireturn, 1) := by decide +kernel
theorem dX2_readEar_20 : decode cX2_readEar 20 = .ok (.aload_n 0, 1) := by decide +kernel
theorem dX2_readEar_21 : decode cX2_readEar 21 = .ok (.getfield 28, 3) := by decide +kernel
theorem dX2_readEar_24 : decode cX2_readEar 24 = .ok (.istore_n 2, 1) := by decide +kernel
theorem dX2_readEar_25 : decode cX2_readEar 25 = .ok (.aload_n 0, 1) := by decide +kernel
theorem dX2_readEar_26 : decode cX2_readEar 26 = .ok (.iconst 0, 1) := by decide +kernel
theorem dX2_readEar_27 : decode cX2_readEar 27 = .ok (.bipush 99, 2) := by decide +kernel
theorem dX2_readEar_29 : decode cX2_readEar 29 = .ok (.invokevirtual 88, 3) := by decide +kernel
theorem dX2_readEar_32 : decode cX2_readEar 32 = .ok (.ifCond .ne 5, 3) := by decide +kernel
theorem dX2_readEar_35 : decode cX2_readEar 35 = .ok (.iconst 0, 1) := by decide +kernel
theorem dX2_readEar_36 : decode cX2_readEar 36 = .ok (.ireturn, 1) := by decide +kernel
theorem dX2_readEar_37 : decode cX2_readEar 37 = .ok (.aload_n 1, 1) := by decide +kernel
theorem dX2_readEar_38 : decode cX2_readEar 38 = .ok (.iload_n 2, 1) := by decide +kernel
theorem dX2_readEar_39 : decode cX2_readEar 39 = .ok (.aload_n 0, 1) := by decide +kernel
theorem dX2_readEar_40 : decode cX2_readEar 40 = .ok (.getfield 28, 3) := by decide +kernel
theorem dX2_readEar_43 : decode cX2_readEar 43 = .ok (.invokevirtual 102, 3) := by decide +kernel
theorem dX2_readEar_46 : decode cX2_readEar 46 = .ok (.pop, 1) := by decide +kernel
theorem dX2_readEar_47 : decode cX2_readEar 47 = .ok (.aload_n 0, 1) := by decide +kernel
theorem dX2_readEar_48 : decode cX2_readEar 48 = .ok (.invokevirtual 95, 3) := by decide +kernel
theorem dX2_readEar_51 : decode cX2_readEar 51 = .ok (.ireturn, 1) := by decide +kernel
theorem dX2_readMill_0 : decode cX2_readMill 0 = .ok (.aload_n 0, 1) := by decide +kernel
theorem dX2_readMill_1 : decode cX2_readMill 1 = .ok (.iconst 0, 1) := by decide +kernel
theorem dX2_readMill_2 : decode cX2_readMill 2 = .ok (.bipush 99, 2) := by decide +kernel
theorem dX2_readMill_4 : decode cX2_readMill 4 = .ok (.invokevirtual 88, 3) := by decide +kernel
theorem dX2_readMill_7 : decode cX2_readMill 7 = .ok (.ifCond .ne 5, 3) := by decide +kernel
theorem dX2_readMill_10 : decode cX2_readMill 10 = .ok (.iconst 0, 1) := by decide +kernel
theorem dX2_readMill_11 : decode cX2_readMill 11 = .ok (.ireturn, 1) := by decide +kernel
theorem dX2_readMill_12 : decode cX2_readMill 12 = .ok (.aload_n 0, 1) := by decide +kernel
theorem dX2_readMill_13 : decode cX2_readMill 13 = .ok (.getfield 28, 3) := by decide +kernel
theorem dX2_readMill_16 : decode cX2_readMill 16 = .ok (.istore_n 2, 1) := by decide +kernel
theorem dX2_readMill_17 : decode cX2_readMill 17 = .ok (.aload_n 0, 1) := by decide +kernel
theorem dX2_readMill_18 : decode cX2_readMill 18 = .ok (.iconst 0, 1) := by decide +kernel
theorem dX2_readMill_19 : decode cX2_readMill 19 = .ok (.bipush 99, 2) := by decide +kernel
theorem dX2_readMill_21 : decode cX2_readMill 21 = .ok (.invokevirtual 88, 3) := by decide +kernel
theorem dX2_readMill_24 : decode cX2_readMill 24 = .ok (.ifCond .ne 5, 3) := by decide +kernel
theorem dX2_readMill_27 : decode cX2_readMill 27 = .ok (.iconst 0, 1) := by decide +kernel
theorem dX2_readMill_28 : decode cX2_readMill 28 = .ok (.ireturn, 1) := by decide +kernel
theorem dX2_readMill_29 : decode cX2_readMill 29 = .ok (.aload_n 1, 1) := by decide +kernel
theorem dX2_readMill_30 : decode cX2_readMill 30 = .ok (.iload_n 2, 1) := by decide +kernel
theorem dX2_readMill_31 : decode cX2_readMill 31 = .ok (.aload_n 0, 1) := by decide +kernel
theorem dX2_readMill_32 : decode cX2_readMill 32 = .ok (.getfield 28, 3) := by decide +kernel
theorem dX2_readMill_35 : decode cX2_readMill 35 = .ok (.invokevirtual 105, 3) := by decide +kernel
theorem dX2_readMill_38 : decode cX2_readMill 38 = .ok (.aload_n 0, 1) := by decide +kernel
theorem dX2_readMill_39 : decode cX2_readMill 39 = .ok (.invokevirtual 95, 3) := by decide +kernel
theorem dX2_readMill_42 : decode cX2_readMill 42 = .ok (.ireturn, 1) := by decide +kernel
theorem dX2_readSlow_0 : decode cX2_readSlow 0 = .ok (.aload_n 0, 1) := by decide +kernel
theorem dX2_readSlow_1 : decode cX2_readSlow 1 = .ok (.iconst 1, 1) := by decide +kernel
theorem dX2_readSlow_2 : decode cX2_readSlow 2 = .ok (.bipush 9, 2) := by decide +kernel
theorem dX2_readSlow_4 : decode cX2_readSlow 4 = .ok (.invokevirtual 88, 3) := by decide +kernel
theorem dX2_readSlow_7 : decode cX2_readSlow 7 = .ok (.ifCond .ne 5, 3) := by decide +kernel
theorem dX2_readSlow_10 : decode cX2_readSlow 10 = .ok (.iconst 0, 1) := by decide +kernel
theorem dX2_readSlow_11 : decode cX2_readSlow 11 = .ok (.ireturn, 1) := by decide +kernel
theorem dX2_readSlow_12 : decode cX2_readSlow 12 = .ok (.aload_n 1, 1) := by decide +kernel
theorem dX2_readSlow_13 : decode cX2_readSlow 13 = .ok (.aload_n 0, 1) := by decide +kernel
theorem dX2_readSlow_14 : decode cX2_readSlow 14 = .ok (.getfield 28, 3) := by decide +kernel
theorem dX2_readSlow_17 : decode cX2_readSlow 17 = .ok (.putfield 109, 3) := by decide +kernel
theorem dX2_readSlow_20 : decode cX2_readSlow 20 = .ok (.aload_n 0, 1) := by decide +kernel
theorem dX2_readSlow_21 : decode cX2_readSlow 21 = .ok (.invokevirtual 95, 3) := by decide +kernel
theorem dX2_readSlow_24 : decode cX2_readSlow 24 = .ok (.ireturn, 1) := by decide +kernel
theorem dX2_readPlayer_0 : decode cX2_readPlayer 0 = .ok (.aload_n 2, 1) := by decide +kernel
theorem dX2_readPlayer_1 : decode cX2_readPlayer 1 = .ok (.getfield 111, 3) := by decide +kernel
theorem dX2_readPlayer_4 : decode cX2_readPlayer 4 = .ok (.bipush 6, 2) := by decide +kernel
theorem dX2_readPlayer_6 : decode cX2_readPlayer 6 = .ok (.if_icmp .ge 12, 3) := by decide +kernel
theorem dX2_readPlayer_9 : decode cX2_readPlayer 9 = .ok (.aload_n 0, 1) := by decide +kernel
theorem dX2_readPlayer_10 : decode cX2_readPlayer 10 = .ok (.iconst 0, 1) := by decide +kernel
theorem dX2_readPlayer_11 : decode cX2_readPlayer 11 = .ok (.iconst 5, 1) := by decide +kernel
theorem dX2_readPlayer_12 : decode cX2_readPlayer 12 = .ok (.invokevirtual 88, 3) := by decide +kernel
theorem dX2_readPlayer_15 : decode cX2_readPlayer 15 = .ok (.ifCond .ne 5, 3) := by decide +kernel
theorem dX2_readPlayer_18 : decode cX2_readPlayer 18 = .ok (.iconst 0, 1) := by decide +kernel
theorem dX2_readPlayer_19 : decode cX2_readPlayer 19 = .ok (.ireturn, 1) := by decide +kernel
theorem dX2_readPlayer_20 : decode cX2_readPlayer 20 = .ok (.aload_n 0, 1) := by decide +kernel
theorem dX2_readPlayer_21 : decode cX2_readPlayer 21 = .ok (.getfield 28, 3) := by decide +kernel
theorem dX2_readPlayer_24 : decode cX2_readPlayer 24 = .ok (.istore_n 3, 1) := by decide +kernel
theorem dX2_readPlayer_25 : decode cX2_readPlayer 25 = .ok (.aload_n 0, 1) := by decide +kernel
theorem dX2_readPlayer_26 : decode cX2_readPlayer 26 = .ok (.iconst 0, 1) := by decide +kernel
theorem dX2_readPlayer_27 : decode cX2_readPlayer 27 = .ok (.aload_n 1, 1) := by decide +kernel
theorem dX2_readPlayer_28 : decode cX2_readPlayer 28 = .ok (.getfield 83, 3) := by decide +kernel
theorem dX2_readPlayer_31 : decode cX2_readPlayer 31 = .ok (.iconst 1, 1) := by decide +kernel
theorem dX2_readPlayer_32 : decode cX2_readPlayer 32 = .ok (.isub, 1) := by decide +kernel
theorem dX2_readPlayer_33 : decode cX2_readPlayer 33 = .ok (.invokevirtual 88, 3) := by decide +kernel
theorem dX2_readPlayer_36 : decode cX2_readPlayer 36 = .ok (.ifCond .eq 14, 3) := by decide +kernel
theorem dX2_readPlayer_39 : decode cX2_readPlayer 39 = .ok (.aload_n 2, 1) := by decide +kernel
theorem dX2_readPlayer_40 : decode cX2_readPlayer 40 = .ok (.aload_n 0, 1) := by decide +kernel
theorem dX2_readPlayer_41 : decode cX2_readPlayer 41 = .ok (.getfield 28, 3) := by decide +kernel
theorem dX2_readPlayer_44 : decode cX2_readPlayer 44 = .ok (.invokevirtual 116, 3) := by decide +kernel
theorem dX2_readPlayer_47 : decode cX2_readPlayer 47 = .ok (.ifCond .eq 5, 3) := by decide +kernel
theorem dX2_readPlayer_50 : decode cX2_readPlayer 50 = .ok (.iconst 0, 1) := by decide +kernel
theorem dX2_readPlayer_51 : decode cX2_readPlayer 51 = .ok (.ireturn, 1) := by decide +kernel
theorem dX2_readPlayer_52 : decode cX2_readPlayer 52 = .ok (.aload_n 0, 1) := by decide +kernel
theorem dX2_readPlayer_53 : decode cX2_readPlayer 53 = .ok (.getfield 28, 3) := by decide +kernel
theorem dX2_readPlayer_56 : decode cX2_readPlayer 56 = .ok (.istore 4, 2) := by decide +kernel
theorem dX2_readPlayer_58 : decode cX2_readPlayer 58 = .ok (.aload_n 0, 1) := by decide +kernel
theorem dX2_readPlayer_59 : decode cX2_readPlayer 59 = .ok (.iconst 1, 1) := by decide +kernel
theorem dX2_readPlayer_60 : decode cX2_readPlayer 60 = .ok (.bipush 99, 2) := by decide +kernel
theorem dX2_readPlayer_62 : decode cX2_readPlayer 62 = .ok (.invokevirtual 88, 3) := by decide +kernel
theorem dX2_readPlayer_65 : decode cX2_readPlayer 65 = .ok (.ifCond .ne 5, 3) := by decide +kernel
theorem dX2_readPlayer_68 : decode cX2_readPlayer 68 = .ok (.iconst 0, 1) := by decide +kernel
theorem dX2_readPlayer_69 : decode cX2_readPlayer 69 = .ok (.ireturn, 1) := by decide +kernel
theorem dX2_readPlayer_70 : decode cX2_readPlayer 70 = .ok (.aload_n 2, 1) := by decide +kernel
theorem dX2_readPlayer_71 : decode cX2_readPlayer 71 = .ok (.iload_n 3, 1) := by decide +kernel
theorem dX2_readPlayer_72 : decode cX2_readPlayer 72 = .ok (.iload 4, 2) := by decide +kernel
theorem dX2_readPlayer_74 : decode cX2_readPlayer 74 = .ok (.aload_n 0, 1) := by decide +kernel
theorem dX2_readPlayer_75 : decode cX2_readPlayer 75 = .ok (.getfield 28, 3) := by decide +kernel
theorem dX2_readPlayer_78 : decode cX2_readPlayer 78 = .ok (.invokevirtual 120, 3) := by decide +kernel
theorem dX2_readPlayer_81 : decode cX2_readPlayer 81 = .ok (.pop, 1) := by decide +kernel
theorem dX2_readPlayer_82 : decode cX2_readPlayer 82 = .ok (.aload_n 0, 1) := by decide +kernel
theorem dX2_readPlayer_83 : decode cX2_readPlayer 83 = .ok (.invokevirtual 95, 3) := by decide +kernel
theorem dX2_readPlayer_86 : decode cX2_readPlayer 86 = .ok (.ireturn, 1) := by decide +kernel
theorem dX2_readOffset_0 : decode cX2_readOffset 0 = .ok (.aload_n 0, 1) := by decide +kernel
theorem dX2_readOffset_1 : decode cX2_readOffset 1 = .ok (.iconst 0, 1) := by decide +kernel
theorem dX2_readOffset_2 : decode cX2_readOffset 2 = .ok (.aload_n 1, 1) := by decide +kernel
theorem dX2_readOffset_3 : decode cX2_readOffset 3 = .ok (.getfield 111, 3) := by decide +kernel
theorem dX2_readOffset_6 : decode cX2_readOffset 6 = .ok (.iconst 1, 1) := by decide +kernel
theorem dX2_readOffset_7 : decode cX2_readOffset 7 = .ok (.isub, 1) := by decide +kernel
theorem dX2_readOffset_8 : decode cX2_readOffset 8 = .ok (.invokevirtual 88, 3) := by decide +kernel
theorem dX2_readOffset_11 : decode cX2_readOffset 11 = .ok (.ifCond .ne 5, 3) := by decide +kernel
theorem dX2_readOffset_14 : decode cX2_readOffset 14 = .ok (.iconst 0, 1) := by decide +kernel
theorem dX2_readOffset_15 : decode cX2_readOffset 15 = .ok (.ireturn, 1) := by decide +kernel
theorem dX2_readOffset_16 : decode cX2_readOffset 16 = .ok (.aload_n 0, 1) := by decide +kernel
theorem dX2_readOffset_17 : decode cX2_readOffset 17 = .ok (.getfield 28, 3) := by decide +kernel
theorem dX2_readOffset_20 : decode cX2_readOffset 20 = .ok (.istore_n 2, 1) := by decide +kernel
theorem dX2_readOffset_21 : decode cX2_readOffset 21 = .ok (.aload_n 0, 1) := by decide +kernel
theorem dX2_readOffset_22 : decode cX2_readOffset 22 = .ok (.invokevirtual 40, 3) := by decide +kernel
theorem dX2_readOffset_25 : decode cX2_readOffset 25 = .ok (.aload_n 0, 1) := by decide +kernel
theorem dX2_readOffset_26 : decode cX2_readOffset 26 = .ok (.getfield 25, 3) := by decide +kernel
theorem dX2_readOffset_29 : decode cX2_readOffset 29 = .ok (.iconst 3, 1) := by decide +kernel
theorem dX2_readOffset_30 : decode cX2_readOffset 30 = .ok (.if_icmp .ne 7, 3) := by decide +kernel
theorem dX2_readOffset_33 : decode cX2_readOffset 33 = .ok (.iconst 1, 1) := by decide +kernel
theorem dX2_readOffset_34 : decode cX2_readOffset 34 = .ok (.goto 4, 3) := by decide +kernel
theorem dX2_readOffset_37 : decode cX2_readOffset 37 = .ok (.iconst 0, 1) := by decide +kernel
theorem dX2_readOffset_38 : decode cX2_readOffset 38 = .ok (.istore_n 3, 1) := by decide +kernel
theorem dX2_readOffset_39 : decode cX2_readOffset 39 = .ok (.iload_n 3, 1) := by decide +kernel
theorem dX2_readOffset_40 : decode cX2_readOffset 40 = .ok (.ifCond .eq 7, 3) := by decide +kernel
theorem dX2_readOffset_43 : decode cX2_readOffset 43 = .ok (.aload_n 0, 1) := by decide +kernel
theorem dX2_readOffset_44 : decode cX2_readOffset 44 = .ok (.invokevirtual 40, 3) := by decide +kernel
theorem dX2_readOffset_47 : decode cX2_readOffset 47 = .ok (.aload_n 0, 1) := by decide +kernel
theorem dX2_readOffset_48 : decode cX2_readOffset 48 = .ok (.iconst 0, 1) := by decide +kernel
theorem dX2_readOffset_49 : decode cX2_readOffset 49 = .ok (.sipush 500, 3) := by decide +kernel
theorem dX2_readOffset_52 : decode cX2_readOffset 52 = .ok (.invokevirtual 124, 3) := by decide +kernel
theorem dX2_readOffset_55 : decode cX2_readOffset 55 = .ok (.ifCond .ne 5, 3) := by decide +kernel
theorem dX2_readOffset_58 : decode cX2_readOffset 58 = .ok (.iconst 0, 1) := by decide +kernel
theorem dX2_readOffset_59 : decode cX2_readOffset 59 = .ok (.ireturn, 1) := by decide +kernel
theorem dX2_readOffset_60 : decode cX2_readOffset 60 = .ok (.aload_n 1, 1) := by decide +kernel
theorem dX2_readOffset_61 : decode cX2_readOffset 61 = .ok (.getfield 127, 3) := by decide +kernel
theorem dX2_readOffset_64 : decode cX2_readOffset 64 = .ok (.iload_n 2, 1) := by decide +kernel
theorem dX2_readOffset_65 : decode cX2_readOffset 65 = .ok (.iload_n 3, 1) := by decide +kernel
theorem dX2_readOffset_66 : decode cX2_readOffset 66 = .ok (.ifCond .eq 11, 3) := by decide +kernel
theorem dX2_readOffset_69 : decode cX2_readOffset 69 = .ok (.aload_n 0, 1) := by decide +kernel
theorem dX2_readOffset_70 : decode cX2_readOffset 70 = .ok (.getfield 28, 3) := by decide +kernel
theorem dX2_readOffset_73 : decode cX2_readOffset 73 = .ok (.ineg, 1) := by decide +kernel
theorem dX2_readOffset_74 : decode cX2_readOffset 74 = .ok (.goto 7, 3) := by decide +kernel
theorem dX2_readOffset_77 : decode cX2_readOffset 77 = .ok (.aload_n 0, 1) := by decide +kernel
theorem dX2_readOffset_78 : decode cX2_readOffset 78 = .ok (.getfield 28, 3) := by decide +kernel
theorem dX2_readOffset_81 : decode cX2_readOffset 81 = .ok (.iastore, 1) := by decide +kernel
theorem dX2_readOffset_82 : decode cX2_readOffset 82 = .ok (.aload_n 0, 1) := by decide +kernel
theorem dX2_readOffset_83 : decode cX2_readOffset 83 = .ok (.invokevirtual 95, 3) := by decide +kernel
theorem dX2_readOffset_86 : decode cX2_readOffset 86 = .ok (.ireturn, 1) := by decide +kernel
theorem dX2_takeNumber_0 : decode cX2_takeNumber 0 = .ok (.aload_n 0, 1) := by decide +kernel
theorem dX2_takeNumber_1 : decode cX2_takeNumber 1 = .ok (.invokevirtual 40, 3) := by decide +kernel
theorem dX2_takeNumber_4 : decode cX2_takeNumber 4 = .ok (.aload_n 0, 1) := by decide +kernel
theorem dX2_takeNumber_5 : decode cX2_takeNumber 5 = .ok (.iload_n 1, 1) := by decide +kernel
theorem dX2_takeNumber_6 : decode cX2_takeNumber 6 = .ok (.iload_n 2, 1) := by decide +kernel
theorem dX2_takeNumber_7 : decode cX2_takeNumber 7 = .ok (.invokevirtual 124, 3) := by decide +kernel
theorem dX2_takeNumber_10 : decode cX2_takeNumber 10 = .ok (.ireturn, 1) := by decide +kernel
theorem dX2_isNumber_0 : decode cX2_isNumber 0 = .ok (.aload_n 0, 1) := by decide +kernel
theorem dX2_isNumber_1 : decode cX2_isNumber 1 = .ok (.getfield 25, 3) := by decide +kernel
theorem dX2_isNumber_4 : decode cX2_isNumber 4 = .ok (.iconst 2, 1) := by decide +kernel
theorem dX2_isNumber_5 : decode cX2_isNumber 5 = .ok (.if_icmp .ne 19, 3) := by decide +kernel
theorem dX2_isNumber_8 : decode cX2_isNumber 8 = .ok (.aload_n 0, 1) := by decide +kernel
theorem dX2_isNumber_9 : decode cX2_isNumber 9 = .ok (.getfield 28, 3) := by decide +kernel
theorem dX2_isNumber_12 : decode cX2_isNumber 12 = .ok (.iload_n 1, 1) := by decide +kernel
theorem dX2_isNumber_13 : decode cX2_isNumber 13 = .ok (.iload_n 2, 1) := by decide +kernel
theorem dX2_isNumber_14 : decode cX2_isNumber 14 = .ok (.invokestatic 131, 3) := by decide +kernel
theorem dX2_isNumber_17 : decode cX2_isNumber 17 = .ok (.ifCond .eq 7, 3) := by decide +kernel
theorem dX2_isNumber_20 : decode cX2_isNumber 20 = .ok (.iconst 1, 1) := by decide +kernel
theorem dX2_isNumber_21 : decode cX2_isNumber 21 = .ok (.goto 4, 3) := by decide +kernel
theorem dX2_isNumber_24 : decode cX2_isNumber 24 = .ok (.iconst 0, 1) := by decide +kernel
theorem dX2_isNumber_25 : decode cX2_isNumber 25 = .ok (.ireturn, 1) := by decide +kernel
theorem dX2_takeStop_0 : decode cX2_takeStop 0 = .ok (.aload_n 0, 1) := by decide +kernel
theorem dX2_takeStop_1 : decode cX2_takeStop 1 = .ok (.invokevirtual 40, 3) := by decide +kernel
theorem dX2_takeStop_4 : decode cX2_takeStop 4 = .ok (.aload_n 0, 1) := by decide +kernel
theorem dX2_takeStop_5 : decode cX2_takeStop 5 = .ok (.getfield 25, 3) := by decide +kernel
theorem dX2_takeStop_8 : decode cX2_takeStop 8 = .ok (.iconst 4, 1) := by decide +kernel
theorem dX2_takeStop_9 : decode cX2_takeStop 9 = .ok (.if_icmp .ne 7, 3) := by decide +kernel
theorem dX2_takeStop_12 : decode cX2_takeStop 12 = .ok (.iconst 1, 1) := by decide +kernel
theorem dX2_takeStop_13 : decode cX2_takeStop 13 = .ok (.goto 4, 3) := by decide +kernel
theorem dX2_takeStop_16 : decode cX2_takeStop 16 = .ok (.iconst 0, 1) := by decide +kernel
theorem dX2_takeStop_17 : decode cX2_takeStop 17 = .ok (.ireturn, 1) := by decide +kernel
theorem dX2_takeToken_0 : decode cX2_takeToken 0 = .ok (.aload_n 0, 1) := by decide +kernel
theorem dX2_takeToken_1 : decode cX2_takeToken 1 = .ok (.getfield 19, 3) := by decide +kernel
theorem dX2_takeToken_4 : decode cX2_takeToken 4 = .ok (.aload_n 0, 1) := by decide +kernel
theorem dX2_takeToken_5 : decode cX2_takeToken 5 = .ok (.getfield 15, 3) := by decide +kernel
theorem dX2_takeToken_8 : decode cX2_takeToken 8 = .ok (.if_icmp .ge 30, 3) := by decide +kernel
theorem dX2_takeToken_11 : decode cX2_takeToken 11 = .ok (.aload_n 0, 1) := by decide +kernel
theorem dX2_takeToken_12 : decode cX2_takeToken 12 = .ok (.getfield 9, 3) := by decide +kernel
theorem dX2_takeToken_15 : decode cX2_takeToken 15 = .ok (.aload_n 0, 1) := by decide +kernel
theorem dX2_takeToken_16 : decode cX2_takeToken 16 = .ok (.getfield 19, 3) := by decide +kernel
theorem dX2_takeToken_19 : decode cX2_takeToken 19 = .ok (.baload, 1) := by decide +kernel
theorem dX2_takeToken_20 : decode cX2_takeToken 20 = .ok (.bipush 32, 2) := by decide +kernel
theorem dX2_takeToken_22 : decode cX2_takeToken 22 = .ok (.if_icmp .ne 16, 3) := by decide +kernel
theorem dX2_takeToken_25 : decode cX2_takeToken 25 = .ok (.aload_n 0, 1) := by decide +kernel
theorem dX2_takeToken_26 : decode cX2_takeToken 26 = .ok (.dup, 1) := by decide +kernel
theorem dX2_takeToken_27 : decode cX2_takeToken 27 = .ok (.getfield 19, 3) := by decide +kernel
theorem dX2_takeToken_30 : decode cX2_takeToken 30 = .ok (.iconst 1, 1) := by decide +kernel
theorem dX2_takeToken_31 : decode cX2_takeToken 31 = .ok (.iadd, 1) := by decide +kernel
theorem dX2_takeToken_32 : decode cX2_takeToken 32 = .ok (.putfield 19, 3) := by decide +kernel
theorem dX2_takeToken_35 : decode cX2_takeToken 35 = .ok (.goto (-35), 3) := by decide +kernel
theorem dX2_takeToken_38 : decode cX2_takeToken 38 = .ok (.aload_n 0, 1) := by decide +kernel
theorem dX2_takeToken_39 : decode cX2_takeToken 39 = .ok (.aload_n 0, 1) := by decide +kernel
theorem dX2_takeToken_40 : decode cX2_takeToken 40 = .ok (.getfield 19, 3) := by decide +kernel
theorem dX2_takeToken_43 : decode cX2_takeToken 43 = .ok (.putfield 22, 3) := by decide +kernel
theorem dX2_takeToken_46 : decode cX2_takeToken 46 = .ok (.aload_n 0, 1) := by decide +kernel
theorem dX2_takeToken_47 : decode cX2_takeToken 47 = .ok (.getfield 19, 3) := by decide +kernel
theorem dX2_takeToken_50 : decode cX2_takeToken 50 = .ok (.aload_n 0, 1) := by decide +kernel
theorem dX2_takeToken_51 : decode cX2_takeToken 51 = .ok (.getfield 15, 3) := by decide +kernel
theorem dX2_takeToken_54 : decode cX2_takeToken 54 = .ok (.if_icmp .lt 11, 3) := by decide +kernel
theorem dX2_takeToken_57 : decode cX2_takeToken 57 = .ok (.aload_n 0, 1) := by decide +kernel
theorem dX2_takeToken_58 : decode cX2_takeToken 58 = .ok (.iconst 0, 1) := by decide +kernel
theorem dX2_takeToken_59 : decode cX2_takeToken 59 = .ok (.putfield 25, 3) := by decide +kernel
theorem dX2_takeToken_62 : decode cX2_takeToken 62 = .ok (.goto 51, 3) := by decide +kernel
theorem dX2_takeToken_65 : decode cX2_takeToken 65 = .ok (.aload_n 0, 1) := by decide +kernel
theorem dX2_takeToken_66 : decode cX2_takeToken 66 = .ok (.getfield 9, 3) := by decide +kernel
theorem dX2_takeToken_69 : decode cX2_takeToken 69 = .ok (.aload_n 0, 1) := by decide +kernel
theorem dX2_takeToken_70 : decode cX2_takeToken 70 = .ok (.getfield 19, 3) := by decide +kernel
theorem dX2_takeToken_73 : decode cX2_takeToken 73 = .ok (.baload, 1) := by decide +kernel
theorem dX2_takeToken_74 : decode cX2_takeToken 74 = .ok (.invokestatic 135, 3) := by decide +kernel
theorem dX2_takeToken_77 : decode cX2_takeToken 77 = .ok (.ifCond .eq 10, 3) := by decide +kernel
theorem dX2_takeToken_80 : decode cX2_takeToken 80 = .ok (.aload_n 0, 1) := by decide +kernel
theorem dX2_takeToken_81 : decode cX2_takeToken 81 = .ok (.invokevirtual 139, 3) := by decide +kernel
theorem dX2_takeToken_84 : decode cX2_takeToken 84 = .ok (.goto 29, 3) := by decide +kernel
theorem dX2_takeToken_87 : decode cX2_takeToken 87 = .ok (.aload_n 0, 1) := by decide +kernel
theorem dX2_takeToken_88 : decode cX2_takeToken 88 = .ok (.getfield 9, 3) := by decide +kernel
theorem dX2_takeToken_91 : decode cX2_takeToken 91 = .ok (.aload_n 0, 1) := by decide +kernel
theorem dX2_takeToken_92 : decode cX2_takeToken 92 = .ok (.getfield 19, 3) := by decide +kernel
theorem dX2_takeToken_95 : decode cX2_takeToken 95 = .ok (.baload, 1) := by decide +kernel
theorem dX2_takeToken_96 : decode cX2_takeToken 96 = .ok (.invokestatic 142, 3) := by decide +kernel
theorem dX2_takeToken_99 : decode cX2_takeToken 99 = .ok (.ifCond .eq 10, 3) := by decide +kernel
theorem dX2_takeToken_102 : decode cX2_takeToken 102 = .ok (.aload_n 0, 1) := by decide +kernel
theorem dX2_takeToken_103 : decode cX2_takeToken 103 = .ok (.invokevirtual 145, 3) := by decide +kernel
theorem dX2_takeToken_106 : decode cX2_takeToken 106 = .ok (.goto 7, 3) := by decide +kernel
theorem dX2_takeToken_109 : decode cX2_takeToken 109 = .ok (.aload_n 0, 1) := by decide +kernel
theorem dX2_takeToken_110 : decode cX2_takeToken 110 = .ok (.invokevirtual 148, 3) := by decide +kernel
theorem dX2_takeToken_113 : decode cX2_takeToken 113 = .ok (.return_, 1) := by decide +kernel
theorem dX2_takeWord_0 : decode cX2_takeWord 0 = .ok (.aload_n 0, 1) := by decide +kernel
theorem dX2_takeWord_1 : decode cX2_takeWord 1 = .ok (.iconst 1, 1) := by decide +kernel
theorem dX2_takeWord_2 : decode cX2_takeWord 2 = .ok (.putfield 25, 3) := by decide +kernel
theorem dX2_takeWord_5 : decode cX2_takeWord 5 = .ok (.aload_n 0, 1) := by decide +kernel
theorem dX2_takeWord_6 : decode cX2_takeWord 6 = .ok (.getfield 19, 3) := by decide +kernel
theorem dX2_takeWord_9 : decode cX2_takeWord 9 = .ok (.aload_n 0, 1) := by decide +kernel
theorem dX2_takeWord_10 : decode cX2_takeWord 10 = .ok (.getfield 15, 3) := by decide +kernel
theorem dX2_takeWord_13 : decode cX2_takeWord 13 = .ok (.if_icmp .ge 31, 3) := by decide +kernel
theorem dX2_takeWord_16 : decode cX2_takeWord 16 = .ok (.aload_n 0, 1) := by decide +kernel
theorem dX2_takeWord_17 : decode cX2_takeWord 17 = .ok (.getfield 9, 3) := by decide +kernel
theorem dX2_takeWord_20 : decode cX2_takeWord 20 = .ok (.aload_n 0, 1) := by decide +kernel
theorem dX2_takeWord_21 : decode cX2_takeWord 21 = .ok (.getfield 19, 3) := by decide +kernel
theorem dX2_takeWord_24 : decode cX2_takeWord 24 = .ok (.baload, 1) := by decide +kernel
theorem dX2_takeWord_25 : decode cX2_takeWord 25 = .ok (.invokestatic 135, 3) := by decide +kernel
theorem dX2_takeWord_28 : decode cX2_takeWord 28 = .ok (.ifCond .eq 16, 3) := by decide +kernel
theorem dX2_takeWord_31 : decode cX2_takeWord 31 = .ok (.aload_n 0, 1) := by decide +kernel
theorem dX2_takeWord_32 : decode cX2_takeWord 32 = .ok (.dup, 1) := by decide +kernel
theorem dX2_takeWord_33 : decode cX2_takeWord 33 = .ok (.getfield 19, 3) := by decide +kernel
theorem dX2_takeWord_36 : decode cX2_takeWord 36 = .ok (.iconst 1, 1) := by decide +kernel
theorem dX2_takeWord_37 : decode cX2_takeWord 37 = .ok (.iadd, 1) := by decide +kernel
theorem dX2_takeWord_38 : decode cX2_takeWord 38 = .ok (.putfield 19, 3) := by decide +kernel
theorem dX2_takeWord_41 : decode cX2_takeWord 41 = .ok (.goto (-36), 3) := by decide +kernel
theorem dX2_takeWord_44 : decode cX2_takeWord 44 = .ok (.return_, 1) := by decide +kernel
theorem dX2_takeFigures_0 : decode cX2_takeFigures 0 = .ok (.aload_n 0, 1) := by decide +kernel
theorem dX2_takeFigures_1 : decode cX2_takeFigures 1 = .ok (.iconst 0, 1) := by decide +kernel
theorem dX2_takeFigures_2 : decode cX2_takeFigures 2 = .ok (.putfield 28, 3) := by decide +kernel
theorem dX2_takeFigures_5 : decode cX2_takeFigures 5 = .ok (.aload_n 0, 1) := by decide +kernel
theorem dX2_takeFigures_6 : decode cX2_takeFigures 6 = .ok (.getfield 19, 3) := by decide +kernel
theorem dX2_takeFigures_9 : decode cX2_takeFigures 9 = .ok (.aload_n 0, 1) := by decide +kernel
theorem dX2_takeFigures_10 : decode cX2_takeFigures 10 = .ok (.getfield 15, 3) := by decide +kernel
theorem dX2_takeFigures_13 : decode cX2_takeFigures 13 = .ok (.if_icmp .ge 68, 3) := by decide +kernel
theorem dX2_takeFigures_16 : decode cX2_takeFigures 16 = .ok (.aload_n 0, 1) := by decide +kernel
theorem dX2_takeFigures_17 : decode cX2_takeFigures 17 = .ok (.getfield 9, 3) := by decide +kernel
theorem dX2_takeFigures_20 : decode cX2_takeFigures 20 = .ok (.aload_n 0, 1) := by decide +kernel
theorem dX2_takeFigures_21 : decode cX2_takeFigures 21 = .ok (.getfield 19, 3) := by decide +kernel
theorem dX2_takeFigures_24 : decode cX2_takeFigures 24 = .ok (.baload, 1) := by decide +kernel
theorem dX2_takeFigures_25 : decode cX2_takeFigures 25 = .ok (.invokestatic 142, 3) := by decide +kernel
theorem dX2_takeFigures_28 : decode cX2_takeFigures 28 = .ok (.ifCond .eq 53, 3) := by decide +kernel
theorem dX2_takeFigures_31 : decode cX2_takeFigures 31 = .ok (.aload_n 0, 1) := by decide +kernel
theorem dX2_takeFigures_32 : decode cX2_takeFigures 32 = .ok (.getfield 19, 3) := by decide +kernel
theorem dX2_takeFigures_35 : decode cX2_takeFigures 35 = .ok (.aload_n 0, 1) := by decide +kernel
theorem dX2_takeFigures_36 : decode cX2_takeFigures 36 = .ok (.getfield 22, 3) := by decide +kernel
theorem dX2_takeFigures_39 : decode cX2_takeFigures 39 = .ok (.isub, 1) := by decide +kernel
theorem dX2_takeFigures_40 : decode cX2_takeFigures 40 = .ok (.iconst 3, 1) := by decide +kernel
theorem dX2_takeFigures_41 : decode cX2_takeFigures 41 = .ok (.if_icmp .ge 27, 3) := by decide +kernel
theorem dX2_takeFigures_44 : decode cX2_takeFigures 44 = .ok (.aload_n 0, 1) := by decide +kernel
theorem dX2_takeFigures_45 : decode cX2_takeFigures 45 = .ok (.aload_n 0, 1) := by decide +kernel
theorem dX2_takeFigures_46 : decode cX2_takeFigures 46 = .ok (.getfield 28, 3) := by decide +kernel
theorem dX2_takeFigures_49 : decode cX2_takeFigures 49 = .ok (.bipush 10, 2) := by decide +kernel
theorem dX2_takeFigures_51 : decode cX2_takeFigures 51 = .ok (.imul, 1) := by decide +kernel
theorem dX2_takeFigures_52 : decode cX2_takeFigures 52 = .ok (.aload_n 0, 1) := by decide +kernel
theorem dX2_takeFigures_53 : decode cX2_takeFigures 53 = .ok (.getfield 9, 3) := by decide +kernel
theorem dX2_takeFigures_56 : decode cX2_takeFigures 56 = .ok (.aload_n 0, 1) := by decide +kernel
theorem dX2_takeFigures_57 : decode cX2_takeFigures 57 = .ok (.getfield 19, 3) := by decide +kernel
theorem dX2_takeFigures_60 : decode cX2_takeFigures 60 = .ok (.baload, 1) := by decide +kernel
theorem dX2_takeFigures_61 : decode cX2_takeFigures 61 = .ok (.bipush 48, 2) := by decide +kernel
theorem dX2_takeFigures_63 : decode cX2_takeFigures 63 = .ok (.isub, 1) := by decide +kernel
theorem dX2_takeFigures_64 : decode cX2_takeFigures 64 = .ok (.iadd, 1) := by decide +kernel
theorem dX2_takeFigures_65 : decode cX2_takeFigures 65 = .ok (.putfield 28, 3) := by decide +kernel
theorem dX2_takeFigures_68 : decode cX2_takeFigures 68 = .ok (.aload_n 0, 1) := by decide +kernel
theorem dX2_takeFigures_69 : decode cX2_takeFigures 69 = .ok (.dup, 1) := by decide +kernel
theorem dX2_takeFigures_70 : decode cX2_takeFigures 70 = .ok (.getfield 19, 3) := by decide +kernel
theorem dX2_takeFigures_73 : decode cX2_takeFigures 73 = .ok (.iconst 1, 1) := by decide +kernel
theorem dX2_takeFigures_74 : decode cX2_takeFigures 74 = .ok (.iadd, 1) := by decide +kernel
theorem dX2_takeFigures_75 : decode cX2_takeFigures 75 = .ok (.putfield 19, 3) := by decide +kernel
theorem dX2_takeFigures_78 : decode cX2_takeFigures 78 = .ok (.goto (-73), 3) := by decide +kernel
theorem dX2_takeFigures_81 : decode cX2_takeFigures 81 = .ok (.aload_n 0, 1) := by decide +kernel
theorem dX2_takeFigures_82 : decode cX2_takeFigures 82 = .ok (.aload_n 0, 1) := by decide +kernel
theorem dX2_takeFigures_83 : decode cX2_takeFigures 83 = .ok (.getfield 19, 3) := by decide +kernel
theorem dX2_takeFigures_86 : decode cX2_takeFigures 86 = .ok (.aload_n 0, 1) := by decide +kernel
theorem dX2_takeFigures_87 : decode cX2_takeFigures 87 = .ok (.getfield 22, 3) := by decide +kernel
theorem dX2_takeFigures_90 : decode cX2_takeFigures 90 = .ok (.isub, 1) := by decide +kernel
theorem dX2_takeFigures_91 : decode cX2_takeFigures 91 = .ok (.iconst 3, 1) := by decide +kernel
theorem dX2_takeFigures_92 : decode cX2_takeFigures 92 = .ok (.if_icmp .gt 7, 3) := by decide +kernel
theorem dX2_takeFigures_95 : decode cX2_takeFigures 95 = .ok (.iconst 2, 1) := by decide +kernel
theorem dX2_takeFigures_96 : decode cX2_takeFigures 96 = .ok (.goto 4, 3) := by decide +kernel
theorem dX2_takeFigures_99 : decode cX2_takeFigures 99 = .ok (.iconst 5, 1) := by decide +kernel
theorem dX2_takeFigures_100 : decode cX2_takeFigures 100 = .ok (.putfield 25, 3) := by decide +kernel
theorem dX2_takeFigures_103 : decode cX2_takeFigures 103 = .ok (.return_, 1) := by decide +kernel
theorem dX2_takeSign_0 : decode cX2_takeSign 0 = .ok (.aload_n 0, 1) := by decide +kernel
theorem dX2_takeSign_1 : decode cX2_takeSign 1 = .ok (.aload_n 0, 1) := by decide +kernel
theorem dX2_takeSign_2 : decode cX2_takeSign 2 = .ok (.getfield 9, 3) := by decide +kernel
theorem dX2_takeSign_5 : decode cX2_takeSign 5 = .ok (.aload_n 0, 1) := by decide +kernel
theorem dX2_takeSign_6 : decode cX2_takeSign 6 = .ok (.getfield 19, 3) := by decide +kernel
theorem dX2_takeSign_9 : decode cX2_takeSign 9 = .ok (.baload, 1) := by decide +kernel
theorem dX2_takeSign_10 : decode cX2_takeSign 10 = .ok (.bipush 45, 2) := by decide +kernel
theorem dX2_takeSign_12 : decode cX2_takeSign 12 = .ok (.if_icmp .ne 7, 3) := by decide +kernel
theorem dX2_takeSign_15 : decode cX2_takeSign 15 = .ok (.iconst 3, 1) := by decide +kernel
theorem dX2_takeSign_16 : decode cX2_takeSign 16 = .ok (.goto 22, 3) := by decide +kernel
theorem dX2_takeSign_19 : decode cX2_takeSign 19 = .ok (.aload_n 0, 1) := by decide +kernel
theorem dX2_takeSign_20 : decode cX2_takeSign 20 = .ok (.getfield 9, 3) := by decide +kernel
theorem dX2_takeSign_23 : decode cX2_takeSign 23 = .ok (.aload_n 0, 1) := by decide +kernel
theorem dX2_takeSign_24 : decode cX2_takeSign 24 = .ok (.getfield 19, 3) := by decide +kernel
theorem dX2_takeSign_27 : decode cX2_takeSign 27 = .ok (.baload, 1) := by decide +kernel
theorem dX2_takeSign_28 : decode cX2_takeSign 28 = .ok (.bipush 59, 2) := by decide +kernel
theorem dX2_takeSign_30 : decode cX2_takeSign 30 = .ok (.if_icmp .ne 7, 3) := by decide +kernel
theorem dX2_takeSign_33 : decode cX2_takeSign 33 = .ok (.iconst 4, 1) := by decide +kernel
theorem dX2_takeSign_34 : decode cX2_takeSign 34 = .ok (.goto 4, 3) := by decide +kernel
theorem dX2_takeSign_37 : decode cX2_takeSign 37 = .ok (.iconst 5, 1) := by decide +kernel
theorem dX2_takeSign_38 : decode cX2_takeSign 38 = .ok (.putfield 25, 3) := by decide +kernel
theorem dX2_takeSign_41 : decode cX2_takeSign 41 = .ok (.aload_n 0, 1) := by decide +kernel
theorem dX2_takeSign_42 : decode cX2_takeSign 42 = .ok (.dup, 1) := by decide +kernel
theorem dX2_takeSign_43 : decode cX2_takeSign 43 = .ok (.getfield 19, 3) := by decide +kernel
theorem dX2_takeSign_46 : decode cX2_takeSign 46 = .ok (.iconst 1, 1) := by decide +kernel
theorem dX2_takeSign_47 : decode cX2_takeSign 47 = .ok (.iadd, 1) := by decide +kernel
theorem dX2_takeSign_48 : decode cX2_takeSign 48 = .ok (.putfield 19, 3) := by decide +kernel
theorem dX2_takeSign_51 : decode cX2_takeSign 51 = .ok (.return_, 1) := by decide +kernel
theorem dX2_isWord_0 : decode cX2_isWord 0 = .ok (.aload_n 0, 1) := by decide +kernel
theorem dX2_isWord_1 : decode cX2_isWord 1 = .ok (.getfield 19, 3) := by decide +kernel
theorem dX2_isWord_4 : decode cX2_isWord 4 = .ok (.aload_n 0, 1) := by decide +kernel
theorem dX2_isWord_5 : decode cX2_isWord 5 = .ok (.getfield 22, 3) := by decide +kernel
theorem dX2_isWord_8 : decode cX2_isWord 8 = .ok (.isub, 1) := by decide +kernel
theorem dX2_isWord_9 : decode cX2_isWord 9 = .ok (.aload_n 1, 1) := by decide +kernel
theorem dX2_isWord_10 : decode cX2_isWord 10 = .ok (.invokevirtual 151, 3) := by decide +kernel
theorem dX2_isWord_13 : decode cX2_isWord 13 = .ok (.if_icmp .eq 5, 3) := by decide +kernel
theorem dX2_isWord_16 : decode cX2_isWord 16 = .ok (.iconst 0, 1) := by decide +kernel
theorem dX2_isWord_17 : decode cX2_isWord 17 = .ok (.ireturn, 1) := by decide +kernel
theorem dX2_isWord_18 : decode cX2_isWord 18 = .ok (.iconst 0, 1) := by decide +kernel
theorem dX2_isWord_19 : decode cX2_isWord 19 = .ok (.istore_n 2, 1) := by decide +kernel
theorem dX2_isWord_20 : decode cX2_isWord 20 = .ok (.iload_n 2, 1) := by decide +kernel
theorem dX2_isWord_21 : decode cX2_isWord 21 = .ok (.aload_n 1, 1) := by decide +kernel
theorem dX2_isWord_22 : decode cX2_isWord 22 = .ok (.invokevirtual 151, 3) := by decide +kernel
theorem dX2_isWord_25 : decode cX2_isWord 25 = .ok (.if_icmp .ge 30, 3) := by decide +kernel
theorem dX2_isWord_28 : decode cX2_isWord 28 = .ok (.aload_n 0, 1) := by decide +kernel
theorem dX2_isWord_29 : decode cX2_isWord 29 = .ok (.getfield 9, 3) := by decide +kernel
theorem dX2_isWord_32 : decode cX2_isWord 32 = .ok (.aload_n 0, 1) := by decide +kernel
theorem dX2_isWord_33 : decode cX2_isWord 33 = .ok (.getfield 22, 3) := by decide +kernel
theorem dX2_isWord_36 : decode cX2_isWord 36 = .ok (.iload_n 2, 1) := by decide +kernel
theorem dX2_isWord_37 : decode cX2_isWord 37 = .ok (.iadd, 1) := by decide +kernel
theorem dX2_isWord_38 : decode cX2_isWord 38 = .ok (.baload, 1) := by decide +kernel
theorem dX2_isWord_39 : decode cX2_isWord 39 = .ok (.aload_n 1, 1) := by decide +kernel
theorem dX2_isWord_40 : decode cX2_isWord 40 = .ok (.iload_n 2, 1) := by decide +kernel
theorem dX2_isWord_41 : decode cX2_isWord 41 = .ok (.invokevirtual 157, 3) := by decide +kernel
theorem dX2_isWord_44 : decode cX2_isWord 44 = .ok (.if_icmp .eq 5, 3) := by decide +kernel
theorem dX2_isWord_47 : decode cX2_isWord 47 = .ok (.iconst 0, 1) := by decide +kernel
theorem dX2_isWord_48 : decode cX2_isWord 48 = .ok (.ireturn, 1) := by decide +kernel
theorem dX2_isWord_49 : decode cX2_isWord 49 = .ok (.iinc 2 1, 3) := by decide +kernel
theorem dX2_isWord_52 : decode cX2_isWord 52 = .ok (.goto (-32), 3) := by decide +kernel
theorem dX2_isWord_55 : decode cX2_isWord 55 = .ok (.iconst 1, 1) := by decide +kernel
theorem dX2_isWord_56 : decode cX2_isWord 56 = .ok (.ireturn, 1) := by decide +kernel
theorem dX2_isLetter_0 : decode cX2_isLetter 0 = .ok (.iload_n 0, 1) := by decide +kernel
theorem dX2_isLetter_1 : decode cX2_isLetter 1 = .ok (.bipush 97, 2) := by decide +kernel
theorem dX2_isLetter_3 : decode cX2_isLetter 3 = .ok (.if_icmp .lt 13, 3) := by decide +kernel
theorem dX2_isLetter_6 : decode cX2_isLetter 6 = .ok (.iload_n 0, 1) := by decide +kernel
theorem dX2_isLetter_7 : decode cX2_isLetter 7 = .ok (.bipush 122, 2) := by decide +kernel
theorem dX2_isLetter_9 : decode cX2_isLetter 9 = .ok (.if_icmp .gt 7, 3) := by decide +kernel
theorem dX2_isLetter_12 : decode cX2_isLetter 12 = .ok (.iconst 1, 1) := by decide +kernel
theorem dX2_isLetter_13 : decode cX2_isLetter 13 = .ok (.goto 4, 3) := by decide +kernel
theorem dX2_isLetter_16 : decode cX2_isLetter 16 = .ok (.iconst 0, 1) := by decide +kernel
theorem dX2_isLetter_17 : decode cX2_isLetter 17 = .ok (.ireturn, 1) := by decide +kernel
theorem dX2_isFigure_0 : decode cX2_isFigure 0 = .ok (.iload_n 0, 1) := by decide +kernel
theorem dX2_isFigure_1 : decode cX2_isFigure 1 = .ok (.bipush 48, 2) := by decide +kernel
theorem dX2_isFigure_3 : decode cX2_isFigure 3 = .ok (.if_icmp .lt 13, 3) := by decide +kernel
theorem dX2_isFigure_6 : decode cX2_isFigure 6 = .ok (.iload_n 0, 1) := by decide +kernel
theorem dX2_isFigure_7 : decode cX2_isFigure 7 = .ok (.bipush 57, 2) := by decide +kernel
theorem dX2_isFigure_9 : decode cX2_isFigure 9 = .ok (.if_icmp .gt 7, 3) := by decide +kernel
theorem dX2_isFigure_12 : decode cX2_isFigure 12 = .ok (.iconst 1, 1) := by decide +kernel
theorem dX2_isFigure_13 : decode cX2_isFigure 13 = .ok (.goto 4, 3) := by decide +kernel
theorem dX2_isFigure_16 : decode cX2_isFigure 16 = .ok (.iconst 0, 1) := by decide +kernel
theorem dX2_isFigure_17 : decode cX2_isFigure 17 = .ok (.ireturn, 1) := by decide +kernel
theorem dX3_init_0 : decode cX3_init 0 = .ok (.aload_n 0, 1) := by decide +kernel
theorem dX3_init_1 : decode cX3_init 1 = .ok (.invokespecial 3, 3) := by decide +kernel
theorem dX3_init_4 : decode cX3_init 4 = .ok (.aload_n 0, 1) := by decide +kernel
theorem dX3_init_5 : decode cX3_init 5 = .ok (.bipush 6, 2) := by decide +kernel
theorem dX3_init_7 : decode cX3_init 7 = .ok (.newarray .int, 2) := by decide +kernel
theorem dX3_init_9 : decode cX3_init 9 = .ok (.putfield 9, 3) := by decide +kernel
theorem dX3_init_12 : decode cX3_init 12 = .ok (.aload_n 0, 1) := by decide +kernel
theorem dX3_init_13 : decode cX3_init 13 = .ok (.bipush 6, 2) := by decide +kernel
theorem dX3_init_15 : decode cX3_init 15 = .ok (.newarray .int, 2) := by decide +kernel
theorem dX3_init_17 : decode cX3_init 17 = .ok (.putfield 15, 3) := by decide +kernel
theorem dX3_init_20 : decode cX3_init 20 = .ok (.aload_n 0, 1) := by decide +kernel
theorem dX3_init_21 : decode cX3_init 21 = .ok (.iconst (-1), 1) := by decide +kernel
theorem dX3_init_22 : decode cX3_init 22 = .ok (.putfield 18, 3) := by decide +kernel
theorem dX3_init_25 : decode cX3_init 25 = .ok (.aload_n 0, 1) := by decide +kernel
theorem dX3_init_26 : decode cX3_init 26 = .ok (.iconst 0, 1) := by decide +kernel
theorem dX3_init_27 : decode cX3_init 27 = .ok (.putfield 22, 3) := by decide +kernel
theorem dX3_init_30 : decode cX3_init 30 = .ok (.return_, 1) := by decide +kernel
theorem dX3_search_0 : decode cX3_search 0 = .ok (.aload_n 0, 1) := by decide +kernel
theorem dX3_search_1 : decode cX3_search 1 = .ok (.iconst (-1), 1) := by decide +kernel
theorem dX3_search_2 : decode cX3_search 2 = .ok (.putfield 18, 3) := by decide +kernel
theorem dX3_search_5 : decode cX3_search 5 = .ok (.aload_n 0, 1) := by decide +kernel
theorem dX3_search_6 : decode cX3_search 6 = .ok (.iconst 0, 1) := by decide +kernel
theorem dX3_search_7 : decode cX3_search 7 = .ok (.putfield 22, 3) := by decide +kernel
theorem dX3_search_10 : decode cX3_search 10 = .ok (.iconst 0, 1) := by decide +kernel
theorem dX3_search_11 : decode cX3_search 11 = .ok (.istore 4, 2) := by decide +kernel
theorem dX3_search_13 : decode cX3_search 13 = .ok (.aload_n 2, 1) := by decide +kernel
theorem dX3_search_14 : decode cX3_search 14 = .ok (.getfield 25, 3) := by decide +kernel
theorem dX3_search_17 : decode cX3_search 17 = .ok (.iload 4, 2) := by decide +kernel
theorem dX3_search_19 : decode cX3_search 19 = .ok (.iconst (-1), 1) := by decide +kernel
theorem dX3_search_20 : decode cX3_search 20 = .ok (.iastore, 1) := by decide +kernel
theorem dX3_search_21 : decode cX3_search 21 = .ok (.iconst 0, 1) := by decide +kernel
theorem dX3_search_22 : decode cX3_search 22 = .ok (.istore 5, 2) := by decide +kernel
theorem dX3_search_24 : decode cX3_search 24 = .ok (.iload 5, 2) := by decide +kernel
theorem dX3_search_26 : decode cX3_search 26 = .ok (.sipush 10000, 3) := by decide +kernel
theorem dX3_search_29 : decode cX3_search 29 = .ok (.if_icmp .ge 141, 3) := by decide +kernel
theorem dX3_search_32 : decode cX3_search 32 = .ok (.iload 4, 2) := by decide +kernel
theorem dX3_search_34 : decode cX3_search 34 = .ok (.ifCond .lt 136, 3) := by decide +kernel
theorem dX3_search_37 : decode cX3_search 37 = .ok (.aload_n 2, 1) := by decide +kernel
theorem dX3_search_38 : decode cX3_search 38 = .ok (.getfield 25, 3) := by decide +kernel
theorem dX3_search_41 : decode cX3_search 41 = .ok (.iload 4, 2) := by decide +kernel
theorem dX3_search_43 : decode cX3_search 43 = .ok (.aload_n 1, 1) := by decide +kernel
theorem dX3_search_44 : decode cX3_search 44 = .ok (.aload_n 2, 1) := by decide +kernel
theorem dX3_search_45 : decode cX3_search 45 = .ok (.iload 4, 2) := by decide +kernel
theorem dX3_search_47 : decode cX3_search 47 = .ok (.invokestatic 30, 3) := by decide +kernel
theorem dX3_search_50 : decode cX3_search 50 = .ok (.iastore, 1) := by decide +kernel
theorem dX3_search_51 : decode cX3_search 51 = .ok (.aload_n 2, 1) := by decide +kernel
theorem dX3_search_52 : decode cX3_search 52 = .ok (.getfield 25, 3) := by decide +kernel
theorem dX3_search_55 : decode cX3_search 55 = .ok (.iload 4, 2) := by decide +kernel
theorem dX3_search_57 : decode cX3_search 57 = .ok (.iaload, 1) := by decide +kernel
theorem dX3_search_58 : decode cX3_search 58 = .ok (.iconst (-1), 1) := by decide +kernel
theorem dX3_search_59 : decode cX3_search 59 = .ok (.if_icmp .ne 9, 3) := by decide +kernel
theorem dX3_search_62 : decode cX3_search 62 = .ok (.iinc 4 (-1), 3) := by decide +kernel
theorem dX3_search_65 : decode cX3_search 65 = .ok (.goto 99, 3) := by decide +kernel
theorem dX3_search_68 : decode cX3_search 68 = .ok (.iload 4, 2) := by decide +kernel
theorem dX3_search_70 : decode cX3_search 70 = .ok (.ifCond .ne 8, 3) := by decide +kernel
theorem dX3_search_73 : decode cX3_search 73 = .ok (.bipush 99, 2) := by decide +kernel
theorem dX3_search_75 : decode cX3_search 75 = .ok (.goto 12, 3) := by decide +kernel
theorem dX3_search_78 : decode cX3_search 78 = .ok (.aload_n 0, 1) := by decide +kernel
theorem dX3_search_79 : decode cX3_search 79 = .ok (.getfield 15, 3) := by decide +kernel
theorem dX3_search_82 : decode cX3_search 82 = .ok (.iload 4, 2) := by decide +kernel
theorem dX3_search_84 : decode cX3_search 84 = .ok (.iconst 1, 1) := by decide +kernel
theorem dX3_search_85 : decode cX3_search 85 = .ok (.isub, 1) := by decide +kernel
theorem dX3_search_86 : decode cX3_search 86 = .ok (.iaload, 1) := by decide +kernel
theorem dX3_search_87 : decode cX3_search 87 = .ok (.istore 6, 2) := by decide +kernel
theorem dX3_search_89 : decode cX3_search 89 = .ok (.aload_n 0, 1) := by decide +kernel
theorem dX3_search_90 : decode cX3_search 90 = .ok (.getfield 15, 3) := by decide +kernel
theorem dX3_search_93 : decode cX3_search 93 = .ok (.iload 4, 2) := by decide +kernel
theorem dX3_search_95 : decode cX3_search 95 = .ok (.iload 6, 2) := by decide +kernel
theorem dX3_search_97 : decode cX3_search 97 = .ok (.aload_n 1, 1) := by decide +kernel
theorem dX3_search_98 : decode cX3_search 98 = .ok (.aload_n 2, 1) := by decide +kernel
theorem dX3_search_99 : decode cX3_search 99 = .ok (.iload 4, 2) := by decide +kernel
theorem dX3_search_101 : decode cX3_search 101 = .ok (.invokestatic 34, 3) := by decide +kernel
theorem dX3_search_104 : decode cX3_search 104 = .ok (.invokestatic 37, 3) := by decide +kernel
theorem dX3_search_107 : decode cX3_search 107 = .ok (.iastore, 1) := by decide +kernel
theorem dX3_search_108 : decode cX3_search 108 = .ok (.aload_n 0, 1) := by decide +kernel
theorem dX3_search_109 : decode cX3_search 109 = .ok (.getfield 15, 3) := by decide +kernel
theorem dX3_search_112 : decode cX3_search 112 = .ok (.iload 4, 2) := by decide +kernel
theorem dX3_search_114 : decode cX3_search 114 = .ok (.iaload, 1) := by decide +kernel
theorem dX3_search_115 : decode cX3_search 115 = .ok (.aload_n 0, 1) := by decide +kernel
theorem dX3_search_116 : decode cX3_search 116 = .ok (.getfield 18, 3) := by decide +kernel
theorem dX3_search_119 : decode cX3_search 119 = .ok (.if_icmp .ge 6, 3) := by decide +kernel
theorem dX3_search_122 : decode cX3_search 122 = .ok (.goto 42, 3) := by decide +kernel
theorem dX3_search_125 : decode cX3_search 125 = .ok (.iload 4, 2) := by decide +kernel
theorem dX3_search_127 : decode cX3_search 127 = .ok (.iconst 1, 1) := by decide +kernel
theorem dX3_search_128 : decode cX3_search 128 = .ok (.iadd, 1) := by decide +kernel
theorem dX3_search_129 : decode cX3_search 129 = .ok (.aload_n 2, 1) := by decide +kernel
theorem dX3_search_130 : decode cX3_search 130 = .ok (.getfield 43, 3) := by decide +kernel
theorem dX3_search_133 : decode cX3_search 133 = .ok (.if_icmp .ge 17, 3) := by decide +kernel
theorem dX3_search_136 : decode cX3_search 136 = .ok (.iinc 4 1, 3) := by decide +kernel
theorem dX3_search_139 : decode cX3_search 139 = .ok (.aload_n 2, 1) := by decide +kernel
theorem dX3_search_140 : decode cX3_search 140 = .ok (.getfield 25, 3) := by decide +kernel
theorem dX3_search_143 : decode cX3_search 143 = .ok (.iload 4, 2) := by decide +kernel
theorem dX3_search_145 : decode cX3_search 145 = .ok (.iconst (-1), 1) := by decide +kernel
theorem dX3_search_146 : decode cX3_search 146 = .ok (.iastore, 1) := by decide +kernel
theorem dX3_search_147 : decode cX3_search 147 = .ok (.goto 17, 3) := by decide +kernel
theorem dX3_search_150 : decode cX3_search 150 = .ok (.aload_n 0, 1) := by decide +kernel
theorem dX3_search_151 : decode cX3_search 151 = .ok (.aload_n 1, 1) := by decide +kernel
theorem dX3_search_152 : decode cX3_search 152 = .ok (.aload_n 2, 1) := by decide +kernel
theorem dX3_search_153 : decode cX3_search 153 = .ok (.aload_n 3, 1) := by decide +kernel
theorem dX3_search_154 : decode cX3_search 154 = .ok (.aload_n 0, 1) := by decide +kernel
theorem dX3_search_155 : decode cX3_search 155 = .ok (.getfield 15, 3) := by decide +kernel
theorem dX3_search_158 : decode cX3_search 158 = .ok (.iload 4, 2) := by decide +kernel
theorem dX3_search_160 : decode cX3_search 160 = .ok (.iaload, 1) := by decide +kernel
theorem dX3_search_161 : decode cX3_search 161 = .ok (.invokevirtual 46, 3) := by decide +kernel
theorem dX3_search_164 : decode cX3_search 164 = .ok (.iinc 5 1, 3) := by decide +kernel
theorem dX3_search_167 : decode cX3_search 167 = .ok (.goto (-143), 3) := by decide +kernel
theorem dX3_search_170 : decode cX3_search 170 = .ok (.return_, 1) := by decide +kernel
theorem dX3_nextFree_0 : decode cX3_nextFree 0 = .ok (.iconst 0, 1) := by decide +kernel
theorem dX3_nextFree_1 : decode cX3_nextFree 1 = .ok (.istore_n 3, 1) := by decide +kernel
theorem dX3_nextFree_2 : decode cX3_nextFree 2 = .ok (.iconst 0, 1) := by decide +kernel
theorem dX3_nextFree_3 : decode cX3_nextFree 3 = .ok (.istore 4, 2) := by decide +kernel
theorem dX3_nextFree_5 : decode cX3_nextFree 5 = .ok (.iload 4, 2) := by decide +kernel
theorem dX3_nextFree_7 : decode cX3_nextFree 7 = .ok (.iload_n 2, 1) := by decide +kernel
theorem dX3_nextFree_8 : decode cX3_nextFree 8 = .ok (.if_icmp .ge 21, 3) := by decide +kernel
theorem dX3_nextFree_11 : decode cX3_nextFree 11 = .ok (.iload_n 3, 1) := by decide +kernel
theorem dX3_nextFree_12 : decode cX3_nextFree 12 = .ok (.iconst 1, 1) := by decide +kernel
theorem dX3_nextFree_13 : decode cX3_nextFree 13 = .ok (.aload_n 1, 1) := by decide +kernel
theorem dX3_nextFree_14 : decode cX3_nextFree 14 = .ok (.getfield 25, 3) := by decide +kernel
theorem dX3_nextFree_17 : decode cX3_nextFree 17 = .ok (.iload 4, 2) := by decide +kernel
theorem dX3_nextFree_19 : decode cX3_nextFree 19 = .ok (.iaload, 1) := by decide +kernel
theorem dX3_nextFree_20 : decode cX3_nextFree 20 = .ok (.ishl, 1) := by decide +kernel
theorem dX3_nextFree_21 : decode cX3_nextFree 21 = .ok (.ior, 1) := by decide +kernel
theorem dX3_nextFree_22 : decode cX3_nextFree 22 = .ok (.istore_n 3, 1) := by decide +kernel
theorem dX3_nextFree_23 : decode cX3_nextFree 23 = .ok (.iinc 4 1, 3) := by decide +kernel
theorem dX3_nextFree_26 : decode cX3_nextFree 26 = .ok (.goto (-21), 3) := by decide +kernel
theorem dX3_nextFree_29 : decode cX3_nextFree 29 = .ok (.aload_n 1, 1) := by decide +kernel
theorem dX3_nextFree_30 : decode cX3_nextFree 30 = .ok (.getfield 25, 3) := by decide +kernel
theorem dX3_nextFree_33 : decode cX3_nextFree 33 = .ok (.iload_n 2, 1) := by decide +kernel
theorem dX3_nextFree_34 : decode cX3_nextFree 34 = .ok (.iaload, 1) := by decide +kernel
theorem dX3_nextFree_35 : decode cX3_nextFree 35 = .ok (.iconst 1, 1) := by decide +kernel
theorem dX3_nextFree_36 : decode cX3_nextFree 36 = .ok (.iadd, 1) := by decide +kernel
theorem dX3_nextFree_37 : decode cX3_nextFree 37 = .ok (.istore 4, 2) := by decide +kernel
theorem dX3_nextFree_39 : decode cX3_nextFree 39 = .ok (.iload 4, 2) := by decide +kernel
theorem dX3_nextFree_41 : decode cX3_nextFree 41 = .ok (.aload_n 0, 1) := by decide +kernel
theorem dX3_nextFree_42 : decode cX3_nextFree 42 = .ok (.getfield 50, 3) := by decide +kernel
theorem dX3_nextFree_45 : decode cX3_nextFree 45 = .ok (.if_icmp .ge 21, 3) := by decide +kernel
theorem dX3_nextFree_48 : decode cX3_nextFree 48 = .ok (.iload_n 3, 1) := by decide +kernel
theorem dX3_nextFree_49 : decode cX3_nextFree 49 = .ok (.iload 4, 2) := by decide +kernel
theorem dX3_nextFree_51 : decode cX3_nextFree 51 = .ok (.invokestatic 54, 3) := by decide +kernel
theorem dX3_nextFree_54 : decode cX3_nextFree 54 = .ok (.ifCond .ne 6, 3) := by decide +kernel
theorem dX3_nextFree_57 : decode cX3_nextFree 57 = .ok (.iload 4, 2) := by decide +kernel
theorem dX3_nextFree_59 : decode cX3_nextFree 59 = .ok (.ireturn, 1) := by decide +kernel
theorem dX3_nextFree_60 : decode cX3_nextFree 60 = .ok (.iinc 4 1, 3) := by decide +kernel
theorem dX3_nextFree_63 : decode cX3_nextFree 63 = .ok (.goto (-24), 3) := by decide +kernel
theorem dX3_nextFree_66 : decode cX3_nextFree 66 = .ok (.iconst (-1), 1) := by decide +kernel
theorem dX3_nextFree_67 : decode cX3_nextFree 67 = .ok (.ireturn, 1) := by decide +kernel
theorem dX3_judge_0 : decode cX3_judge 0 = .ok (.iconst 0, 1) := by decide +kernel
theorem dX3_judge_1 : decode cX3_judge 1 = .ok (.istore 5, 2) := by decide +kernel
theorem dX3_judge_3 : decode cX3_judge 3 = .ok (.iconst 0, 1) := by decide +kernel
theorem dX3_judge_4 : decode cX3_judge 4 = .ok (.istore 6, 2) := by decide +kernel
theorem dX3_judge_6 : decode cX3_judge 6 = .ok (.iload 6, 2) := by decide +kernel
theorem dX3_judge_8 : decode cX3_judge 8 = .ok (.aload_n 1, 1) := by decide +kernel
theorem dX3_judge_9 : decode cX3_judge 9 = .ok (.getfield 58, 3) := by decide +kernel
theorem dX3_judge_12 : decode cX3_judge 12 = .ok (.if_icmp .ge 22, 3) := by decide +kernel
theorem dX3_judge_15 : decode cX3_judge 15 = .ok (.iload 5, 2) := by decide +kernel
theorem dX3_judge_17 : decode cX3_judge 17 = .ok (.aload_n 3, 1) := by decide +kernel
theorem dX3_judge_18 : decode cX3_judge 18 = .ok (.aload_n 1, 1) := by decide +kernel
theorem dX3_judge_19 : decode cX3_judge 19 = .ok (.aload_n 2, 1) := by decide +kernel
theorem dX3_judge_20 : decode cX3_judge 20 = .ok (.iload 6, 2) := by decide +kernel
theorem dX3_judge_22 : decode cX3_judge 22 = .ok (.invokevirtual 61, 3) := by decide +kernel
theorem dX3_judge_25 : decode cX3_judge 25 = .ok (.iadd, 1) := by decide +kernel
theorem dX3_judge_26 : decode cX3_judge 26 = .ok (.istore 5, 2) := by decide +kernel
theorem dX3_judge_28 : decode cX3_judge 28 = .ok (.iinc 6 1, 3) := by decide +kernel
theorem dX3_judge_31 : decode cX3_judge 31 = .ok (.goto (-25), 3) := by decide +kernel
theorem dX3_judge_34 : decode cX3_judge 34 = .ok (.iload 4, 2) := by decide +kernel
theorem dX3_judge_36 : decode cX3_judge 36 = .ok (.aload_n 0, 1) := by decide +kernel
theorem dX3_judge_37 : decode cX3_judge 37 = .ok (.getfield 18, 3) := by decide +kernel
theorem dX3_judge_40 : decode cX3_judge 40 = .ok (.if_icmp .gt 12, 3) := by decide +kernel
theorem dX3_judge_43 : decode cX3_judge 43 = .ok (.iload 5, 2) := by decide +kernel
theorem dX3_judge_45 : decode cX3_judge 45 = .ok (.aload_n 0, 1) := by decide +kernel
theorem dX3_judge_46 : decode cX3_judge 46 = .ok (.getfield 22, 3) := by decide +kernel
theorem dX3_judge_49 : decode cX3_judge 49 = .ok (.if_icmp .ge 26, 3) := by decide +kernel
theorem dX3_judge_52 : decode cX3_judge 52 = .ok (.aload_n 0, 1) := by decide +kernel
theorem dX3_judge_53 : decode cX3_judge 53 = .ok (.iload 4, 2) := by decide +kernel
theorem dX3_judge_55 : decode cX3_judge 55 = .ok (.putfield 18, 3) := by decide +kernel
theorem dX3_judge_58 : decode cX3_judge 58 = .ok (.aload_n 0, 1) := by decide +kernel
theorem dX3_judge_59 : decode cX3_judge 59 = .ok (.iload 5, 2) := by decide +kernel
theorem dX3_judge_61 : decode cX3_judge 61 = .ok (.putfield 22, 3) := by decide +kernel
theorem dX3_judge_64 : decode cX3_judge 64 = .ok (.aload_n 2, 1) := by decide +kernel
theorem dX3_judge_65 : decode cX3_judge 65 = .ok (.getfield 25, 3) := by decide +kernel
theorem dX3_judge_68 : decode cX3_judge 68 = .ok (.aload_n 0, 1) := by decide +kernel
theorem dX3_judge_69 : decode cX3_judge 69 = .ok (.getfield 9, 3) := by decide +kernel
theorem dX3_judge_72 : decode cX3_judge 72 = .ok (.invokestatic 66, 3) := by decide +kernel
theorem dX3_judge_75 : decode cX3_judge 75 = .ok (.return_, 1) := by decide +kernel
theorem dX3_leastLoud_0 : decode cX3_leastLoud 0 = .ok (.bipush 99, 2) := by decide +kernel
theorem dX3_leastLoud_2 : decode cX3_leastLoud 2 = .ok (.istore_n 3, 1) := by decide +kernel
theorem dX3_leastLoud_3 : decode cX3_leastLoud 3 = .ok (.aload_n 1, 1) := by decide +kernel
theorem dX3_leastLoud_4 : decode cX3_leastLoud 4 = .ok (.getfield 70, 3) := by decide +kernel
theorem dX3_leastLoud_7 : decode cX3_leastLoud 7 = .ok (.iload_n 2, 1) := by decide +kernel
theorem dX3_leastLoud_8 : decode cX3_leastLoud 8 = .ok (.iaload, 1) := by decide +kernel
theorem dX3_leastLoud_9 : decode cX3_leastLoud 9 = .ok (.iconst 5, 1) := by decide +kernel
theorem dX3_leastLoud_10 : decode cX3_leastLoud 10 = .ok (.if_icmp .ne 5, 3) := by decide +kernel
theorem dX3_leastLoud_13 : decode cX3_leastLoud 13 = .ok (.iload_n 3, 1) := by decide +kernel
theorem dX3_leastLoud_14 : decode cX3_leastLoud 14 = .ok (.ireturn, 1) := by decide +kernel
theorem dX3_leastLoud_15 : decode cX3_leastLoud 15 = .ok (.iconst 0, 1) := by decide +kernel
theorem dX3_leastLoud_16 : decode cX3_leastLoud 16 = .ok (.istore 4, 2) := by decide +kernel
theorem dX3_leastLoud_18 : decode cX3_leastLoud 18 = .ok (.iload 4, 2) := by decide +kernel
theorem dX3_leastLoud_20 : decode cX3_leastLoud 20 = .ok (.aload_n 0, 1) := by decide +kernel
theorem dX3_leastLoud_21 : decode cX3_leastLoud 21 = .ok (.getfield 58, 3) := by decide +kernel
theorem dX3_leastLoud_24 : decode cX3_leastLoud 24 = .ok (.if_icmp .ge 33, 3) := by decide +kernel
theorem dX3_leastLoud_27 : decode cX3_leastLoud 27 = .ok (.iload_n 3, 1) := by decide +kernel
theorem dX3_leastLoud_28 : decode cX3_leastLoud 28 = .ok (.aload_n 1, 1) := by decide +kernel
theorem dX3_leastLoud_29 : decode cX3_leastLoud 29 = .ok (.getfield 73, 3) := by decide +kernel
theorem dX3_leastLoud_32 : decode cX3_leastLoud 32 = .ok (.iload_n 2, 1) := by decide +kernel
theorem dX3_leastLoud_33 : decode cX3_leastLoud 33 = .ok (.iaload, 1) := by decide +kernel
theorem dX3_leastLoud_34 : decode cX3_leastLoud 34 = .ok (.aload_n 0, 1) := by decide +kernel
theorem dX3_leastLoud_35 : decode cX3_leastLoud 35 = .ok (.aload_n 1, 1) := by decide +kernel
theorem dX3_leastLoud_36 : decode cX3_leastLoud 36 = .ok (.getfield 25, 3) := by decide +kernel
theorem dX3_leastLoud_39 : decode cX3_leastLoud 39 = .ok (.iload_n 2, 1) := by decide +kernel
theorem dX3_leastLoud_40 : decode cX3_leastLoud 40 = .ok (.iaload, 1) := by decide +kernel
theorem dX3_leastLoud_41 : decode cX3_leastLoud 41 = .ok (.iload 4, 2) := by decide +kernel
theorem dX3_leastLoud_43 : decode cX3_leastLoud 43 = .ok (.invokevirtual 76, 3) := by decide +kernel
theorem dX3_leastLoud_46 : decode cX3_leastLoud 46 = .ok (.isub, 1) := by decide +kernel
theorem dX3_leastLoud_47 : decode cX3_leastLoud 47 = .ok (.invokestatic 37, 3) := by decide +kernel
theorem dX3_leastLoud_50 : decode cX3_leastLoud 50 = .ok (.istore_n 3, 1) := by decide +kernel
theorem dX3_leastLoud_51 : decode cX3_leastLoud 51 = .ok (.iinc 4 1, 3) := by decide +kernel
theorem dX3_leastLoud_54 : decode cX3_leastLoud 54 = .ok (.goto (-36), 3) := by decide +kernel
theorem dX3_leastLoud_57 : decode cX3_leastLoud 57 = .ok (.iconst 0, 1) := by decide +kernel
theorem dX3_leastLoud_58 : decode cX3_leastLoud 58 = .ok (.iload_n 3, 1) := by decide +kernel
theorem dX3_leastLoud_59 : decode cX3_leastLoud 59 = .ok (.invokestatic 79, 3) := by decide +kernel
theorem dX3_leastLoud_62 : decode cX3_leastLoud 62 = .ok (.ireturn, 1) := by decide +kernel
theorem dX4_init_0 : decode cX4_init 0 = .ok (.aload_n 0, 1) := by decide +kernel
theorem dX4_init_1 : decode cX4_init 1 = .ok (.invokespecial 3, 3) := by decide +kernel
theorem dX4_init_4 : decode cX4_init 4 = .ok (.aload_n 0, 1) := by decide +kernel
theorem dX4_init_5 : decode cX4_init 5 = .ok (.iconst 0, 1) := by decide +kernel
theorem dX4_init_6 : decode cX4_init 6 = .ok (.putfield 9, 3) := by decide +kernel
theorem dX4_init_9 : decode cX4_init 9 = .ok (.aload_n 0, 1) := by decide +kernel
theorem dX4_init_10 : decode cX4_init 10 = .ok (.bipush 6, 2) := by decide +kernel
theorem dX4_init_12 : decode cX4_init 12 = .ok (.newarray .int, 2) := by decide +kernel
theorem dX4_init_14 : decode cX4_init 14 = .ok (.putfield 15, 3) := by decide +kernel
theorem dX4_init_17 : decode cX4_init 17 = .ok (.aload_n 0, 1) := by decide +kernel
theorem dX4_init_18 : decode cX4_init 18 = .ok (.bipush 6, 2) := by decide +kernel
theorem dX4_init_20 : decode cX4_init 20 = .ok (.newarray .int, 2) := by decide +kernel
theorem dX4_init_22 : decode cX4_init 22 = .ok (.putfield 19, 3) := by decide +kernel
theorem dX4_init_25 : decode cX4_init 25 = .ok (.aload_n 0, 1) := by decide +kernel
theorem dX4_init_26 : decode cX4_init 26 = .ok (.iconst 0, 1) := by decide +kernel
theorem dX4_init_27 : decode cX4_init 27 = .ok (.putfield 22, 3) := by decide +kernel
theorem dX4_init_30 : decode cX4_init 30 = .ok (.aload_n 0, 1) := by decide +kernel
theorem dX4_init_31 : decode cX4_init 31 = .ok (.iconst 3, 1) := by decide +kernel
theorem dX4_init_32 : decode cX4_init 32 = .ok (.newarray .int, 2) := by decide +kernel
theorem dX4_init_34 : decode cX4_init 34 = .ok (.putfield 25, 3) := by decide +kernel
theorem dX4_init_37 : decode cX4_init 37 = .ok (.aload_n 0, 1) := by decide +kernel
theorem dX4_init_38 : decode cX4_init 38 = .ok (.iconst 3, 1) := by decide +kernel
theorem dX4_init_39 : decode cX4_init 39 = .ok (.newarray .int, 2) := by decide +kernel
theorem dX4_init_41 : decode cX4_init 41 = .ok (.putfield 28, 3) := by decide +kernel
theorem dX4_init_44 : decode cX4_init 44 = .ok (.aload_n 0, 1) := by decide +kernel
theorem dX4_init_45 : decode cX4_init 45 = .ok (.iconst (-1), 1) := by decide +kernel
theorem dX4_init_46 : decode cX4_init 46 = .ok (.putfield 31, 3) := by decide +kernel
theorem dX4_init_49 : decode cX4_init 49 = .ok (.aload_n 0, 1) := by decide +kernel
theorem dX4_init_50 : decode cX4_init 50 = .ok (.iconst (-1), 1) := by decide +kernel
theorem dX4_init_51 : decode cX4_init 51 = .ok (.putfield 34, 3) := by decide +kernel
theorem dX4_init_54 : decode cX4_init 54 = .ok (.aload_n 0, 1) := by decide +kernel
theorem dX4_init_55 : decode cX4_init 55 = .ok (.iconst 3, 1) := by decide +kernel
theorem dX4_init_56 : decode cX4_init 56 = .ok (.putfield 37, 3) := by decide +kernel
theorem dX4_init_59 : decode cX4_init 59 = .ok (.aload_n 0, 1) := by decide +kernel
theorem dX4_init_60 : decode cX4_init 60 = .ok (.iconst 0, 1) := by decide +kernel
theorem dX4_init_61 : decode cX4_init 61 = .ok (.putfield 40, 3) := by decide +kernel
theorem dX4_init_64 : decode cX4_init 64 = .ok (.aload_n 0, 1) := by decide +kernel
theorem dX4_init_65 : decode cX4_init 65 = .ok (.iconst 0, 1) := by decide +kernel
theorem dX4_init_66 : decode cX4_init 66 = .ok (.putfield 43, 3) := by decide +kernel
theorem dX4_init_69 : decode cX4_init 69 = .ok (.return_, 1) := by decide +kernel
theorem dX4_makeEmpty_0 : decode cX4_makeEmpty 0 = .ok (.aload_n 0, 1) := by decide +kernel
theorem dX4_makeEmpty_1 : decode cX4_makeEmpty 1 = .ok (.iconst 0, 1) := by decide +kernel
theorem dX4_makeEmpty_2 : decode cX4_makeEmpty 2 = .ok (.putfield 9, 3) := by decide +kernel
theorem dX4_makeEmpty_5 : decode cX4_makeEmpty 5 = .ok (.aload_n 0, 1) := by decide +kernel
theorem dX4_makeEmpty_6 : decode cX4_makeEmpty 6 = .ok (.iconst 0, 1) := by decide +kernel
theorem dX4_makeEmpty_7 : decode cX4_makeEmpty 7 = .ok (.putfield 22, 3) := by decide +kernel
theorem dX4_makeEmpty_10 : decode cX4_makeEmpty 10 = .ok (.aload_n 0, 1) := by decide +kernel
theorem dX4_makeEmpty_11 : decode cX4_makeEmpty 11 = .ok (.iconst (-1), 1) := by decide +kernel
theorem dX4_makeEmpty_12 : decode cX4_makeEmpty 12 = .ok (.putfield 31, 3) := by decide +kernel
theorem dX4_makeEmpty_15 : decode cX4_makeEmpty 15 = .ok (.aload_n 0, 1) := by decide +kernel
theorem dX4_makeEmpty_16 : decode cX4_makeEmpty 16 = .ok (.iconst (-1), 1) := by decide +kernel
theorem dX4_makeEmpty_17 : decode cX4_makeEmpty 17 = .ok (.putfield 34, 3) := by decide +kernel
theorem dX4_makeEmpty_20 : decode cX4_makeEmpty 20 = .ok (.aload_n 0, 1) := by decide +kernel
theorem dX4_makeEmpty_21 : decode cX4_makeEmpty 21 = .ok (.iconst 3, 1) := by decide +kernel
theorem dX4_makeEmpty_22 : decode cX4_makeEmpty 22 = .ok (.putfield 37, 3) := by decide +kernel
theorem dX4_makeEmpty_25 : decode cX4_makeEmpty 25 = .ok (.return_, 1) := by decide +kernel
theorem dX4_becomeLike_0 : decode cX4_becomeLike 0 = .ok (.aload_n 0, 1) := by decide +kernel
theorem dX4_becomeLike_1 : decode cX4_becomeLike 1 = .ok (.aload_n 1, 1) := by decide +kernel
theorem dX4_becomeLike_2 : decode cX4_becomeLike 2 = .ok (.getfield 9, 3) := by decide +kernel
theorem dX4_becomeLike_5 : decode cX4_becomeLike 5 = .ok (.putfield 9, 3) := by decide +kernel
theorem dX4_becomeLike_8 : decode cX4_becomeLike 8 = .ok (.aload_n 1, 1) := by decide +kernel
theorem dX4_becomeLike_9 : decode cX4_becomeLike 9 = .ok (.getfield 15, 3) := by decide +kernel
theorem dX4_becomeLike_12 : decode cX4_becomeLike 12 = .ok (.aload_n 0, 1) := by decide +kernel
theorem dX4_becomeLike_13 : decode cX4_becomeLike 13 = .ok (.getfield 15, 3) := by decide +kernel
theorem dX4_becomeLike_16 : decode cX4_becomeLike 16 = .ok (.invokestatic 46, 3) := by decide +kernel
theorem dX4_becomeLike_19 : decode cX4_becomeLike 19 = .ok (.aload_n 1, 1) := by decide +kernel
theorem dX4_becomeLike_20 : decode cX4_becomeLike 20 = .ok (.getfield 19, 3) := by decide +kernel
theorem dX4_becomeLike_23 : decode cX4_becomeLike 23 = .ok (.aload_n 0, 1) := by decide +kernel
theorem dX4_becomeLike_24 : decode cX4_becomeLike 24 = .ok (.getfield 19, 3) := by decide +kernel
theorem dX4_becomeLike_27 : decode cX4_becomeLike 27 = .ok (.invokestatic 46, 3) := by decide +kernel
theorem dX4_becomeLike_30 : decode cX4_becomeLike 30 = .ok (.aload_n 0, 1) := by decide +kernel
theorem dX4_becomeLike_31 : decode cX4_becomeLike 31 = .ok (.aload_n 1, 1) := by decide +kernel
theorem dX4_becomeLike_32 : decode cX4_becomeLike 32 = .ok (.getfield 22, 3) := by decide +kernel
theorem dX4_becomeLike_35 : decode cX4_becomeLike 35 = .ok (.putfield 22, 3) := by decide +kernel
theorem dX4_becomeLike_38 : decode cX4_becomeLike 38 = .ok (.aload_n 1, 1) := by decide +kernel
theorem dX4_becomeLike_39 : decode cX4_becomeLike 39 = .ok (.getfield 25, 3) := by decide +kernel
theorem dX4_becomeLike_42 : decode cX4_becomeLike 42 = .ok (.aload_n 0, 1) := by decide +kernel
theorem dX4_becomeLike_43 : decode cX4_becomeLike 43 = .ok (.getfield 25, 3) := by decide +kernel
theorem dX4_becomeLike_46 : decode cX4_becomeLike 46 = .ok (.invokestatic 46, 3) := by decide +kernel
theorem dX4_becomeLike_49 : decode cX4_becomeLike 49 = .ok (.aload_n 1, 1) := by decide +kernel
theorem dX4_becomeLike_50 : decode cX4_becomeLike 50 = .ok (.getfield 28, 3) := by decide +kernel
theorem dX4_becomeLike_53 : decode cX4_becomeLike 53 = .ok (.aload_n 0, 1) := by decide +kernel
theorem dX4_becomeLike_54 : decode cX4_becomeLike 54 = .ok (.getfield 28, 3) := by decide +kernel
theorem dX4_becomeLike_57 : decode cX4_becomeLike 57 = .ok (.invokestatic 46, 3) := by decide +kernel
theorem dX4_becomeLike_60 : decode cX4_becomeLike 60 = .ok (.aload_n 0, 1) := by decide +kernel
theorem dX4_becomeLike_61 : decode cX4_becomeLike 61 = .ok (.aload_n 1, 1) := by decide +kernel
theorem dX4_becomeLike_62 : decode cX4_becomeLike 62 = .ok (.getfield 31, 3) := by decide +kernel
theorem dX4_becomeLike_65 : decode cX4_becomeLike 65 = .ok (.putfield 31, 3) := by decide +kernel
theorem dX4_becomeLike_68 : decode cX4_becomeLike 68 = .ok (.aload_n 0, 1) := by decide +kernel
theorem dX4_becomeLike_69 : decode cX4_becomeLike 69 = .ok (.aload_n 1, 1) := by decide +kernel
theorem dX4_becomeLike_70 : decode cX4_becomeLike 70 = .ok (.getfield 34, 3) := by decide +kernel
theorem dX4_becomeLike_73 : decode cX4_becomeLike 73 = .ok (.putfield 34, 3) := by decide +kernel
theorem dX4_becomeLike_76 : decode cX4_becomeLike 76 = .ok (.aload_n 0, 1) := by decide +kernel
theorem dX4_becomeLike_77 : decode cX4_becomeLike 77 = .ok (.aload_n 1, 1) := by decide +kernel
theorem dX4_becomeLike_78 : decode cX4_becomeLike 78 = .ok (.getfield 37, 3) := by decide +kernel
theorem dX4_becomeLike_81 : decode cX4_becomeLike 81 = .ok (.putfield 37, 3) := by decide +kernel
theorem dX4_becomeLike_84 : decode cX4_becomeLike 84 = .ok (.aload_n 0, 1) := by decide +kernel
theorem dX4_becomeLike_85 : decode cX4_becomeLike 85 = .ok (.aload_n 1, 1) := by decide +kernel
theorem dX4_becomeLike_86 : decode cX4_becomeLike 86 = .ok (.getfield 40, 3) := by decide +kernel
theorem dX4_becomeLike_89 : decode cX4_becomeLike 89 = .ok (.putfield 40, 3) := by decide +kernel
theorem dX4_becomeLike_92 : decode cX4_becomeLike 92 = .ok (.aload_n 0, 1) := by decide +kernel
theorem dX4_becomeLike_93 : decode cX4_becomeLike 93 = .ok (.aload_n 1, 1) := by decide +kernel
theorem dX4_becomeLike_94 : decode cX4_becomeLike 94 = .ok (.getfield 43, 3) := by decide +kernel
theorem dX4_becomeLike_97 : decode cX4_becomeLike 97 = .ok (.putfield 43, 3) := by decide +kernel
theorem dX4_becomeLike_100 : decode cX4_becomeLike 100 = .ok (.return_, 1) := by decide +kernel
theorem dX4_addWindow_0 : decode cX4_addWindow 0 = .ok (.aload_n 0, 1) := by decide +kernel
theorem dX4_addWindow_1 : decode cX4_addWindow 1 = .ok (.getfield 9, 3) := by decide +kernel
theorem dX4_addWindow_4 : decode cX4_addWindow 4 = .ok (.bipush 6, 2) := by decide +kernel
theorem dX4_addWindow_6 : decode cX4_addWindow 6 = .ok (.if_icmp .lt 6, 3) := by decide +kernel
theorem dX4_addWindow_9 : decode cX4_addWindow 9 = .ok (.bipush (-4), 2) := by decide +kernel
theorem dX4_addWindow_11 : decode cX4_addWindow 11 = .ok (.ireturn, 1) := by decide +kernel
theorem dX4_addWindow_12 : decode cX4_addWindow 12 = .ok (.aload_n 0, 1) := by decide +kernel
theorem dX4_addWindow_13 : decode cX4_addWindow 13 = .ok (.getfield 15, 3) := by decide +kernel
theorem dX4_addWindow_16 : decode cX4_addWindow 16 = .ok (.aload_n 0, 1) := by decide +kernel
theorem dX4_addWindow_17 : decode cX4_addWindow 17 = .ok (.getfield 9, 3) := by decide +kernel
theorem dX4_addWindow_20 : decode cX4_addWindow 20 = .ok (.iload_n 1, 1) := by decide +kernel
theorem dX4_addWindow_21 : decode cX4_addWindow 21 = .ok (.iastore, 1) := by decide +kernel
theorem dX4_addWindow_22 : decode cX4_addWindow 22 = .ok (.aload_n 0, 1) := by decide +kernel
theorem dX4_addWindow_23 : decode cX4_addWindow 23 = .ok (.getfield 19, 3) := by decide +kernel
theorem dX4_addWindow_26 : decode cX4_addWindow 26 = .ok (.aload_n 0, 1) := by decide +kernel
theorem dX4_addWindow_27 : decode cX4_addWindow 27 = .ok (.getfield 9, 3) := by decide +kernel
theorem dX4_addWindow_30 : decode cX4_addWindow 30 = .ok (.iload_n 2, 1) := by decide +kernel
theorem dX4_addWindow_31 : decode cX4_addWindow 31 = .ok (.iastore, 1) := by decide +kernel
theorem dX4_addWindow_32 : decode cX4_addWindow 32 = .ok (.aload_n 0, 1) := by decide +kernel
theorem dX4_addWindow_33 : decode cX4_addWindow 33 = .ok (.dup, 1) := by decide +kernel
theorem dX4_addWindow_34 : decode cX4_addWindow 34 = .ok (.getfield 9, 3) := by decide +kernel
theorem dX4_addWindow_37 : decode cX4_addWindow 37 = .ok (.iconst 1, 1) := by decide +kernel
theorem dX4_addWindow_38 : decode cX4_addWindow 38 = .ok (.iadd, 1) := by decide +kernel
theorem dX4_addWindow_39 : decode cX4_addWindow 39 = .ok (.putfield 9, 3) := by decide +kernel
theorem dX4_addWindow_42 : decode cX4_addWindow 42 = .ok (.aload_n 0, 1) := by decide +kernel
theorem dX4_addWindow_43 : decode cX4_addWindow 43 = .ok (.getfield 9, 3) := by decide +kernel
theorem dX4_addWindow_46 : decode cX4_addWindow 46 = .ok (.iconst 1, 1) := by decide +kernel
theorem dX4_addWindow_47 : decode cX4_addWindow 47 = .ok (.isub, 1) := by decide +kernel
theorem dX4_addWindow_48 : decode cX4_addWindow 48 = .ok (.ireturn, 1) := by decide +kernel
theorem dX4_addEar_0 : decode cX4_addEar 0 = .ok (.aload_n 0, 1) := by decide +kernel
theorem dX4_addEar_1 : decode cX4_addEar 1 = .ok (.getfield 22, 3) := by decide +kernel
theorem dX4_addEar_4 : decode cX4_addEar 4 = .ok (.iconst 3, 1) := by decide +kernel
theorem dX4_addEar_5 : decode cX4_addEar 5 = .ok (.if_icmp .lt 6, 3) := by decide +kernel
theorem dX4_addEar_8 : decode cX4_addEar 8 = .ok (.bipush (-4), 2) := by decide +kernel
theorem dX4_addEar_10 : decode cX4_addEar 10 = .ok (.ireturn, 1) := by decide +kernel
theorem dX4_addEar_11 : decode cX4_addEar 11 = .ok (.aload_n 0, 1) := by decide +kernel
theorem dX4_addEar_12 : decode cX4_addEar 12 = .ok (.getfield 25, 3) := by decide +kernel
theorem dX4_addEar_15 : decode cX4_addEar 15 = .ok (.aload_n 0, 1) := by decide +kernel
theorem dX4_addEar_16 : decode cX4_addEar 16 = .ok (.getfield 22, 3) := by decide +kernel
theorem dX4_addEar_19 : decode cX4_addEar 19 = .ok (.iload_n 1, 1) := by decide +kernel
theorem dX4_addEar_20 : decode cX4_addEar 20 = .ok (.iastore, 1) := by decide +kernel
theorem dX4_addEar_21 : decode cX4_addEar 21 = .ok (.aload_n 0, 1) := by decide +kernel
theorem dX4_addEar_22 : decode cX4_addEar 22 = .ok (.getfield 28, 3) := by decide +kernel
theorem dX4_addEar_25 : decode cX4_addEar 25 = .ok (.aload_n 0, 1) := by decide +kernel
theorem dX4_addEar_26 : decode cX4_addEar 26 = .ok (.getfield 22, 3) := by decide +kernel
theorem dX4_addEar_29 : decode cX4_addEar 29 = .ok (.iload_n 2, 1) := by decide +kernel
theorem dX4_addEar_30 : decode cX4_addEar 30 = .ok (.iastore, 1) := by decide +kernel
theorem dX4_addEar_31 : decode cX4_addEar 31 = .ok (.aload_n 0, 1) := by decide +kernel
theorem dX4_addEar_32 : decode cX4_addEar 32 = .ok (.dup, 1) := by decide +kernel
theorem dX4_addEar_33 : decode cX4_addEar 33 = .ok (.getfield 22, 3) := by decide +kernel
theorem dX4_addEar_36 : decode cX4_addEar 36 = .ok (.iconst 1, 1) := by decide +kernel
theorem dX4_addEar_37 : decode cX4_addEar 37 = .ok (.iadd, 1) := by decide +kernel
theorem dX4_addEar_38 : decode cX4_addEar 38 = .ok (.putfield 22, 3) := by decide +kernel
theorem dX4_addEar_41 : decode cX4_addEar 41 = .ok (.aload_n 0, 1) := by decide +kernel
theorem dX4_addEar_42 : decode cX4_addEar 42 = .ok (.getfield 22, 3) := by decide +kernel
theorem dX4_addEar_45 : decode cX4_addEar 45 = .ok (.iconst 1, 1) := by decide +kernel
theorem dX4_addEar_46 : decode cX4_addEar 46 = .ok (.isub, 1) := by decide +kernel
theorem dX4_addEar_47 : decode cX4_addEar 47 = .ok (.ireturn, 1) := by decide +kernel
theorem dX4_buildMill_0 : decode cX4_buildMill 0 = .ok (.aload_n 0, 1) := by decide +kernel
theorem dX4_buildMill_1 : decode cX4_buildMill 1 = .ok (.iload_n 1, 1) := by decide +kernel
theorem dX4_buildMill_2 : decode cX4_buildMill 2 = .ok (.putfield 31, 3) := by decide +kernel
theorem dX4_buildMill_5 : decode cX4_buildMill 5 = .ok (.aload_n 0, 1) := by decide +kernel
theorem dX4_buildMill_6 : decode cX4_buildMill 6 = .ok (.iload_n 2, 1) := by decide +kernel
theorem dX4_buildMill_7 : decode cX4_buildMill 7 = .ok (.putfield 34, 3) := by decide +kernel
theorem dX4_buildMill_10 : decode cX4_buildMill 10 = .ok (.return_, 1) := by decide +kernel
theorem dX4_hasMill_0 : decode cX4_hasMill 0 = .ok (.aload_n 0, 1) := by decide +kernel
theorem dX4_hasMill_1 : decode cX4_hasMill 1 = .ok (.getfield 31, 3) := by decide +kernel
theorem dX4_hasMill_4 : decode cX4_hasMill 4 = .ok (.ifCond .lt 7, 3) := by decide +kernel
theorem dX4_hasMill_7 : decode cX4_hasMill 7 = .ok (.iconst 1, 1) := by decide +kernel
theorem dX4_hasMill_8 : decode cX4_hasMill 8 = .ok (.goto 4, 3) := by decide +kernel
theorem dX4_hasMill_11 : decode cX4_hasMill 11 = .ok (.iconst 0, 1) := by decide +kernel
theorem dX4_hasMill_12 : decode cX4_hasMill 12 = .ok (.ireturn, 1) := by decide +kernel
theorem dX4_nextWindow_0 : decode cX4_nextWindow 0 = .ok (.iload_n 1, 1) := by decide +kernel
theorem dX4_nextWindow_1 : decode cX4_nextWindow 1 = .ok (.iconst 1, 1) := by decide +kernel
theorem dX4_nextWindow_2 : decode cX4_nextWindow 2 = .ok (.iadd, 1) := by decide +kernel
theorem dX4_nextWindow_3 : decode cX4_nextWindow 3 = .ok (.aload_n 0, 1) := by decide +kernel
theorem dX4_nextWindow_4 : decode cX4_nextWindow 4 = .ok (.getfield 9, 3) := by decide +kernel
theorem dX4_nextWindow_7 : decode cX4_nextWindow 7 = .ok (.if_icmp .ge 9, 3) := by decide +kernel
theorem dX4_nextWindow_10 : decode cX4_nextWindow 10 = .ok (.iload_n 1, 1) := by decide +kernel
theorem dX4_nextWindow_11 : decode cX4_nextWindow 11 = .ok (.iconst 1, 1) := by decide +kernel
theorem dX4_nextWindow_12 : decode cX4_nextWindow 12 = .ok (.iadd, 1) := by decide +kernel
theorem dX4_nextWindow_13 : decode cX4_nextWindow 13 = .ok (.goto 4, 3) := by decide +kernel
theorem dX4_nextWindow_16 : decode cX4_nextWindow 16 = .ok (.iconst 0, 1) := by decide +kernel
theorem dX4_nextWindow_17 : decode cX4_nextWindow 17 = .ok (.ireturn, 1) := by decide +kernel
theorem dX4_pacesToEar_0 : decode cX4_pacesToEar 0 = .ok (.aload_n 0, 1) := by decide +kernel
theorem dX4_pacesToEar_1 : decode cX4_pacesToEar 1 = .ok (.getfield 15, 3) := by decide +kernel
theorem dX4_pacesToEar_4 : decode cX4_pacesToEar 4 = .ok (.iload_n 1, 1) := by decide +kernel
theorem dX4_pacesToEar_5 : decode cX4_pacesToEar 5 = .ok (.iaload, 1) := by decide +kernel
theorem dX4_pacesToEar_6 : decode cX4_pacesToEar 6 = .ok (.aload_n 0, 1) := by decide +kernel
theorem dX4_pacesToEar_7 : decode cX4_pacesToEar 7 = .ok (.getfield 19, 3) := by decide +kernel
theorem dX4_pacesToEar_10 : decode cX4_pacesToEar 10 = .ok (.iload_n 1, 1) := by decide +kernel
theorem dX4_pacesToEar_11 : decode cX4_pacesToEar 11 = .ok (.iaload, 1) := by decide +kernel
theorem dX4_pacesToEar_12 : decode cX4_pacesToEar 12 = .ok (.aload_n 0, 1) := by decide +kernel
theorem dX4_pacesToEar_13 : decode cX4_pacesToEar 13 = .ok (.getfield 25, 3) := by decide +kernel
theorem dX4_pacesToEar_16 : decode cX4_pacesToEar 16 = .ok (.iload_n 2, 1) := by decide +kernel
theorem dX4_pacesToEar_17 : decode cX4_pacesToEar 17 = .ok (.iaload, 1) := by decide +kernel
theorem dX4_pacesToEar_18 : decode cX4_pacesToEar 18 = .ok (.aload_n 0, 1) := by decide +kernel
theorem dX4_pacesToEar_19 : decode cX4_pacesToEar 19 = .ok (.getfield 28, 3) := by decide +kernel
theorem dX4_pacesToEar_22 : decode cX4_pacesToEar 22 = .ok (.iload_n 2, 1) := by decide +kernel
theorem dX4_pacesToEar_23 : decode cX4_pacesToEar 23 = .ok (.iaload, 1) := by decide +kernel
theorem dX4_pacesToEar_24 : decode cX4_pacesToEar 24 = .ok (.invokestatic 50, 3) := by decide +kernel
theorem dX4_pacesToEar_27 : decode cX4_pacesToEar 27 = .ok (.ireturn, 1) := by decide +kernel
theorem dX4_pacesByMill_0 : decode cX4_pacesByMill 0 = .ok (.aload_n 0, 1) := by decide +kernel
theorem dX4_pacesByMill_1 : decode cX4_pacesByMill 1 = .ok (.getfield 15, 3) := by decide +kernel
theorem dX4_pacesByMill_4 : decode cX4_pacesByMill 4 = .ok (.iload_n 1, 1) := by decide +kernel
theorem dX4_pacesByMill_5 : decode cX4_pacesByMill 5 = .ok (.iaload, 1) := by decide +kernel
theorem dX4_pacesByMill_6 : decode cX4_pacesByMill 6 = .ok (.aload_n 0, 1) := by decide +kernel
theorem dX4_pacesByMill_7 : decode cX4_pacesByMill 7 = .ok (.getfield 19, 3) := by decide +kernel
theorem dX4_pacesByMill_10 : decode cX4_pacesByMill 10 = .ok (.iload_n 1, 1) := by decide +kernel
theorem dX4_pacesByMill_11 : decode cX4_pacesByMill 11 = .ok (.iaload, 1) := by decide +kernel
theorem dX4_pacesByMill_12 : decode cX4_pacesByMill 12 = .ok (.aload_n 0, 1) := by decide +kernel
theorem dX4_pacesByMill_13 : decode cX4_pacesByMill 13 = .ok (.getfield 31, 3) := by decide +kernel
theorem dX4_pacesByMill_16 : decode cX4_pacesByMill 16 = .ok (.aload_n 0, 1) := by decide +kernel
theorem dX4_pacesByMill_17 : decode cX4_pacesByMill 17 = .ok (.getfield 34, 3) := by decide +kernel
theorem dX4_pacesByMill_20 : decode cX4_pacesByMill 20 = .ok (.invokestatic 50, 3) := by decide +kernel
theorem dX4_pacesByMill_23 : decode cX4_pacesByMill 23 = .ok (.aload_n 0, 1) := by decide +kernel
theorem dX4_pacesByMill_24 : decode cX4_pacesByMill 24 = .ok (.getfield 31, 3) := by decide +kernel
theorem dX4_pacesByMill_27 : decode cX4_pacesByMill 27 = .ok (.aload_n 0, 1) := by decide +kernel
theorem dX4_pacesByMill_28 : decode cX4_pacesByMill 28 = .ok (.getfield 34, 3) := by decide +kernel
theorem dX4_pacesByMill_31 : decode cX4_pacesByMill 31 = .ok (.aload_n 0, 1) := by decide +kernel
theorem dX4_pacesByMill_32 : decode cX4_pacesByMill 32 = .ok (.getfield 25, 3) := by decide +kernel
theorem dX4_pacesByMill_35 : decode cX4_pacesByMill 35 = .ok (.iload_n 2, 1) := by decide +kernel
theorem dX4_pacesByMill_36 : decode cX4_pacesByMill 36 = .ok (.iaload, 1) := by decide +kernel
theorem dX4_pacesByMill_37 : decode cX4_pacesByMill 37 = .ok (.aload_n 0, 1) := by decide +kernel
theorem dX4_pacesByMill_38 : decode cX4_pacesByMill 38 = .ok (.getfield 28, 3) := by decide +kernel
theorem dX4_pacesByMill_41 : decode cX4_pacesByMill 41 = .ok (.iload_n 2, 1) := by decide +kernel
theorem dX4_pacesByMill_42 : decode cX4_pacesByMill 42 = .ok (.iaload, 1) := by decide +kernel
theorem dX4_pacesByMill_43 : decode cX4_pacesByMill 43 = .ok (.invokestatic 50, 3) := by decide +kernel
theorem dX4_pacesByMill_46 : decode cX4_pacesByMill 46 = .ok (.iadd, 1) := by decide +kernel
theorem dX4_pacesByMill_47 : decode cX4_pacesByMill 47 = .ok (.ireturn, 1) := by decide +kernel
theorem dX4_timeBetween_0 : decode cX4_timeBetween 0 = .ok (.aload_n 0, 1) := by decide +kernel
theorem dX4_timeBetween_1 : decode cX4_timeBetween 1 = .ok (.getfield 15, 3) := by decide +kernel
theorem dX4_timeBetween_4 : decode cX4_timeBetween 4 = .ok (.iload_n 1, 1) := by decide +kernel
theorem dX4_timeBetween_5 : decode cX4_timeBetween 5 = .ok (.iaload, 1) := by decide +kernel
theorem dX4_timeBetween_6 : decode cX4_timeBetween 6 = .ok (.aload_n 0, 1) := by decide +kernel
theorem dX4_timeBetween_7 : decode cX4_timeBetween 7 = .ok (.getfield 19, 3) := by decide +kernel
theorem dX4_timeBetween_10 : decode cX4_timeBetween 10 = .ok (.iload_n 1, 1) := by decide +kernel
theorem dX4_timeBetween_11 : decode cX4_timeBetween 11 = .ok (.iaload, 1) := by decide +kernel
theorem dX4_timeBetween_12 : decode cX4_timeBetween 12 = .ok (.aload_n 0, 1) := by decide +kernel
theorem dX4_timeBetween_13 : decode cX4_timeBetween 13 = .ok (.getfield 15, 3) := by decide +kernel
theorem dX4_timeBetween_16 : decode cX4_timeBetween 16 = .ok (.iload_n 2, 1) := by decide +kernel
theorem dX4_timeBetween_17 : decode cX4_timeBetween 17 = .ok (.iaload, 1) := by decide +kernel
theorem dX4_timeBetween_18 : decode cX4_timeBetween 18 = .ok (.aload_n 0, 1) := by decide +kernel
theorem dX4_timeBetween_19 : decode cX4_timeBetween 19 = .ok (.getfield 19, 3) := by decide +kernel
theorem dX4_timeBetween_22 : decode cX4_timeBetween 22 = .ok (.iload_n 2, 1) := by decide +kernel
theorem dX4_timeBetween_23 : decode cX4_timeBetween 23 = .ok (.iaload, 1) := by decide +kernel
theorem dX4_timeBetween_24 : decode cX4_timeBetween 24 = .ok (.invokestatic 50, 3) := by decide +kernel
theorem dX4_timeBetween_27 : decode cX4_timeBetween 27 = .ok (.aload_n 0, 1) := by decide +kernel
theorem dX4_timeBetween_28 : decode cX4_timeBetween 28 = .ok (.getfield 37, 3) := by decide +kernel
theorem dX4_timeBetween_31 : decode cX4_timeBetween 31 = .ok (.imul, 1) := by decide +kernel
theorem dX4_timeBetween_32 : decode cX4_timeBetween 32 = .ok (.ireturn, 1) := by decide +kernel
theorem dX4_soundTime_0 : decode cX4_soundTime 0 = .ok (.aload_n 0, 1) := by decide +kernel
theorem dX4_soundTime_1 : decode cX4_soundTime 1 = .ok (.getfield 40, 3) := by decide +kernel
theorem dX4_soundTime_4 : decode cX4_soundTime 4 = .ok (.aload_n 0, 1) := by decide +kernel
theorem dX4_soundTime_5 : decode cX4_soundTime 5 = .ok (.getfield 15, 3) := by decide +kernel
theorem dX4_soundTime_8 : decode cX4_soundTime 8 = .ok (.iload_n 1, 1) := by decide +kernel
theorem dX4_soundTime_9 : decode cX4_soundTime 9 = .ok (.iaload, 1) := by decide +kernel
theorem dX4_soundTime_10 : decode cX4_soundTime 10 = .ok (.aload_n 0, 1) := by decide +kernel
theorem dX4_soundTime_11 : decode cX4_soundTime 11 = .ok (.getfield 25, 3) := by decide +kernel
theorem dX4_soundTime_14 : decode cX4_soundTime 14 = .ok (.iload_n 2, 1) := by decide +kernel
theorem dX4_soundTime_15 : decode cX4_soundTime 15 = .ok (.iaload, 1) := by decide +kernel
theorem dX4_soundTime_16 : decode cX4_soundTime 16 = .ok (.isub, 1) := by decide +kernel
theorem dX4_soundTime_17 : decode cX4_soundTime 17 = .ok (.imul, 1) := by decide +kernel
theorem dX4_soundTime_18 : decode cX4_soundTime 18 = .ok (.aload_n 0, 1) := by decide +kernel
theorem dX4_soundTime_19 : decode cX4_soundTime 19 = .ok (.getfield 43, 3) := by decide +kernel
theorem dX4_soundTime_22 : decode cX4_soundTime 22 = .ok (.aload_n 0, 1) := by decide +kernel
theorem dX4_soundTime_23 : decode cX4_soundTime 23 = .ok (.getfield 19, 3) := by decide +kernel
theorem dX4_soundTime_26 : decode cX4_soundTime 26 = .ok (.iload_n 1, 1) := by decide +kernel
theorem dX4_soundTime_27 : decode cX4_soundTime 27 = .ok (.iaload, 1) := by decide +kernel
theorem dX4_soundTime_28 : decode cX4_soundTime 28 = .ok (.aload_n 0, 1) := by decide +kernel
theorem dX4_soundTime_29 : decode cX4_soundTime 29 = .ok (.getfield 28, 3) := by decide +kernel
theorem dX4_soundTime_32 : decode cX4_soundTime 32 = .ok (.iload_n 2, 1) := by decide +kernel
theorem dX4_soundTime_33 : decode cX4_soundTime 33 = .ok (.iaload, 1) := by decide +kernel
theorem dX4_soundTime_34 : decode cX4_soundTime 34 = .ok (.isub, 1) := by decide +kernel
theorem dX4_soundTime_35 : decode cX4_soundTime 35 = .ok (.imul, 1) := by decide +kernel
theorem dX4_soundTime_36 : decode cX4_soundTime 36 = .ok (.iadd, 1) := by decide +kernel
theorem dX4_soundTime_37 : decode cX4_soundTime 37 = .ok (.istore_n 3, 1) := by decide +kernel
theorem dX4_soundTime_38 : decode cX4_soundTime 38 = .ok (.iconst 0, 1) := by decide +kernel
theorem dX4_soundTime_39 : decode cX4_soundTime 39 = .ok (.aload_n 0, 1) := by decide +kernel
theorem dX4_soundTime_40 : decode cX4_soundTime 40 = .ok (.getfield 15, 3) := by decide +kernel
theorem dX4_soundTime_43 : decode cX4_soundTime 43 = .ok (.iload_n 1, 1) := by decide +kernel
theorem dX4_soundTime_44 : decode cX4_soundTime 44 = .ok (.iaload, 1) := by decide +kernel
theorem dX4_soundTime_45 : decode cX4_soundTime 45 = .ok (.aload_n 0, 1) := by decide +kernel
theorem dX4_soundTime_46 : decode cX4_soundTime 46 = .ok (.getfield 19, 3) := by decide +kernel
theorem dX4_soundTime_49 : decode cX4_soundTime 49 = .ok (.iload_n 1, 1) := by decide +kernel
theorem dX4_soundTime_50 : decode cX4_soundTime 50 = .ok (.iaload, 1) := by decide +kernel
theorem dX4_soundTime_51 : decode cX4_soundTime 51 = .ok (.aload_n 0, 1) := by decide +kernel
theorem dX4_soundTime_52 : decode cX4_soundTime 52 = .ok (.getfield 25, 3) := by decide +kernel
theorem dX4_soundTime_55 : decode cX4_soundTime 55 = .ok (.iload_n 2, 1) := by decide +kernel
theorem dX4_soundTime_56 : decode cX4_soundTime 56 = .ok (.iaload, 1) := by decide +kernel
theorem dX4_soundTime_57 : decode cX4_soundTime 57 = .ok (.aload_n 0, 1) := by decide +kernel
theorem dX4_soundTime_58 : decode cX4_soundTime 58 = .ok (.getfield 28, 3) := by decide +kernel
theorem dX4_soundTime_61 : decode cX4_soundTime 61 = .ok (.iload_n 2, 1) := by decide +kernel
theorem dX4_soundTime_62 : decode cX4_soundTime 62 = .ok (.iaload, 1) := by decide +kernel
theorem dX4_soundTime_63 : decode cX4_soundTime 63 = .ok (.invokestatic 50, 3) := by decide +kernel
theorem dX4_soundTime_66 : decode cX4_soundTime 66 = .ok (.aload_n 0, 1) := by decide +kernel
theorem dX4_soundTime_67 : decode cX4_soundTime 67 = .ok (.getfield 37, 3) := by decide +kernel
theorem dX4_soundTime_70 : decode cX4_soundTime 70 = .ok (.imul, 1) := by decide +kernel
theorem dX4_soundTime_71 : decode cX4_soundTime 71 = .ok (.iload_n 3, 1) := by decide +kernel
theorem dX4_soundTime_72 : decode cX4_soundTime 72 = .ok (.iadd, 1) := by decide +kernel
theorem dX4_soundTime_73 : decode cX4_soundTime 73 = .ok (.invokestatic 54, 3) := by decide +kernel
theorem dX4_soundTime_76 : decode cX4_soundTime 76 = .ok (.ireturn, 1) := by decide +kernel
theorem dX4_mayComeFrom_0 : decode cX4_mayComeFrom 0 = .ok (.iconst (-1), 1) := by decide +kernel
theorem dX4_mayComeFrom_1 : decode cX4_mayComeFrom 1 = .ok (.istore 4, 2) := by decide +kernel
theorem dX4_mayComeFrom_3 : decode cX4_mayComeFrom 3 = .ok (.iconst 0, 1) := by decide +kernel
theorem dX4_mayComeFrom_4 : decode cX4_mayComeFrom 4 = .ok (.istore 5, 2) := by decide +kernel
theorem dX4_mayComeFrom_6 : decode cX4_mayComeFrom 6 = .ok (.iload 5, 2) := by decide +kernel
theorem dX4_mayComeFrom_8 : decode cX4_mayComeFrom 8 = .ok (.aload_n 0, 1) := by decide +kernel
theorem dX4_mayComeFrom_9 : decode cX4_mayComeFrom 9 = .ok (.getfield 22, 3) := by decide +kernel
theorem dX4_mayComeFrom_12 : decode cX4_mayComeFrom 12 = .ok (.if_icmp .ge 64, 3) := by decide +kernel
theorem dX4_mayComeFrom_15 : decode cX4_mayComeFrom 15 = .ok (.iload_n 2, 1) := by decide +kernel
theorem dX4_mayComeFrom_16 : decode cX4_mayComeFrom 16 = .ok (.iload 5, 2) := by decide +kernel
theorem dX4_mayComeFrom_18 : decode cX4_mayComeFrom 18 = .ok (.invokestatic 60, 3) := by decide +kernel
theorem dX4_mayComeFrom_21 : decode cX4_mayComeFrom 21 = .ok (.ifCond .ne 6, 3) := by decide +kernel
theorem dX4_mayComeFrom_24 : decode cX4_mayComeFrom 24 = .ok (.goto 46, 3) := by decide +kernel
theorem dX4_mayComeFrom_27 : decode cX4_mayComeFrom 27 = .ok (.iload 4, 2) := by decide +kernel
theorem dX4_mayComeFrom_29 : decode cX4_mayComeFrom 29 = .ok (.iconst (-1), 1) := by decide +kernel
theorem dX4_mayComeFrom_30 : decode cX4_mayComeFrom 30 = .ok (.if_icmp .ne 7, 3) := by decide +kernel
theorem dX4_mayComeFrom_33 : decode cX4_mayComeFrom 33 = .ok (.iload 5, 2) := by decide +kernel
theorem dX4_mayComeFrom_35 : decode cX4_mayComeFrom 35 = .ok (.istore 4, 2) := by decide +kernel
theorem dX4_mayComeFrom_37 : decode cX4_mayComeFrom 37 = .ok (.aload_n 3, 1) := by decide +kernel
theorem dX4_mayComeFrom_38 : decode cX4_mayComeFrom 38 = .ok (.iload 5, 2) := by decide +kernel
theorem dX4_mayComeFrom_40 : decode cX4_mayComeFrom 40 = .ok (.iaload, 1) := by decide +kernel
theorem dX4_mayComeFrom_41 : decode cX4_mayComeFrom 41 = .ok (.aload_n 0, 1) := by decide +kernel
theorem dX4_mayComeFrom_42 : decode cX4_mayComeFrom 42 = .ok (.iload_n 1, 1) := by decide +kernel
theorem dX4_mayComeFrom_43 : decode cX4_mayComeFrom 43 = .ok (.iload 5, 2) := by decide +kernel
theorem dX4_mayComeFrom_45 : decode cX4_mayComeFrom 45 = .ok (.invokevirtual 64, 3) := by decide +kernel
theorem dX4_mayComeFrom_48 : decode cX4_mayComeFrom 48 = .ok (.isub, 1) := by decide +kernel
theorem dX4_mayComeFrom_49 : decode cX4_mayComeFrom 49 = .ok (.istore 6, 2) := by decide +kernel
theorem dX4_mayComeFrom_51 : decode cX4_mayComeFrom 51 = .ok (.iload 6, 2) := by decide +kernel
theorem dX4_mayComeFrom_53 : decode cX4_mayComeFrom 53 = .ok (.aload_n 3, 1) := by decide +kernel
theorem dX4_mayComeFrom_54 : decode cX4_mayComeFrom 54 = .ok (.iload 4, 2) := by decide +kernel
theorem dX4_mayComeFrom_56 : decode cX4_mayComeFrom 56 = .ok (.iaload, 1) := by decide +kernel
theorem dX4_mayComeFrom_57 : decode cX4_mayComeFrom 57 = .ok (.aload_n 0, 1) := by decide +kernel
theorem dX4_mayComeFrom_58 : decode cX4_mayComeFrom 58 = .ok (.iload_n 1, 1) := by decide +kernel
theorem dX4_mayComeFrom_59 : decode cX4_mayComeFrom 59 = .ok (.iload 4, 2) := by decide +kernel
theorem dX4_mayComeFrom_61 : decode cX4_mayComeFrom 61 = .ok (.invokevirtual 64, 3) := by decide +kernel
theorem dX4_mayComeFrom_64 : decode cX4_mayComeFrom 64 = .ok (.isub, 1) := by decide +kernel
theorem dX4_mayComeFrom_65 : decode cX4_mayComeFrom 65 = .ok (.if_icmp .eq 5, 3) := by decide +kernel
theorem dX4_mayComeFrom_68 : decode cX4_mayComeFrom 68 = .ok (.iconst 0, 1) := by decide +kernel
theorem dX4_mayComeFrom_69 : decode cX4_mayComeFrom 69 = .ok (.ireturn, 1) := by decide +kernel
theorem dX4_mayComeFrom_70 : decode cX4_mayComeFrom 70 = .ok (.iinc 5 1, 3) := by decide +kernel
theorem dX4_mayComeFrom_73 : decode cX4_mayComeFrom 73 = .ok (.goto (-67), 3) := by decide +kernel
theorem dX4_mayComeFrom_76 : decode cX4_mayComeFrom 76 = .ok (.iconst 1, 1) := by decide +kernel
theorem dX4_mayComeFrom_77 : decode cX4_mayComeFrom 77 = .ok (.ireturn, 1) := by decide +kernel
theorem dX4_pairsParted_0 : decode cX4_pairsParted 0 = .ok (.iconst 0, 1) := by decide +kernel
theorem dX4_pairsParted_1 : decode cX4_pairsParted 1 = .ok (.istore_n 3, 1) := by decide +kernel
theorem dX4_pairsParted_2 : decode cX4_pairsParted 2 = .ok (.iconst 0, 1) := by decide +kernel
theorem dX4_pairsParted_3 : decode cX4_pairsParted 3 = .ok (.istore 4, 2) := by decide +kernel
theorem dX4_pairsParted_5 : decode cX4_pairsParted 5 = .ok (.iload 4, 2) := by decide +kernel
theorem dX4_pairsParted_7 : decode cX4_pairsParted 7 = .ok (.aload_n 0, 1) := by decide +kernel
theorem dX4_pairsParted_8 : decode cX4_pairsParted 8 = .ok (.getfield 9, 3) := by decide +kernel
theorem dX4_pairsParted_11 : decode cX4_pairsParted 11 = .ok (.if_icmp .ge 91, 3) := by decide +kernel
theorem dX4_pairsParted_14 : decode cX4_pairsParted 14 = .ok (.iload_n 1, 1) := by decide +kernel
theorem dX4_pairsParted_15 : decode cX4_pairsParted 15 = .ok (.iload 4, 2) := by decide +kernel
theorem dX4_pairsParted_17 : decode cX4_pairsParted 17 = .ok (.invokestatic 60, 3) := by decide +kernel
theorem dX4_pairsParted_20 : decode cX4_pairsParted 20 = .ok (.ifCond .ne 6, 3) := by decide +kernel
theorem dX4_pairsParted_23 : decode cX4_pairsParted 23 = .ok (.goto 73, 3) := by decide +kernel
theorem dX4_pairsParted_26 : decode cX4_pairsParted 26 = .ok (.aload_n 0, 1) := by decide +kernel
theorem dX4_pairsParted_27 : decode cX4_pairsParted 27 = .ok (.iload 4, 2) := by decide +kernel
theorem dX4_pairsParted_29 : decode cX4_pairsParted 29 = .ok (.iload_n 2, 1) := by decide +kernel
theorem dX4_pairsParted_30 : decode cX4_pairsParted 30 = .ok (.invokevirtual 64, 3) := by decide +kernel
theorem dX4_pairsParted_33 : decode cX4_pairsParted 33 = .ok (.aload_n 0, 1) := by decide +kernel
theorem dX4_pairsParted_34 : decode cX4_pairsParted 34 = .ok (.iload 4, 2) := by decide +kernel
theorem dX4_pairsParted_36 : decode cX4_pairsParted 36 = .ok (.iconst 0, 1) := by decide +kernel
theorem dX4_pairsParted_37 : decode cX4_pairsParted 37 = .ok (.invokevirtual 64, 3) := by decide +kernel
theorem dX4_pairsParted_40 : decode cX4_pairsParted 40 = .ok (.isub, 1) := by decide +kernel
theorem dX4_pairsParted_41 : decode cX4_pairsParted 41 = .ok (.istore 5, 2) := by decide +kernel
theorem dX4_pairsParted_43 : decode cX4_pairsParted 43 = .ok (.iload 4, 2) := by decide +kernel
theorem dX4_pairsParted_45 : decode cX4_pairsParted 45 = .ok (.iconst 1, 1) := by decide +kernel
theorem dX4_pairsParted_46 : decode cX4_pairsParted 46 = .ok (.iadd, 1) := by decide +kernel
theorem dX4_pairsParted_47 : decode cX4_pairsParted 47 = .ok (.istore 6, 2) := by decide +kernel
theorem dX4_pairsParted_49 : decode cX4_pairsParted 49 = .ok (.iload 6, 2) := by decide +kernel
theorem dX4_pairsParted_51 : decode cX4_pairsParted 51 = .ok (.aload_n 0, 1) := by decide +kernel
theorem dX4_pairsParted_52 : decode cX4_pairsParted 52 = .ok (.getfield 9, 3) := by decide +kernel
theorem dX4_pairsParted_55 : decode cX4_pairsParted 55 = .ok (.if_icmp .ge 41, 3) := by decide +kernel
theorem dX4_pairsParted_58 : decode cX4_pairsParted 58 = .ok (.iload_n 1, 1) := by decide +kernel
theorem dX4_pairsParted_59 : decode cX4_pairsParted 59 = .ok (.iload 6, 2) := by decide +kernel
theorem dX4_pairsParted_61 : decode cX4_pairsParted 61 = .ok (.invokestatic 60, 3) := by decide +kernel
theorem dX4_pairsParted_64 : decode cX4_pairsParted 64 = .ok (.ifCond .eq 26, 3) := by decide +kernel
theorem dX4_pairsParted_67 : decode cX4_pairsParted 67 = .ok (.aload_n 0, 1) := by decide +kernel
theorem dX4_pairsParted_68 : decode cX4_pairsParted 68 = .ok (.iload 6, 2) := by decide +kernel
theorem dX4_pairsParted_70 : decode cX4_pairsParted 70 = .ok (.iload_n 2, 1) := by decide +kernel
theorem dX4_pairsParted_71 : decode cX4_pairsParted 71 = .ok (.invokevirtual 64, 3) := by decide +kernel
theorem dX4_pairsParted_74 : decode cX4_pairsParted 74 = .ok (.aload_n 0, 1) := by decide +kernel
theorem dX4_pairsParted_75 : decode cX4_pairsParted 75 = .ok (.iload 6, 2) := by decide +kernel
theorem dX4_pairsParted_77 : decode cX4_pairsParted 77 = .ok (.iconst 0, 1) := by decide +kernel
theorem dX4_pairsParted_78 : decode cX4_pairsParted 78 = .ok (.invokevirtual 64, 3) := by decide +kernel
theorem dX4_pairsParted_81 : decode cX4_pairsParted 81 = .ok (.isub, 1) := by decide +kernel
theorem dX4_pairsParted_82 : decode cX4_pairsParted 82 = .ok (.iload 5, 2) := by decide +kernel
theorem dX4_pairsParted_84 : decode cX4_pairsParted 84 = .ok (.if_icmp .eq 6, 3) := by decide +kernel
theorem dX4_pairsParted_87 : decode cX4_pairsParted 87 = .ok (.iinc 3 1, 3) := by decide +kernel
theorem dX4_pairsParted_90 : decode cX4_pairsParted 90 = .ok (.iinc 6 1, 3) := by decide +kernel
theorem dX4_pairsParted_93 : decode cX4_pairsParted 93 = .ok (.goto (-44), 3) := by decide +kernel
theorem dX4_pairsParted_96 : decode cX4_pairsParted 96 = .ok (.iinc 4 1, 3) := by decide +kernel
theorem dX4_pairsParted_99 : decode cX4_pairsParted 99 = .ok (.goto (-94), 3) := by decide +kernel
theorem dX4_pairsParted_102 : decode cX4_pairsParted 102 = .ok (.iload_n 3, 1) := by decide +kernel
theorem dX4_pairsParted_103 : decode cX4_pairsParted 103 = .ok (.ireturn, 1) := by decide +kernel
theorem dX4_digestOn_0 : decode cX4_digestOn 0 = .ok (.lload_n 1, 1) := by decide +kernel
theorem dX4_digestOn_1 : decode cX4_digestOn 1 = .ok (.lstore_n 3, 1) := by decide +kernel
theorem dX4_digestOn_2 : decode cX4_digestOn 2 = .ok (.iconst 0, 1) := by decide +kernel
theorem dX4_digestOn_3 : decode cX4_digestOn 3 = .ok (.istore 5, 2) := by decide +kernel
theorem dX4_digestOn_5 : decode cX4_digestOn 5 = .ok (.iload 5, 2) := by decide +kernel
theorem dX4_digestOn_7 : decode cX4_digestOn 7 = .ok (.aload_n 0, 1) := by decide +kernel
theorem dX4_digestOn_8 : decode cX4_digestOn 8 = .ok (.getfield 9, 3) := by decide +kernel
theorem dX4_digestOn_11 : decode cX4_digestOn 11 = .ok (.if_icmp .ge 39, 3) := by decide +kernel
theorem dX4_digestOn_14 : decode cX4_digestOn 14 = .ok (.ldc2_w 67, 3) := by decide +kernel
theorem dX4_digestOn_17 : decode cX4_digestOn 17 = .ok (.lload_n 3, 1) := by decide +kernel
theorem dX4_digestOn_18 : decode cX4_digestOn 18 = .ok (.lmul, 1) := by decide +kernel
theorem dX4_digestOn_19 : decode cX4_digestOn 19 = .ok (.aload_n 0, 1) := by decide +kernel
theorem dX4_digestOn_20 : decode cX4_digestOn 20 = .ok (.getfield 15, 3) := by decide +kernel
theorem dX4_digestOn_23 : decode cX4_digestOn 23 = .ok (.iload 5, 2) := by decide +kernel
theorem dX4_digestOn_25 : decode cX4_digestOn 25 = .ok (.iaload, 1) := by decide +kernel
theorem dX4_digestOn_26 : decode cX4_digestOn 26 = .ok (.i2l, 1) := by decide +kernel
theorem dX4_digestOn_27 : decode cX4_digestOn 27 = .ok (.ladd, 1) := by decide +kernel
theorem dX4_digestOn_28 : decode cX4_digestOn 28 = .ok (.lstore_n 3, 1) := by decide +kernel
theorem dX4_digestOn_29 : decode cX4_digestOn 29 = .ok (.ldc2_w 67, 3) := by decide +kernel
theorem dX4_digestOn_32 : decode cX4_digestOn 32 = .ok (.lload_n 3, 1) := by decide +kernel
theorem dX4_digestOn_33 : decode cX4_digestOn 33 = .ok (.lmul, 1) := by decide +kernel
theorem dX4_digestOn_34 : decode cX4_digestOn 34 = .ok (.aload_n 0, 1) := by decide +kernel
theorem dX4_digestOn_35 : decode cX4_digestOn 35 = .ok (.getfield 19, 3) := by decide +kernel
theorem dX4_digestOn_38 : decode cX4_digestOn 38 = .ok (.iload 5, 2) := by decide +kernel
theorem dX4_digestOn_40 : decode cX4_digestOn 40 = .ok (.iaload, 1) := by decide +kernel
theorem dX4_digestOn_41 : decode cX4_digestOn 41 = .ok (.i2l, 1) := by decide +kernel
theorem dX4_digestOn_42 : decode cX4_digestOn 42 = .ok (.ladd, 1) := by decide +kernel
theorem dX4_digestOn_43 : decode cX4_digestOn 43 = .ok (.lstore_n 3, 1) := by decide +kernel
theorem dX4_digestOn_44 : decode cX4_digestOn 44 = .ok (.iinc 5 1, 3) := by decide +kernel
theorem dX4_digestOn_47 : decode cX4_digestOn 47 = .ok (.goto (-42), 3) := by decide +kernel
theorem dX4_digestOn_50 : decode cX4_digestOn 50 = .ok (.iconst 0, 1) := by decide +kernel
theorem dX4_digestOn_51 : decode cX4_digestOn 51 = .ok (.istore 5, 2) := by decide +kernel
theorem dX4_digestOn_53 : decode cX4_digestOn 53 = .ok (.iload 5, 2) := by decide +kernel
theorem dX4_digestOn_55 : decode cX4_digestOn 55 = .ok (.aload_n 0, 1) := by decide +kernel
theorem dX4_digestOn_56 : decode cX4_digestOn 56 = .ok (.getfield 22, 3) := by decide +kernel
theorem dX4_digestOn_59 : decode cX4_digestOn 59 = .ok (.if_icmp .ge 39, 3) := by decide +kernel
theorem dX4_digestOn_62 : decode cX4_digestOn 62 = .ok (.ldc2_w 67, 3) := by decide +kernel
theorem dX4_digestOn_65 : decode cX4_digestOn 65 = .ok (.lload_n 3, 1) := by decide +kernel
theorem dX4_digestOn_66 : decode cX4_digestOn 66 = .ok (.lmul, 1) := by decide +kernel
theorem dX4_digestOn_67 : decode cX4_digestOn 67 = .ok (.aload_n 0, 1) := by decide +kernel
theorem dX4_digestOn_68 : decode cX4_digestOn 68 = .ok (.getfield 25, 3) := by decide +kernel
theorem dX4_digestOn_71 : decode cX4_digestOn 71 = .ok (.iload 5, 2) := by decide +kernel
theorem dX4_digestOn_73 : decode cX4_digestOn 73 = .ok (.iaload, 1) := by decide +kernel
theorem dX4_digestOn_74 : decode cX4_digestOn 74 = .ok (.i2l, 1) := by decide +kernel
theorem dX4_digestOn_75 : decode cX4_digestOn 75 = .ok (.ladd, 1) := by decide +kernel
theorem dX4_digestOn_76 : decode cX4_digestOn 76 = .ok (.lstore_n 3, 1) := by decide +kernel
theorem dX4_digestOn_77 : decode cX4_digestOn 77 = .ok (.ldc2_w 67, 3) := by decide +kernel
theorem dX4_digestOn_80 : decode cX4_digestOn 80 = .ok (.lload_n 3, 1) := by decide +kernel
theorem dX4_digestOn_81 : decode cX4_digestOn 81 = .ok (.lmul, 1) := by decide +kernel
theorem dX4_digestOn_82 : decode cX4_digestOn 82 = .ok (.aload_n 0, 1) := by decide +kernel
theorem dX4_digestOn_83 : decode cX4_digestOn 83 = .ok (.getfield 28, 3) := by decide +kernel
theorem dX4_digestOn_86 : decode cX4_digestOn 86 = .ok (.iload 5, 2) := by decide +kernel
theorem dX4_digestOn_88 : decode cX4_digestOn 88 = .ok (.iaload, 1) := by decide +kernel
theorem dX4_digestOn_89 : decode cX4_digestOn 89 = .ok (.i2l, 1) := by decide +kernel
theorem dX4_digestOn_90 : decode cX4_digestOn 90 = .ok (.ladd, 1) := by decide +kernel
theorem dX4_digestOn_91 : decode cX4_digestOn 91 = .ok (.lstore_n 3, 1) := by decide +kernel
theorem dX4_digestOn_92 : decode cX4_digestOn 92 = .ok (.iinc 5 1, 3) := by decide +kernel
theorem dX4_digestOn_95 : decode cX4_digestOn 95 = .ok (.goto (-42), 3) := by decide +kernel
theorem dX4_digestOn_98 : decode cX4_digestOn 98 = .ok (.ldc2_w 67, 3) := by decide +kernel
theorem dX4_digestOn_101 : decode cX4_digestOn 101 = .ok (.lload_n 3, 1) := by decide +kernel
theorem dX4_digestOn_102 : decode cX4_digestOn 102 = .ok (.lmul, 1) := by decide +kernel
theorem dX4_digestOn_103 : decode cX4_digestOn 103 = .ok (.aload_n 0, 1) := by decide +kernel
theorem dX4_digestOn_104 : decode cX4_digestOn 104 = .ok (.getfield 31, 3) := by decide +kernel
theorem dX4_digestOn_107 : decode cX4_digestOn 107 = .ok (.i2l, 1) := by decide +kernel
theorem dX4_digestOn_108 : decode cX4_digestOn 108 = .ok (.ladd, 1) := by decide +kernel
theorem dX4_digestOn_109 : decode cX4_digestOn 109 = .ok (.lstore_n 3, 1) := by decide +kernel
theorem dX4_digestOn_110 : decode cX4_digestOn 110 = .ok (.ldc2_w 67, 3) := by decide +kernel
theorem dX4_digestOn_113 : decode cX4_digestOn 113 = .ok (.lload_n 3, 1) := by decide +kernel
theorem dX4_digestOn_114 : decode cX4_digestOn 114 = .ok (.lmul, 1) := by decide +kernel
theorem dX4_digestOn_115 : decode cX4_digestOn 115 = .ok (.aload_n 0, 1) := by decide +kernel
theorem dX4_digestOn_116 : decode cX4_digestOn 116 = .ok (.getfield 34, 3) := by decide +kernel
theorem dX4_digestOn_119 : decode cX4_digestOn 119 = .ok (.i2l, 1) := by decide +kernel
theorem dX4_digestOn_120 : decode cX4_digestOn 120 = .ok (.ladd, 1) := by decide +kernel
theorem dX4_digestOn_121 : decode cX4_digestOn 121 = .ok (.lreturn, 1) := by decide +kernel
theorem dX5_init_0 : decode cX5_init 0 = .ok (.aload_n 0, 1) := by decide +kernel
theorem dX5_init_1 : decode cX5_init 1 = .ok (.invokespecial 3, 3) := by decide +kernel
theorem dX5_init_4 : decode cX5_init 4 = .ok (.aload_n 0, 1) := by decide +kernel
theorem dX5_init_5 : decode cX5_init 5 = .ok (.bipush 36, 2) := by decide +kernel
theorem dX5_init_7 : decode cX5_init 7 = .ok (.newarray .int, 2) := by decide +kernel
theorem dX5_init_9 : decode cX5_init 9 = .ok (.putfield 9, 3) := by decide +kernel
theorem dX5_init_12 : decode cX5_init 12 = .ok (.aload_n 0, 1) := by decide +kernel
theorem dX5_init_13 : decode cX5_init 13 = .ok (.bipush 6, 2) := by decide +kernel
theorem dX5_init_15 : decode cX5_init 15 = .ok (.newarray .int, 2) := by decide +kernel
theorem dX5_init_17 : decode cX5_init 17 = .ok (.putfield 15, 3) := by decide +kernel
theorem dX5_init_20 : decode cX5_init 20 = .ok (.return_, 1) := by decide +kernel
theorem dX5_weigh_0 : decode cX5_weigh 0 = .ok (.iconst 0, 1) := by decide +kernel
theorem dX5_weigh_1 : decode cX5_weigh 1 = .ok (.istore 5, 2) := by decide +kernel
theorem dX5_weigh_3 : decode cX5_weigh 3 = .ok (.iload 5, 2) := by decide +kernel
theorem dX5_weigh_5 : decode cX5_weigh 5 = .ok (.aload_n 0, 1) := by decide +kernel
theorem dX5_weigh_6 : decode cX5_weigh 6 = .ok (.getfield 9, 3) := by decide +kernel
theorem dX5_weigh_9 : decode cX5_weigh 9 = .ok (.arraylength, 1) := by decide +kernel
theorem dX5_weigh_10 : decode cX5_weigh 10 = .ok (.if_icmp .ge 18, 3) := by decide +kernel
theorem dX5_weigh_13 : decode cX5_weigh 13 = .ok (.aload_n 0, 1) := by decide +kernel
theorem dX5_weigh_14 : decode cX5_weigh 14 = .ok (.getfield 9, 3) := by decide +kernel
theorem dX5_weigh_17 : decode cX5_weigh 17 = .ok (.iload 5, 2) := by decide +kernel
theorem dX5_weigh_19 : decode cX5_weigh 19 = .ok (.ldc 18, 2) := by decide +kernel
theorem dX5_weigh_21 : decode cX5_weigh 21 = .ok (.iastore, 1) := by decide +kernel
theorem dX5_weigh_22 : decode cX5_weigh 22 = .ok (.iinc 5 1, 3) := by decide +kernel
theorem dX5_weigh_25 : decode cX5_weigh 25 = .ok (.goto (-22), 3) := by decide +kernel
theorem dX5_weigh_28 : decode cX5_weigh 28 = .ok (.iconst 0, 1) := by decide +kernel
theorem dX5_weigh_29 : decode cX5_weigh 29 = .ok (.istore 5, 2) := by decide +kernel
theorem dX5_weigh_31 : decode cX5_weigh 31 = .ok (.iload 5, 2) := by decide +kernel
theorem dX5_weigh_33 : decode cX5_weigh 33 = .ok (.aload_n 1, 1) := by decide +kernel
theorem dX5_weigh_34 : decode cX5_weigh 34 = .ok (.getfield 19, 3) := by decide +kernel
theorem dX5_weigh_37 : decode cX5_weigh 37 = .ok (.if_icmp .ge 108, 3) := by decide +kernel
theorem dX5_weigh_40 : decode cX5_weigh 40 = .ok (.aload_n 3, 1) := by decide +kernel
theorem dX5_weigh_41 : decode cX5_weigh 41 = .ok (.aload_n 1, 1) := by decide +kernel
theorem dX5_weigh_42 : decode cX5_weigh 42 = .ok (.aload_n 2, 1) := by decide +kernel
theorem dX5_weigh_43 : decode cX5_weigh 43 = .ok (.iload 5, 2) := by decide +kernel
theorem dX5_weigh_45 : decode cX5_weigh 45 = .ok (.invokevirtual 25, 3) := by decide +kernel
theorem dX5_weigh_48 : decode cX5_weigh 48 = .ok (.iconst 0, 1) := by decide +kernel
theorem dX5_weigh_49 : decode cX5_weigh 49 = .ok (.istore 6, 2) := by decide +kernel
theorem dX5_weigh_51 : decode cX5_weigh 51 = .ok (.iload 6, 2) := by decide +kernel
theorem dX5_weigh_53 : decode cX5_weigh 53 = .ok (.aload_n 3, 1) := by decide +kernel
theorem dX5_weigh_54 : decode cX5_weigh 54 = .ok (.getfield 31, 3) := by decide +kernel
theorem dX5_weigh_57 : decode cX5_weigh 57 = .ok (.if_icmp .ge 82, 3) := by decide +kernel
theorem dX5_weigh_60 : decode cX5_weigh 60 = .ok (.iconst 0, 1) := by decide +kernel
theorem dX5_weigh_61 : decode cX5_weigh 61 = .ok (.istore 7, 2) := by decide +kernel
theorem dX5_weigh_63 : decode cX5_weigh 63 = .ok (.iload 7, 2) := by decide +kernel
theorem dX5_weigh_65 : decode cX5_weigh 65 = .ok (.aload_n 3, 1) := by decide +kernel
theorem dX5_weigh_66 : decode cX5_weigh 66 = .ok (.getfield 31, 3) := by decide +kernel
theorem dX5_weigh_69 : decode cX5_weigh 69 = .ok (.if_icmp .ge 64, 3) := by decide +kernel
theorem dX5_weigh_72 : decode cX5_weigh 72 = .ok (.aload_n 3, 1) := by decide +kernel
theorem dX5_weigh_73 : decode cX5_weigh 73 = .ok (.getfield 34, 3) := by decide +kernel
theorem dX5_weigh_76 : decode cX5_weigh 76 = .ok (.iload 6, 2) := by decide +kernel
theorem dX5_weigh_78 : decode cX5_weigh 78 = .ok (.iaload, 1) := by decide +kernel
theorem dX5_weigh_79 : decode cX5_weigh 79 = .ok (.bipush 6, 2) := by decide +kernel
theorem dX5_weigh_81 : decode cX5_weigh 81 = .ok (.imul, 1) := by decide +kernel
theorem dX5_weigh_82 : decode cX5_weigh 82 = .ok (.aload_n 3, 1) := by decide +kernel
theorem dX5_weigh_83 : decode cX5_weigh 83 = .ok (.getfield 34, 3) := by decide +kernel
theorem dX5_weigh_86 : decode cX5_weigh 86 = .ok (.iload 7, 2) := by decide +kernel
theorem dX5_weigh_88 : decode cX5_weigh 88 = .ok (.iaload, 1) := by decide +kernel
theorem dX5_weigh_89 : decode cX5_weigh 89 = .ok (.iadd, 1) := by decide +kernel
theorem dX5_weigh_90 : decode cX5_weigh 90 = .ok (.istore 8, 2) := by decide +kernel
theorem dX5_weigh_92 : decode cX5_weigh 92 = .ok (.aload_n 0, 1) := by decide +kernel
theorem dX5_weigh_93 : decode cX5_weigh 93 = .ok (.getfield 9, 3) := by decide +kernel
theorem dX5_weigh_96 : decode cX5_weigh 96 = .ok (.iload 8, 2) := by decide +kernel
theorem dX5_weigh_98 : decode cX5_weigh 98 = .ok (.aload_n 0, 1) := by decide +kernel
theorem dX5_weigh_99 : decode cX5_weigh 99 = .ok (.getfield 9, 3) := by decide +kernel
theorem dX5_weigh_102 : decode cX5_weigh 102 = .ok (.iload 8, 2) := by decide +kernel
theorem dX5_weigh_104 : decode cX5_weigh 104 = .ok (.iaload, 1) := by decide +kernel
theorem dX5_weigh_105 : decode cX5_weigh 105 = .ok (.aload_n 3, 1) := by decide +kernel
theorem dX5_weigh_106 : decode cX5_weigh 106 = .ok (.getfield 37, 3) := by decide +kernel
theorem dX5_weigh_109 : decode cX5_weigh 109 = .ok (.iload 6, 2) := by decide +kernel
theorem dX5_weigh_111 : decode cX5_weigh 111 = .ok (.iaload, 1) := by decide +kernel
theorem dX5_weigh_112 : decode cX5_weigh 112 = .ok (.aload_n 3, 1) := by decide +kernel
theorem dX5_weigh_113 : decode cX5_weigh 113 = .ok (.getfield 37, 3) := by decide +kernel
theorem dX5_weigh_116 : decode cX5_weigh 116 = .ok (.iload 7, 2) := by decide +kernel
theorem dX5_weigh_118 : decode cX5_weigh 118 = .ok (.iaload, 1) := by decide +kernel
theorem dX5_weigh_119 : decode cX5_weigh 119 = .ok (.isub, 1) := by decide +kernel
theorem dX5_weigh_120 : decode cX5_weigh 120 = .ok (.iload 4, 2) := by decide +kernel
theorem dX5_weigh_122 : decode cX5_weigh 122 = .ok (.isub, 1) := by decide +kernel
theorem dX5_weigh_123 : decode cX5_weigh 123 = .ok (.invokestatic 40, 3) := by decide +kernel
theorem dX5_weigh_126 : decode cX5_weigh 126 = .ok (.iastore, 1) := by decide +kernel
theorem dX5_weigh_127 : decode cX5_weigh 127 = .ok (.iinc 7 1, 3) := by decide +kernel
theorem dX5_weigh_130 : decode cX5_weigh 130 = .ok (.goto (-67), 3) := by decide +kernel
theorem dX5_weigh_133 : decode cX5_weigh 133 = .ok (.iinc 6 1, 3) := by decide +kernel
theorem dX5_weigh_136 : decode cX5_weigh 136 = .ok (.goto (-85), 3) := by decide +kernel
theorem dX5_weigh_139 : decode cX5_weigh 139 = .ok (.iinc 5 1, 3) := by decide +kernel
theorem dX5_weigh_142 : decode cX5_weigh 142 = .ok (.goto (-111), 3) := by decide +kernel
theorem dX5_weigh_145 : decode cX5_weigh 145 = .ok (.return_, 1) := by decide +kernel
theorem dX5_tunes_0 : decode cX5_tunes 0 = .ok (.iconst 0, 1) := by decide +kernel
theorem dX5_tunes_1 : decode cX5_tunes 1 = .ok (.istore_n 3, 1) := by decide +kernel
theorem dX5_tunes_2 : decode cX5_tunes 2 = .ok (.iload_n 3, 1) := by decide +kernel
theorem dX5_tunes_3 : decode cX5_tunes 3 = .ok (.aload_n 1, 1) := by decide +kernel
theorem dX5_tunes_4 : decode cX5_tunes 4 = .ok (.getfield 46, 3) := by decide +kernel
theorem dX5_tunes_7 : decode cX5_tunes 7 = .ok (.if_icmp .ge 24, 3) := by decide +kernel
theorem dX5_tunes_10 : decode cX5_tunes 10 = .ok (.aload_n 0, 1) := by decide +kernel
theorem dX5_tunes_11 : decode cX5_tunes 11 = .ok (.getfield 15, 3) := by decide +kernel
theorem dX5_tunes_14 : decode cX5_tunes 14 = .ok (.iload_n 3, 1) := by decide +kernel
theorem dX5_tunes_15 : decode cX5_tunes 15 = .ok (.aload_n 1, 1) := by decide +kernel
theorem dX5_tunes_16 : decode cX5_tunes 16 = .ok (.getfield 51, 3) := by decide +kernel
theorem dX5_tunes_19 : decode cX5_tunes 19 = .ok (.iload_n 3, 1) := by decide +kernel
theorem dX5_tunes_20 : decode cX5_tunes 20 = .ok (.iaload, 1) := by decide +kernel
theorem dX5_tunes_21 : decode cX5_tunes 21 = .ok (.invokestatic 54, 3) := by decide +kernel
theorem dX5_tunes_24 : decode cX5_tunes 24 = .ok (.iastore, 1) := by decide +kernel
theorem dX5_tunes_25 : decode cX5_tunes 25 = .ok (.iinc 3 1, 3) := by decide +kernel
theorem dX5_tunes_28 : decode cX5_tunes 28 = .ok (.goto (-26), 3) := by decide +kernel
theorem dX5_tunes_31 : decode cX5_tunes 31 = .ok (.iconst 0, 1) := by decide +kernel
theorem dX5_tunes_32 : decode cX5_tunes 32 = .ok (.istore_n 3, 1) := by decide +kernel
theorem dX5_tunes_33 : decode cX5_tunes 33 = .ok (.iload_n 3, 1) := by decide +kernel
theorem dX5_tunes_34 : decode cX5_tunes 34 = .ok (.bipush 64, 2) := by decide +kernel
theorem dX5_tunes_36 : decode cX5_tunes 36 = .ok (.if_icmp .ge 104, 3) := by decide +kernel
theorem dX5_tunes_39 : decode cX5_tunes 39 = .ok (.iconst 0, 1) := by decide +kernel
theorem dX5_tunes_40 : decode cX5_tunes 40 = .ok (.istore 4, 2) := by decide +kernel
theorem dX5_tunes_42 : decode cX5_tunes 42 = .ok (.iconst 0, 1) := by decide +kernel
theorem dX5_tunes_43 : decode cX5_tunes 43 = .ok (.istore 5, 2) := by decide +kernel
theorem dX5_tunes_45 : decode cX5_tunes 45 = .ok (.iload 5, 2) := by decide +kernel
theorem dX5_tunes_47 : decode cX5_tunes 47 = .ok (.aload_n 1, 1) := by decide +kernel
theorem dX5_tunes_48 : decode cX5_tunes 48 = .ok (.getfield 46, 3) := by decide +kernel
theorem dX5_tunes_51 : decode cX5_tunes 51 = .ok (.if_icmp .ge 76, 3) := by decide +kernel
theorem dX5_tunes_54 : decode cX5_tunes 54 = .ok (.iload_n 2, 1) := by decide +kernel
theorem dX5_tunes_55 : decode cX5_tunes 55 = .ok (.iload 5, 2) := by decide +kernel
theorem dX5_tunes_57 : decode cX5_tunes 57 = .ok (.invokestatic 58, 3) := by decide +kernel
theorem dX5_tunes_60 : decode cX5_tunes 60 = .ok (.ifCond .ne 6, 3) := by decide +kernel
theorem dX5_tunes_63 : decode cX5_tunes 63 = .ok (.goto 58, 3) := by decide +kernel
theorem dX5_tunes_66 : decode cX5_tunes 66 = .ok (.aload_n 0, 1) := by decide +kernel
theorem dX5_tunes_67 : decode cX5_tunes 67 = .ok (.aload_n 1, 1) := by decide +kernel
theorem dX5_tunes_68 : decode cX5_tunes 68 = .ok (.iload_n 2, 1) := by decide +kernel
theorem dX5_tunes_69 : decode cX5_tunes 69 = .ok (.iload 5, 2) := by decide +kernel
theorem dX5_tunes_71 : decode cX5_tunes 71 = .ok (.invokevirtual 62, 3) := by decide +kernel
theorem dX5_tunes_74 : decode cX5_tunes 74 = .ok (.istore 6, 2) := by decide +kernel
theorem dX5_tunes_76 : decode cX5_tunes 76 = .ok (.iload 6, 2) := by decide +kernel
theorem dX5_tunes_78 : decode cX5_tunes 78 = .ok (.aload_n 1, 1) := by decide +kernel
theorem dX5_tunes_79 : decode cX5_tunes 79 = .ok (.getfield 51, 3) := by decide +kernel
theorem dX5_tunes_82 : decode cX5_tunes 82 = .ok (.iload 5, 2) := by decide +kernel
theorem dX5_tunes_84 : decode cX5_tunes 84 = .ok (.iaload, 1) := by decide +kernel
theorem dX5_tunes_85 : decode cX5_tunes 85 = .ok (.invokestatic 54, 3) := by decide +kernel
theorem dX5_tunes_88 : decode cX5_tunes 88 = .ok (.sipush 1000, 3) := by decide +kernel
theorem dX5_tunes_91 : decode cX5_tunes 91 = .ok (.iadd, 1) := by decide +kernel
theorem dX5_tunes_92 : decode cX5_tunes 92 = .ok (.if_icmp .le 5, 3) := by decide +kernel
theorem dX5_tunes_95 : decode cX5_tunes 95 = .ok (.iconst 0, 1) := by decide +kernel
theorem dX5_tunes_96 : decode cX5_tunes 96 = .ok (.ireturn, 1) := by decide +kernel
theorem dX5_tunes_97 : decode cX5_tunes 97 = .ok (.iload 6, 2) := by decide +kernel
theorem dX5_tunes_99 : decode cX5_tunes 99 = .ok (.aload_n 0, 1) := by decide +kernel
theorem dX5_tunes_100 : decode cX5_tunes 100 = .ok (.getfield 15, 3) := by decide +kernel
theorem dX5_tunes_103 : decode cX5_tunes 103 = .ok (.iload 5, 2) := by decide +kernel
theorem dX5_tunes_105 : decode cX5_tunes 105 = .ok (.iaload, 1) := by decide +kernel
theorem dX5_tunes_106 : decode cX5_tunes 106 = .ok (.if_icmp .le 6, 3) := by decide +kernel
theorem dX5_tunes_109 : decode cX5_tunes 109 = .ok (.iconst 1, 1) := by decide +kernel
theorem dX5_tunes_110 : decode cX5_tunes 110 = .ok (.istore 4, 2) := by decide +kernel
theorem dX5_tunes_112 : decode cX5_tunes 112 = .ok (.aload_n 0, 1) := by decide +kernel
theorem dX5_tunes_113 : decode cX5_tunes 113 = .ok (.getfield 15, 3) := by decide +kernel
theorem dX5_tunes_116 : decode cX5_tunes 116 = .ok (.iload 5, 2) := by decide +kernel
theorem dX5_tunes_118 : decode cX5_tunes 118 = .ok (.iload 6, 2) := by decide +kernel
theorem dX5_tunes_120 : decode cX5_tunes 120 = .ok (.iastore, 1) := by decide +kernel
theorem dX5_tunes_121 : decode cX5_tunes 121 = .ok (.iinc 5 1, 3) := by decide +kernel
theorem dX5_tunes_124 : decode cX5_tunes 124 = .ok (.goto (-79), 3) := by decide +kernel
theorem dX5_tunes_127 : decode cX5_tunes 127 = .ok (.iload 4, 2) := by decide +kernel
theorem dX5_tunes_129 : decode cX5_tunes 129 = .ok (.ifCond .ne 5, 3) := by decide +kernel
theorem dX5_tunes_132 : decode cX5_tunes 132 = .ok (.iconst 1, 1) := by decide +kernel
theorem dX5_tunes_133 : decode cX5_tunes 133 = .ok (.ireturn, 1) := by decide +kernel
theorem dX5_tunes_134 : decode cX5_tunes 134 = .ok (.iinc 3 1, 3) := by decide +kernel
theorem dX5_tunes_137 : decode cX5_tunes 137 = .ok (.goto (-104), 3) := by decide +kernel
theorem dX5_tunes_140 : decode cX5_tunes 140 = .ok (.iconst 0, 1) := by decide +kernel
theorem dX5_tunes_141 : decode cX5_tunes 141 = .ok (.ireturn, 1) := by decide +kernel
theorem dX5_neededLate_0 : decode cX5_neededLate 0 = .ok (.aload_n 0, 1) := by decide +kernel
theorem dX5_neededLate_1 : decode cX5_neededLate 1 = .ok (.getfield 15, 3) := by decide +kernel
theorem dX5_neededLate_4 : decode cX5_neededLate 4 = .ok (.iload_n 3, 1) := by decide +kernel
theorem dX5_neededLate_5 : decode cX5_neededLate 5 = .ok (.iaload, 1) := by decide +kernel
theorem dX5_neededLate_6 : decode cX5_neededLate 6 = .ok (.istore 4, 2) := by decide +kernel
theorem dX5_neededLate_8 : decode cX5_neededLate 8 = .ok (.iconst 0, 1) := by decide +kernel
theorem dX5_neededLate_9 : decode cX5_neededLate 9 = .ok (.istore 5, 2) := by decide +kernel
theorem dX5_neededLate_11 : decode cX5_neededLate 11 = .ok (.iload 5, 2) := by decide +kernel
theorem dX5_neededLate_13 : decode cX5_neededLate 13 = .ok (.aload_n 1, 1) := by decide +kernel
theorem dX5_neededLate_14 : decode cX5_neededLate 14 = .ok (.getfield 46, 3) := by decide +kernel
theorem dX5_neededLate_17 : decode cX5_neededLate 17 = .ok (.if_icmp .ge 45, 3) := by decide +kernel
theorem dX5_neededLate_20 : decode cX5_neededLate 20 = .ok (.iload_n 2, 1) := by decide +kernel
theorem dX5_neededLate_21 : decode cX5_neededLate 21 = .ok (.iload 5, 2) := by decide +kernel
theorem dX5_neededLate_23 : decode cX5_neededLate 23 = .ok (.invokestatic 58, 3) := by decide +kernel
theorem dX5_neededLate_26 : decode cX5_neededLate 26 = .ok (.ifCond .eq 30, 3) := by decide +kernel
theorem dX5_neededLate_29 : decode cX5_neededLate 29 = .ok (.iload 4, 2) := by decide +kernel
theorem dX5_neededLate_31 : decode cX5_neededLate 31 = .ok (.aload_n 0, 1) := by decide +kernel
theorem dX5_neededLate_32 : decode cX5_neededLate 32 = .ok (.getfield 15, 3) := by decide +kernel
theorem dX5_neededLate_35 : decode cX5_neededLate 35 = .ok (.iload 5, 2) := by decide +kernel
theorem dX5_neededLate_37 : decode cX5_neededLate 37 = .ok (.iaload, 1) := by decide +kernel
theorem dX5_neededLate_38 : decode cX5_neededLate 38 = .ok (.aload_n 0, 1) := by decide +kernel
theorem dX5_neededLate_39 : decode cX5_neededLate 39 = .ok (.getfield 9, 3) := by decide +kernel
theorem dX5_neededLate_42 : decode cX5_neededLate 42 = .ok (.iload 5, 2) := by decide +kernel
theorem dX5_neededLate_44 : decode cX5_neededLate 44 = .ok (.bipush 6, 2) := by decide +kernel
theorem dX5_neededLate_46 : decode cX5_neededLate 46 = .ok (.imul, 1) := by decide +kernel
theorem dX5_neededLate_47 : decode cX5_neededLate 47 = .ok (.iload_n 3, 1) := by decide +kernel
theorem dX5_neededLate_48 : decode cX5_neededLate 48 = .ok (.iadd, 1) := by decide +kernel
theorem dX5_neededLate_49 : decode cX5_neededLate 49 = .ok (.iaload, 1) := by decide +kernel
theorem dX5_neededLate_50 : decode cX5_neededLate 50 = .ok (.iadd, 1) := by decide +kernel
theorem dX5_neededLate_51 : decode cX5_neededLate 51 = .ok (.invokestatic 40, 3) := by decide +kernel
theorem dX5_neededLate_54 : decode cX5_neededLate 54 = .ok (.istore 4, 2) := by decide +kernel
theorem dX5_neededLate_56 : decode cX5_neededLate 56 = .ok (.iinc 5 1, 3) := by decide +kernel
theorem dX5_neededLate_59 : decode cX5_neededLate 59 = .ok (.goto (-48), 3) := by decide +kernel
theorem dX5_neededLate_62 : decode cX5_neededLate 62 = .ok (.aload_n 1, 1) := by decide +kernel
theorem dX5_neededLate_63 : decode cX5_neededLate 63 = .ok (.getfield 51, 3) := by decide +kernel
theorem dX5_neededLate_66 : decode cX5_neededLate 66 = .ok (.iload_n 3, 1) := by decide +kernel
theorem dX5_neededLate_67 : decode cX5_neededLate 67 = .ok (.iaload, 1) := by decide +kernel
theorem dX5_neededLate_68 : decode cX5_neededLate 68 = .ok (.iconst 3, 1) := by decide +kernel
theorem dX5_neededLate_69 : decode cX5_neededLate 69 = .ok (.if_icmp .ne 16, 3) := by decide +kernel
theorem dX5_neededLate_72 : decode cX5_neededLate 72 = .ok (.iload 4, 2) := by decide +kernel
theorem dX5_neededLate_74 : decode cX5_neededLate 74 = .ok (.ineg, 1) := by decide +kernel
theorem dX5_neededLate_75 : decode cX5_neededLate 75 = .ok (.bipush 10, 2) := by decide +kernel
theorem dX5_neededLate_77 : decode cX5_neededLate 77 = .ok (.invokestatic 66, 3) := by decide +kernel
theorem dX5_neededLate_80 : decode cX5_neededLate 80 = .ok (.bipush 10, 2) := by decide +kernel
theorem dX5_neededLate_82 : decode cX5_neededLate 82 = .ok (.imul, 1) := by decide +kernel
theorem dX5_neededLate_83 : decode cX5_neededLate 83 = .ok (.ineg, 1) := by decide +kernel
theorem dX5_neededLate_84 : decode cX5_neededLate 84 = .ok (.ireturn, 1) := by decide +kernel
theorem dX5_neededLate_85 : decode cX5_neededLate 85 = .ok (.iload 4, 2) := by decide +kernel
theorem dX5_neededLate_87 : decode cX5_neededLate 87 = .ok (.ireturn, 1) := by decide +kernel
theorem dX5_lowestLate_0 : decode cX5_lowestLate 0 = .ok (.iload_n 0, 1) := by decide +kernel
theorem dX5_lowestLate_1 : decode cX5_lowestLate 1 = .ok (.iconst 1, 1) := by decide +kernel
theorem dX5_lowestLate_2 : decode cX5_lowestLate 2 = .ok (.if_icmp .ne 9, 3) := by decide +kernel
theorem dX5_lowestLate_5 : decode cX5_lowestLate 5 = .ok (.sipush (-520), 3) := by decide +kernel
theorem dX5_lowestLate_8 : decode cX5_lowestLate 8 = .ok (.goto 6, 3) := by decide +kernel
theorem dX5_lowestLate_11 : decode cX5_lowestLate 11 = .ok (.sipush (-500), 3) := by decide +kernel
theorem dX5_lowestLate_14 : decode cX5_lowestLate 14 = .ok (.ireturn, 1) := by decide +kernel
theorem dX5_leastOffset_0 : decode cX5_leastOffset 0 = .ok (.aload_n 0, 1) := by decide +kernel
theorem dX5_leastOffset_1 : decode cX5_leastOffset 1 = .ok (.getfield 15, 3) := by decide +kernel
theorem dX5_leastOffset_4 : decode cX5_leastOffset 4 = .ok (.iload_n 2, 1) := by decide +kernel
theorem dX5_leastOffset_5 : decode cX5_leastOffset 5 = .ok (.iaload, 1) := by decide +kernel
theorem dX5_leastOffset_6 : decode cX5_leastOffset 6 = .ok (.istore_n 3, 1) := by decide +kernel
theorem dX5_leastOffset_7 : decode cX5_leastOffset 7 = .ok (.aload_n 1, 1) := by decide +kernel
theorem dX5_leastOffset_8 : decode cX5_leastOffset 8 = .ok (.getfield 51, 3) := by decide +kernel
theorem dX5_leastOffset_11 : decode cX5_leastOffset 11 = .ok (.iload_n 2, 1) := by decide +kernel
theorem dX5_leastOffset_12 : decode cX5_leastOffset 12 = .ok (.iaload, 1) := by decide +kernel
theorem dX5_leastOffset_13 : decode cX5_leastOffset 13 = .ok (.iconst 1, 1) := by decide +kernel
theorem dX5_leastOffset_14 : decode cX5_leastOffset 14 = .ok (.if_icmp .ne 8, 3) := by decide +kernel
theorem dX5_leastOffset_17 : decode cX5_leastOffset 17 = .ok (.iload_n 3, 1) := by decide +kernel
theorem dX5_leastOffset_18 : decode cX5_leastOffset 18 = .ok (.bipush 20, 2) := by decide +kernel
theorem dX5_leastOffset_20 : decode cX5_leastOffset 20 = .ok (.iadd, 1) := by decide +kernel
theorem dX5_leastOffset_21 : decode cX5_leastOffset 21 = .ok (.ireturn, 1) := by decide +kernel
theorem dX5_leastOffset_22 : decode cX5_leastOffset 22 = .ok (.aload_n 1, 1) := by decide +kernel
theorem dX5_leastOffset_23 : decode cX5_leastOffset 23 = .ok (.getfield 51, 3) := by decide +kernel
theorem dX5_leastOffset_26 : decode cX5_leastOffset 26 = .ok (.iload_n 2, 1) := by decide +kernel
theorem dX5_leastOffset_27 : decode cX5_leastOffset 27 = .ok (.iaload, 1) := by decide +kernel
theorem dX5_leastOffset_28 : decode cX5_leastOffset 28 = .ok (.iconst 3, 1) := by decide +kernel
theorem dX5_leastOffset_29 : decode cX5_leastOffset 29 = .ok (.if_icmp .ne 18, 3) := by decide +kernel
theorem dX5_leastOffset_32 : decode cX5_leastOffset 32 = .ok (.iload_n 3, 1) := by decide +kernel
theorem dX5_leastOffset_33 : decode cX5_leastOffset 33 = .ok (.ifCond .gt 14, 3) := by decide +kernel
theorem dX5_leastOffset_36 : decode cX5_leastOffset 36 = .ok (.sipush (-500), 3) := by decide +kernel
theorem dX5_leastOffset_39 : decode cX5_leastOffset 39 = .ok (.iload_n 3, 1) := by decide +kernel
theorem dX5_leastOffset_40 : decode cX5_leastOffset 40 = .ok (.bipush 9, 2) := by decide +kernel
theorem dX5_leastOffset_42 : decode cX5_leastOffset 42 = .ok (.isub, 1) := by decide +kernel
theorem dX5_leastOffset_43 : decode cX5_leastOffset 43 = .ok (.invokestatic 40, 3) := by decide +kernel
theorem dX5_leastOffset_46 : decode cX5_leastOffset 46 = .ok (.ireturn, 1) := by decide +kernel
theorem dX5_leastOffset_47 : decode cX5_leastOffset 47 = .ok (.iload_n 3, 1) := by decide +kernel
theorem dX5_leastOffset_48 : decode cX5_leastOffset 48 = .ok (.ireturn, 1) := by decide +kernel
theorem dX6_init_0 : decode cX6_init 0 = .ok (.aload_n 0, 1) := by decide +kernel
theorem dX6_init_1 : decode cX6_init 1 = .ok (.invokespecial 1, 3) := by decide +kernel
theorem dX6_init_4 : decode cX6_init 4 = .ok (.aload_n 0, 1) := by decide +kernel
theorem dX6_init_5 : decode cX6_init 5 = .ok (.new 7, 3) := by decide +kernel
theorem dX6_init_8 : decode cX6_init 8 = .ok (.dup, 1) := by decide +kernel
theorem dX6_init_9 : decode cX6_init 9 = .ok (.invokespecial 9, 3) := by decide +kernel
theorem dX6_init_12 : decode cX6_init 12 = .ok (.putfield 10, 3) := by decide +kernel
theorem dX6_init_15 : decode cX6_init 15 = .ok (.aload_n 0, 1) := by decide +kernel
theorem dX6_init_16 : decode cX6_init 16 = .ok (.new 16, 3) := by decide +kernel
theorem dX6_init_19 : decode cX6_init 19 = .ok (.dup, 1) := by decide +kernel
theorem dX6_init_20 : decode cX6_init 20 = .ok (.invokespecial 18, 3) := by decide +kernel
theorem dX6_init_23 : decode cX6_init 23 = .ok (.putfield 19, 3) := by decide +kernel
theorem dX6_init_26 : decode cX6_init 26 = .ok (.aload_n 0, 1) := by decide +kernel
theorem dX6_init_27 : decode cX6_init 27 = .ok (.iconst 2, 1) := by decide +kernel
theorem dX6_init_28 : decode cX6_init 28 = .ok (.anewarray 7, 3) := by decide +kernel
theorem dX6_init_31 : decode cX6_init 31 = .ok (.putfield 23, 3) := by decide +kernel
theorem dX6_init_34 : decode cX6_init 34 = .ok (.aload_n 0, 1) := by decide +kernel
theorem dX6_init_35 : decode cX6_init 35 = .ok (.iconst 2, 1) := by decide +kernel
theorem dX6_init_36 : decode cX6_init 36 = .ok (.anewarray 16, 3) := by decide +kernel
theorem dX6_init_39 : decode cX6_init 39 = .ok (.putfield 27, 3) := by decide +kernel
theorem dX6_init_42 : decode cX6_init 42 = .ok (.aload_n 0, 1) := by decide +kernel
theorem dX6_init_43 : decode cX6_init 43 = .ok (.iconst 2, 1) := by decide +kernel
theorem dX6_init_44 : decode cX6_init 44 = .ok (.newarray .int, 2) := by decide +kernel
theorem dX6_init_46 : decode cX6_init 46 = .ok (.putfield 31, 3) := by decide +kernel
theorem dX6_init_49 : decode cX6_init 49 = .ok (.aload_n 0, 1) := by decide +kernel
theorem dX6_init_50 : decode cX6_init 50 = .ok (.new 7, 3) := by decide +kernel
theorem dX6_init_53 : decode cX6_init 53 = .ok (.dup, 1) := by decide +kernel
theorem dX6_init_54 : decode cX6_init 54 = .ok (.invokespecial 9, 3) := by decide +kernel
theorem dX6_init_57 : decode cX6_init 57 = .ok (.putfield 35, 3) := by decide +kernel
theorem dX6_init_60 : decode cX6_init 60 = .ok (.aload_n 0, 1) := by decide +kernel
theorem dX6_init_61 : decode cX6_init 61 = .ok (.new 16, 3) := by decide +kernel
theorem dX6_init_64 : decode cX6_init 64 = .ok (.dup, 1) := by decide +kernel
theorem dX6_init_65 : decode cX6_init 65 = .ok (.invokespecial 18, 3) := by decide +kernel
theorem dX6_init_68 : decode cX6_init 68 = .ok (.putfield 38, 3) := by decide +kernel
theorem dX6_init_71 : decode cX6_init 71 = .ok (.aload_n 0, 1) := by decide +kernel
theorem dX6_init_72 : decode cX6_init 72 = .ok (.new 16, 3) := by decide +kernel
theorem dX6_init_75 : decode cX6_init 75 = .ok (.dup, 1) := by decide +kernel
theorem dX6_init_76 : decode cX6_init 76 = .ok (.invokespecial 18, 3) := by decide +kernel
theorem dX6_init_79 : decode cX6_init 79 = .ok (.putfield 41, 3) := by decide +kernel
theorem dX6_init_82 : decode cX6_init 82 = .ok (.aload_n 0, 1) := by decide +kernel
theorem dX6_init_83 : decode cX6_init 83 = .ok (.new 44, 3) := by decide +kernel
theorem dX6_init_86 : decode cX6_init 86 = .ok (.dup, 1) := by decide +kernel
theorem dX6_init_87 : decode cX6_init 87 = .ok (.invokespecial 46, 3) := by decide +kernel
theorem dX6_init_90 : decode cX6_init 90 = .ok (.putfield 47, 3) := by decide +kernel
theorem dX6_init_93 : decode cX6_init 93 = .ok (.aload_n 0, 1) := by decide +kernel
theorem dX6_init_94 : decode cX6_init 94 = .ok (.new 51, 3) := by decide +kernel
theorem dX6_init_97 : decode cX6_init 97 = .ok (.dup, 1) := by decide +kernel
theorem dX6_init_98 : decode cX6_init 98 = .ok (.invokespecial 53, 3) := by decide +kernel
theorem dX6_init_101 : decode cX6_init 101 = .ok (.putfield 54, 3) := by decide +kernel
theorem dX6_init_104 : decode cX6_init 104 = .ok (.aload_n 0, 1) := by decide +kernel
theorem dX6_init_105 : decode cX6_init 105 = .ok (.new 58, 3) := by decide +kernel
theorem dX6_init_108 : decode cX6_init 108 = .ok (.dup, 1) := by decide +kernel
theorem dX6_init_109 : decode cX6_init 109 = .ok (.invokespecial 60, 3) := by decide +kernel
theorem dX6_init_112 : decode cX6_init 112 = .ok (.putfield 61, 3) := by decide +kernel
theorem dX6_init_115 : decode cX6_init 115 = .ok (.aload_n 0, 1) := by decide +kernel
theorem dX6_init_116 : decode cX6_init 116 = .ok (.new 65, 3) := by decide +kernel
theorem dX6_init_119 : decode cX6_init 119 = .ok (.dup, 1) := by decide +kernel
theorem dX6_init_120 : decode cX6_init 120 = .ok (.invokespecial 67, 3) := by decide +kernel
theorem dX6_init_123 : decode cX6_init 123 = .ok (.putfield 68, 3) := by decide +kernel
theorem dX6_init_126 : decode cX6_init 126 = .ok (.aload_n 0, 1) := by decide +kernel
theorem dX6_init_127 : decode cX6_init 127 = .ok (.sipush 250, 3) := by decide +kernel
theorem dX6_init_130 : decode cX6_init 130 = .ok (.newarray .byte, 2) := by decide +kernel
theorem dX6_init_132 : decode cX6_init 132 = .ok (.putfield 72, 3) := by decide +kernel
theorem dX6_init_135 : decode cX6_init 135 = .ok (.aload_n 0, 1) := by decide +kernel
theorem dX6_init_136 : decode cX6_init 136 = .ok (.iconst 0, 1) := by decide +kernel
theorem dX6_init_137 : decode cX6_init 137 = .ok (.putfield 76, 3) := by decide +kernel
theorem dX6_init_140 : decode cX6_init 140 = .ok (.aload_n 0, 1) := by decide +kernel
theorem dX6_init_141 : decode cX6_init 141 = .ok (.iconst 3, 1) := by decide +kernel
theorem dX6_init_142 : decode cX6_init 142 = .ok (.newarray .int, 2) := by decide +kernel
theorem dX6_init_144 : decode cX6_init 144 = .ok (.putfield 80, 3) := by decide +kernel
theorem dX6_init_147 : decode cX6_init 147 = .ok (.aload_n 0, 1) := by decide +kernel
theorem dX6_init_148 : decode cX6_init 148 = .ok (.iconst 0, 1) := by decide +kernel
theorem dX6_init_149 : decode cX6_init 149 = .ok (.putfield 83, 3) := by decide +kernel
theorem dX6_init_152 : decode cX6_init 152 = .ok (.aload_n 0, 1) := by decide +kernel
theorem dX6_init_153 : decode cX6_init 153 = .ok (.iconst 0, 1) := by decide +kernel
theorem dX6_init_154 : decode cX6_init 154 = .ok (.putfield 86, 3) := by decide +kernel
theorem dX6_init_157 : decode cX6_init 157 = .ok (.aload_n 0, 1) := by decide +kernel
theorem dX6_init_158 : decode cX6_init 158 = .ok (.iconst 0, 1) := by decide +kernel
theorem dX6_init_159 : decode cX6_init 159 = .ok (.putfield 89, 3) := by decide +kernel
theorem dX6_init_162 : decode cX6_init 162 = .ok (.iconst 0, 1) := by decide +kernel
theorem dX6_init_163 : decode cX6_init 163 = .ok (.istore_n 1, 1) := by decide +kernel
theorem dX6_init_164 : decode cX6_init 164 = .ok (.iload_n 1, 1) := by decide +kernel
theorem dX6_init_165 : decode cX6_init 165 = .ok (.iconst 2, 1) := by decide +kernel
theorem dX6_init_166 : decode cX6_init 166 = .ok (.if_icmp .ge 35, 3) := by decide +kernel
theorem dX6_init_169 : decode cX6_init 169 = .ok (.aload_n 0, 1) := by decide +kernel
theorem dX6_init_170 : decode cX6_init 170 = .ok (.getfield 23, 3) := by decide +kernel
theorem dX6_init_173 : decode cX6_init 173 = .ok (.iload_n 1, 1) := by decide +kernel
theorem dX6_init_174 : decode cX6_init 174 = .ok (.new 7, 3) := by decide +kernel
theorem dX6_init_177 : decode cX6_init 177 = .ok (.dup, 1) := by decide +kernel
theorem dX6_init_178 : decode cX6_init 178 = .ok (.invokespecial 9, 3) := by decide +kernel
theorem dX6_init_181 : decode cX6_init 181 = .ok (.aastore, 1) := by decide +kernel
theorem dX6_init_182 : decode cX6_init 182 = .ok (.aload_n 0, 1) := by decide +kernel
theorem dX6_init_183 : decode cX6_init 183 = .ok (.getfield 27, 3) := by decide +kernel
theorem dX6_init_186 : decode cX6_init 186 = .ok (.iload_n 1, 1) := by decide +kernel
theorem dX6_init_187 : decode cX6_init 187 = .ok (.new 16, 3) := by decide +kernel
theorem dX6_init_190 : decode cX6_init 190 = .ok (.dup, 1) := by decide +kernel
theorem dX6_init_191 : decode cX6_init 191 = .ok (.invokespecial 18, 3) := by decide +kernel
theorem dX6_init_194 : decode cX6_init 194 = .ok (.aastore, 1) := by decide +kernel
theorem dX6_init_195 : decode cX6_init 195 = .ok (.iinc 1 1, 3) := by decide +kernel
theorem dX6_init_198 : decode cX6_init 198 = .ok (.goto (-34), 3) := by decide +kernel
theorem dX6_init_201 : decode cX6_init 201 = .ok (.return_, 1) := by decide +kernel
theorem dX6_window_0 : decode cX6_window 0 = .ok (.iload_n 1, 1) := by decide +kernel
theorem dX6_window_1 : decode cX6_window 1 = .ok (.iload_n 2, 1) := by decide +kernel
theorem dX6_window_2 : decode cX6_window 2 = .ok (.invokestatic 92, 3) := by decide +kernel
theorem dX6_window_5 : decode cX6_window 5 = .ok (.ifCond .ne 10, 3) := by decide +kernel
theorem dX6_window_8 : decode cX6_window 8 = .ok (.aload_n 0, 1) := by decide +kernel
theorem dX6_window_9 : decode cX6_window 9 = .ok (.bipush (-2), 2) := by decide +kernel
theorem dX6_window_11 : decode cX6_window 11 = .ok (.invokevirtual 96, 3) := by decide +kernel
theorem dX6_window_14 : decode cX6_window 14 = .ok (.ireturn, 1) := by decide +kernel
theorem dX6_window_15 : decode cX6_window 15 = .ok (.aload_n 0, 1) := by decide +kernel
theorem dX6_window_16 : decode cX6_window 16 = .ok (.getfield 10, 3) := by decide +kernel
theorem dX6_window_19 : decode cX6_window 19 = .ok (.getfield 100, 3) := by decide +kernel
theorem dX6_window_22 : decode cX6_window 22 = .ok (.bipush 6, 2) := by decide +kernel
theorem dX6_window_24 : decode cX6_window 24 = .ok (.if_icmp .lt 8, 3) := by decide +kernel
theorem dX6_window_27 : decode cX6_window 27 = .ok (.aload_n 0, 1) := by decide +kernel
theorem dX6_window_28 : decode cX6_window 28 = .ok (.invokevirtual 103, 3) := by decide +kernel
theorem dX6_window_31 : decode cX6_window 31 = .ok (.ireturn, 1) := by decide +kernel
theorem dX6_window_32 : decode cX6_window 32 = .ok (.aload_n 0, 1) := by decide +kernel
theorem dX6_window_33 : decode cX6_window 33 = .ok (.getfield 10, 3) := by decide +kernel
theorem dX6_window_36 : decode cX6_window 36 = .ok (.iload_n 1, 1) := by decide +kernel
theorem dX6_window_37 : decode cX6_window 37 = .ok (.iload_n 2, 1) := by decide +kernel
theorem dX6_window_38 : decode cX6_window 38 = .ok (.invokevirtual 107, 3) := by decide +kernel
theorem dX6_window_41 : decode cX6_window 41 = .ok (.ireturn, 1) := by decide +kernel
theorem dX6_ear_0 : decode cX6_ear 0 = .ok (.iload_n 1, 1) := by decide +kernel
theorem dX6_ear_1 : decode cX6_ear 1 = .ok (.iload_n 2, 1) := by decide +kernel
theorem dX6_ear_2 : decode cX6_ear 2 = .ok (.invokestatic 92, 3) := by decide +kernel
theorem dX6_ear_5 : decode cX6_ear 5 = .ok (.ifCond .ne 10, 3) := by decide +kernel
theorem dX6_ear_8 : decode cX6_ear 8 = .ok (.aload_n 0, 1) := by decide +kernel
theorem dX6_ear_9 : decode cX6_ear 9 = .ok (.bipush (-2), 2) := by decide +kernel
theorem dX6_ear_11 : decode cX6_ear 11 = .ok (.invokevirtual 96, 3) := by decide +kernel
theorem dX6_ear_14 : decode cX6_ear 14 = .ok (.ireturn, 1) := by decide +kernel
theorem dX6_ear_15 : decode cX6_ear 15 = .ok (.aload_n 0, 1) := by decide +kernel
theorem dX6_ear_16 : decode cX6_ear 16 = .ok (.getfield 10, 3) := by decide +kernel
theorem dX6_ear_19 : decode cX6_ear 19 = .ok (.getfield 111, 3) := by decide +kernel
theorem dX6_ear_22 : decode cX6_ear 22 = .ok (.iconst 3, 1) := by decide +kernel
theorem dX6_ear_23 : decode cX6_ear 23 = .ok (.if_icmp .lt 8, 3) := by decide +kernel
theorem dX6_ear_26 : decode cX6_ear 26 = .ok (.aload_n 0, 1) := by decide +kernel
theorem dX6_ear_27 : decode cX6_ear 27 = .ok (.invokevirtual 103, 3) := by decide +kernel
theorem dX6_ear_30 : decode cX6_ear 30 = .ok (.ireturn, 1) := by decide +kernel
theorem dX6_ear_31 : decode cX6_ear 31 = .ok (.aload_n 0, 1) := by decide +kernel
theorem dX6_ear_32 : decode cX6_ear 32 = .ok (.getfield 10, 3) := by decide +kernel
theorem dX6_ear_35 : decode cX6_ear 35 = .ok (.iload_n 1, 1) := by decide +kernel
theorem dX6_ear_36 : decode cX6_ear 36 = .ok (.iload_n 2, 1) := by decide +kernel
theorem dX6_ear_37 : decode cX6_ear 37 = .ok (.invokevirtual 114, 3) := by decide +kernel
theorem dX6_ear_40 : decode cX6_ear 40 = .ok (.ireturn, 1) := by decide +kernel
theorem dX6_mill_0 : decode cX6_mill 0 = .ok (.iload_n 1, 1) := by decide +kernel
theorem dX6_mill_1 : decode cX6_mill 1 = .ok (.iload_n 2, 1) := by decide +kernel
theorem dX6_mill_2 : decode cX6_mill 2 = .ok (.invokestatic 92, 3) := by decide +kernel
theorem dX6_mill_5 : decode cX6_mill 5 = .ok (.ifCond .ne 10, 3) := by decide +kernel
theorem dX6_mill_8 : decode cX6_mill 8 = .ok (.aload_n 0, 1) := by decide +kernel
theorem dX6_mill_9 : decode cX6_mill 9 = .ok (.bipush (-2), 2) := by decide +kernel
theorem dX6_mill_11 : decode cX6_mill 11 = .ok (.invokevirtual 96, 3) := by decide +kernel
theorem dX6_mill_14 : decode cX6_mill 14 = .ok (.ireturn, 1) := by decide +kernel
theorem dX6_mill_15 : decode cX6_mill 15 = .ok (.aload_n 0, 1) := by decide +kernel
theorem dX6_mill_16 : decode cX6_mill 16 = .ok (.getfield 10, 3) := by decide +kernel
theorem dX6_mill_19 : decode cX6_mill 19 = .ok (.iload_n 1, 1) := by decide +kernel
theorem dX6_mill_20 : decode cX6_mill 20 = .ok (.iload_n 2, 1) := by decide +kernel
theorem dX6_mill_21 : decode cX6_mill 21 = .ok (.invokevirtual 117, 3) := by decide +kernel
theorem dX6_mill_24 : decode cX6_mill 24 = .ok (.iconst 1, 1) := by decide +kernel
theorem dX6_mill_25 : decode cX6_mill 25 = .ok (.ireturn, 1) := by decide +kernel
theorem dX6_put_0 : decode cX6_put 0 = .ok (.iload_n 1, 1) := by decide +kernel
theorem dX6_put_1 : decode cX6_put 1 = .ok (.ifCond .ne 32, 3) := by decide +kernel
theorem dX6_put_4 : decode cX6_put 4 = .ok (.iload_n 2, 1) := by decide +kernel
theorem dX6_put_5 : decode cX6_put 5 = .ok (.iconst 1, 1) := by decide +kernel
theorem dX6_put_6 : decode cX6_put 6 = .ok (.bipush 9, 2) := by decide +kernel
theorem dX6_put_8 : decode cX6_put 8 = .ok (.invokestatic 121, 3) := by decide +kernel
theorem dX6_put_11 : decode cX6_put 11 = .ok (.ifCond .eq 22, 3) := by decide +kernel
theorem dX6_put_14 : decode cX6_put 14 = .ok (.aload_n 0, 1) := by decide +kernel
theorem dX6_put_15 : decode cX6_put 15 = .ok (.getfield 10, 3) := by decide +kernel
theorem dX6_put_18 : decode cX6_put 18 = .ok (.getfield 125, 3) := by decide +kernel
theorem dX6_put_21 : decode cX6_put 21 = .ok (.istore_n 3, 1) := by decide +kernel
theorem dX6_put_22 : decode cX6_put 22 = .ok (.aload_n 0, 1) := by decide +kernel
theorem dX6_put_23 : decode cX6_put 23 = .ok (.getfield 10, 3) := by decide +kernel
theorem dX6_put_26 : decode cX6_put 26 = .ok (.iload_n 2, 1) := by decide +kernel
theorem dX6_put_27 : decode cX6_put 27 = .ok (.putfield 125, 3) := by decide +kernel
theorem dX6_put_30 : decode cX6_put 30 = .ok (.goto 113, 3) := by decide +kernel
theorem dX6_put_33 : decode cX6_put 33 = .ok (.iload_n 1, 1) := by decide +kernel
theorem dX6_put_34 : decode cX6_put 34 = .ok (.iconst 1, 1) := by decide +kernel
theorem dX6_put_35 : decode cX6_put 35 = .ok (.if_icmp .ne 32, 3) := by decide +kernel
theorem dX6_put_38 : decode cX6_put 38 = .ok (.iload_n 2, 1) := by decide +kernel
theorem dX6_put_39 : decode cX6_put 39 = .ok (.bipush (-2), 2) := by decide +kernel
theorem dX6_put_41 : decode cX6_put 41 = .ok (.iconst 2, 1) := by decide +kernel
theorem dX6_put_42 : decode cX6_put 42 = .ok (.invokestatic 121, 3) := by decide +kernel
theorem dX6_put_45 : decode cX6_put 45 = .ok (.ifCond .eq 22, 3) := by decide +kernel
theorem dX6_put_48 : decode cX6_put 48 = .ok (.aload_n 0, 1) := by decide +kernel
theorem dX6_put_49 : decode cX6_put 49 = .ok (.getfield 10, 3) := by decide +kernel
theorem dX6_put_52 : decode cX6_put 52 = .ok (.getfield 128, 3) := by decide +kernel
theorem dX6_put_55 : decode cX6_put 55 = .ok (.istore_n 3, 1) := by decide +kernel
theorem dX6_put_56 : decode cX6_put 56 = .ok (.aload_n 0, 1) := by decide +kernel
theorem dX6_put_57 : decode cX6_put 57 = .ok (.getfield 10, 3) := by decide +kernel
theorem dX6_put_60 : decode cX6_put 60 = .ok (.iload_n 2, 1) := by decide +kernel
theorem dX6_put_61 : decode cX6_put 61 = .ok (.putfield 128, 3) := by decide +kernel
theorem dX6_put_64 : decode cX6_put 64 = .ok (.goto 79, 3) := by decide +kernel
theorem dX6_put_67 : decode cX6_put 67 = .ok (.iload_n 1, 1) := by decide +kernel
theorem dX6_put_68 : decode cX6_put 68 = .ok (.iconst 2, 1) := by decide +kernel
theorem dX6_put_69 : decode cX6_put 69 = .ok (.if_icmp .ne 32, 3) := by decide +kernel
theorem dX6_put_72 : decode cX6_put 72 = .ok (.iload_n 2, 1) := by decide +kernel
theorem dX6_put_73 : decode cX6_put 73 = .ok (.bipush (-2), 2) := by decide +kernel
theorem dX6_put_75 : decode cX6_put 75 = .ok (.iconst 2, 1) := by decide +kernel
theorem dX6_put_76 : decode cX6_put 76 = .ok (.invokestatic 121, 3) := by decide +kernel
theorem dX6_put_79 : decode cX6_put 79 = .ok (.ifCond .eq 22, 3) := by decide +kernel
theorem dX6_put_82 : decode cX6_put 82 = .ok (.aload_n 0, 1) := by decide +kernel
theorem dX6_put_83 : decode cX6_put 83 = .ok (.getfield 10, 3) := by decide +kernel
theorem dX6_put_86 : decode cX6_put 86 = .ok (.getfield 131, 3) := by decide +kernel
theorem dX6_put_89 : decode cX6_put 89 = .ok (.istore_n 3, 1) := by decide +kernel
theorem dX6_put_90 : decode cX6_put 90 = .ok (.aload_n 0, 1) := by decide +kernel
theorem dX6_put_91 : decode cX6_put 91 = .ok (.getfield 10, 3) := by decide +kernel
theorem dX6_put_94 : decode cX6_put 94 = .ok (.iload_n 2, 1) := by decide +kernel
theorem dX6_put_95 : decode cX6_put 95 = .ok (.putfield 131, 3) := by decide +kernel
theorem dX6_put_98 : decode cX6_put 98 = .ok (.goto 45, 3) := by decide +kernel
theorem dX6_put_101 : decode cX6_put 101 = .ok (.iload_n 1, 1) := by decide +kernel
theorem dX6_put_102 : decode cX6_put 102 = .ok (.iconst 3, 1) := by decide +kernel
theorem dX6_put_103 : decode cX6_put 103 = .ok (.if_icmp .ne 33, 3) := by decide +kernel
theorem dX6_put_106 : decode cX6_put 106 = .ok (.iload_n 2, 1) := by decide +kernel
theorem dX6_put_107 : decode cX6_put 107 = .ok (.iconst 0, 1) := by decide +kernel
theorem dX6_put_108 : decode cX6_put 108 = .ok (.sipush 999, 3) := by decide +kernel
theorem dX6_put_111 : decode cX6_put 111 = .ok (.invokestatic 121, 3) := by decide +kernel
theorem dX6_put_114 : decode cX6_put 114 = .ok (.ifCond .eq 22, 3) := by decide +kernel
theorem dX6_put_117 : decode cX6_put 117 = .ok (.aload_n 0, 1) := by decide +kernel
theorem dX6_put_118 : decode cX6_put 118 = .ok (.getfield 19, 3) := by decide +kernel
theorem dX6_put_121 : decode cX6_put 121 = .ok (.getfield 134, 3) := by decide +kernel
theorem dX6_put_124 : decode cX6_put 124 = .ok (.istore_n 3, 1) := by decide +kernel
theorem dX6_put_125 : decode cX6_put 125 = .ok (.aload_n 0, 1) := by decide +kernel
theorem dX6_put_126 : decode cX6_put 126 = .ok (.getfield 19, 3) := by decide +kernel
theorem dX6_put_129 : decode cX6_put 129 = .ok (.iload_n 2, 1) := by decide +kernel
theorem dX6_put_130 : decode cX6_put 130 = .ok (.putfield 134, 3) := by decide +kernel
theorem dX6_put_133 : decode cX6_put 133 = .ok (.goto 10, 3) := by decide +kernel
theorem dX6_put_136 : decode cX6_put 136 = .ok (.aload_n 0, 1) := by decide +kernel
theorem dX6_put_137 : decode cX6_put 137 = .ok (.bipush (-10), 2) := by decide +kernel
theorem dX6_put_139 : decode cX6_put 139 = .ok (.invokevirtual 96, 3) := by decide +kernel
theorem dX6_put_142 : decode cX6_put 142 = .ok (.istore_n 3, 1) := by decide +kernel
theorem dX6_put_143 : decode cX6_put 143 = .ok (.iload_n 3, 1) := by decide +kernel
theorem dX6_put_144 : decode cX6_put 144 = .ok (.ireturn, 1) := by decide +kernel
theorem dX6_player_0 : decode cX6_player 0 = .ok (.iload_n 1, 1) := by decide +kernel
theorem dX6_player_1 : decode cX6_player 1 = .ok (.iconst 0, 1) := by decide +kernel
theorem dX6_player_2 : decode cX6_player 2 = .ok (.iconst 5, 1) := by decide +kernel
theorem dX6_player_3 : decode cX6_player 3 = .ok (.invokestatic 121, 3) := by decide +kernel
theorem dX6_player_6 : decode cX6_player 6 = .ok (.ifCond .eq 21, 3) := by decide +kernel
theorem dX6_player_9 : decode cX6_player 9 = .ok (.aload_n 0, 1) := by decide +kernel
theorem dX6_player_10 : decode cX6_player 10 = .ok (.iload_n 2, 1) := by decide +kernel
theorem dX6_player_11 : decode cX6_player 11 = .ok (.invokevirtual 137, 3) := by decide +kernel
theorem dX6_player_14 : decode cX6_player 14 = .ok (.ifCond .eq 13, 3) := by decide +kernel
theorem dX6_player_17 : decode cX6_player 17 = .ok (.iload_n 3, 1) := by decide +kernel
theorem dX6_player_18 : decode cX6_player 18 = .ok (.iconst 1, 1) := by decide +kernel
theorem dX6_player_19 : decode cX6_player 19 = .ok (.bipush 99, 2) := by decide +kernel
theorem dX6_player_21 : decode cX6_player 21 = .ok (.invokestatic 121, 3) := by decide +kernel
theorem dX6_player_24 : decode cX6_player 24 = .ok (.ifCond .ne 10, 3) := by decide +kernel
theorem dX6_player_27 : decode cX6_player 27 = .ok (.aload_n 0, 1) := by decide +kernel
theorem dX6_player_28 : decode cX6_player 28 = .ok (.bipush (-2), 2) := by decide +kernel
theorem dX6_player_30 : decode cX6_player 30 = .ok (.invokevirtual 96, 3) := by decide +kernel
theorem dX6_player_33 : decode cX6_player 33 = .ok (.ireturn, 1) := by decide +kernel
theorem dX6_player_34 : decode cX6_player 34 = .ok (.aload_n 0, 1) := by decide +kernel
theorem dX6_player_35 : decode cX6_player 35 = .ok (.getfield 19, 3) := by decide +kernel
theorem dX6_player_38 : decode cX6_player 38 = .ok (.iload_n 2, 1) := by decide +kernel
theorem dX6_player_39 : decode cX6_player 39 = .ok (.invokevirtual 141, 3) := by decide +kernel
theorem dX6_player_42 : decode cX6_player 42 = .ok (.ifCond .eq 10, 3) := by decide +kernel
theorem dX6_player_45 : decode cX6_player 45 = .ok (.aload_n 0, 1) := by decide +kernel
theorem dX6_player_46 : decode cX6_player 46 = .ok (.bipush (-2), 2) := by decide +kernel
theorem dX6_player_48 : decode cX6_player 48 = .ok (.invokevirtual 96, 3) := by decide +kernel
theorem dX6_player_51 : decode cX6_player 51 = .ok (.ireturn, 1) := by decide +kernel
theorem dX6_player_52 : decode cX6_player 52 = .ok (.aload_n 0, 1) := by decide +kernel
theorem dX6_player_53 : decode cX6_player 53 = .ok (.getfield 19, 3) := by decide +kernel
theorem dX6_player_56 : decode cX6_player 56 = .ok (.getfield 144, 3) := by decide +kernel
theorem dX6_player_59 : decode cX6_player 59 = .ok (.bipush 6, 2) := by decide +kernel
theorem dX6_player_61 : decode cX6_player 61 = .ok (.if_icmp .lt 8, 3) := by decide +kernel
theorem dX6_player_64 : decode cX6_player 64 = .ok (.aload_n 0, 1) := by decide +kernel
theorem dX6_player_65 : decode cX6_player 65 = .ok (.invokevirtual 103, 3) := by decide +kernel
theorem dX6_player_68 : decode cX6_player 68 = .ok (.ireturn, 1) := by decide +kernel
theorem dX6_player_69 : decode cX6_player 69 = .ok (.aload_n 0, 1) := by decide +kernel
theorem dX6_player_70 : decode cX6_player 70 = .ok (.getfield 19, 3) := by decide +kernel
theorem dX6_player_73 : decode cX6_player 73 = .ok (.iload_n 1, 1) := by decide +kernel
theorem dX6_player_74 : decode cX6_player 74 = .ok (.iload_n 2, 1) := by decide +kernel
theorem dX6_player_75 : decode cX6_player 75 = .ok (.iload_n 3, 1) := by decide +kernel
theorem dX6_player_76 : decode cX6_player 76 = .ok (.invokevirtual 147, 3) := by decide +kernel
theorem dX6_player_79 : decode cX6_player 79 = .ok (.ireturn, 1) := by decide +kernel
theorem dX6_offset_0 : decode cX6_offset 0 = .ok (.aload_n 0, 1) := by decide +kernel
theorem dX6_offset_1 : decode cX6_offset 1 = .ok (.iload_n 1, 1) := by decide +kernel
theorem dX6_offset_2 : decode cX6_offset 2 = .ok (.invokevirtual 151, 3) := by decide +kernel
theorem dX6_offset_5 : decode cX6_offset 5 = .ok (.ifCond .eq 16, 3) := by decide +kernel
theorem dX6_offset_8 : decode cX6_offset 8 = .ok (.iload_n 2, 1) := by decide +kernel
theorem dX6_offset_9 : decode cX6_offset 9 = .ok (.sipush (-500), 3) := by decide +kernel
theorem dX6_offset_12 : decode cX6_offset 12 = .ok (.sipush 500, 3) := by decide +kernel
theorem dX6_offset_15 : decode cX6_offset 15 = .ok (.invokestatic 121, 3) := by decide +kernel
theorem dX6_offset_18 : decode cX6_offset 18 = .ok (.ifCond .ne 11, 3) := by decide +kernel
theorem dX6_offset_21 : decode cX6_offset 21 = .ok (.aload_n 0, 1) := by decide +kernel
theorem dX6_offset_22 : decode cX6_offset 22 = .ok (.sipush (-1000), 3) := by decide +kernel
theorem dX6_offset_25 : decode cX6_offset 25 = .ok (.invokevirtual 96, 3) := by decide +kernel
theorem dX6_offset_28 : decode cX6_offset 28 = .ok (.ireturn, 1) := by decide +kernel
theorem dX6_offset_29 : decode cX6_offset 29 = .ok (.aload_n 0, 1) := by decide +kernel
theorem dX6_offset_30 : decode cX6_offset 30 = .ok (.getfield 19, 3) := by decide +kernel
theorem dX6_offset_33 : decode cX6_offset 33 = .ok (.getfield 154, 3) := by decide +kernel
theorem dX6_offset_36 : decode cX6_offset 36 = .ok (.iload_n 1, 1) := by decide +kernel
theorem dX6_offset_37 : decode cX6_offset 37 = .ok (.iaload, 1) := by decide +kernel
theorem dX6_offset_38 : decode cX6_offset 38 = .ok (.istore_n 3, 1) := by decide +kernel
theorem dX6_offset_39 : decode cX6_offset 39 = .ok (.aload_n 0, 1) := by decide +kernel
theorem dX6_offset_40 : decode cX6_offset 40 = .ok (.getfield 19, 3) := by decide +kernel
theorem dX6_offset_43 : decode cX6_offset 43 = .ok (.getfield 154, 3) := by decide +kernel
theorem dX6_offset_46 : decode cX6_offset 46 = .ok (.iload_n 1, 1) := by decide +kernel
theorem dX6_offset_47 : decode cX6_offset 47 = .ok (.iload_n 2, 1) := by decide +kernel
theorem dX6_offset_48 : decode cX6_offset 48 = .ok (.iastore, 1) := by decide +kernel
theorem dX6_offset_49 : decode cX6_offset 49 = .ok (.iload_n 3, 1) := by decide +kernel
theorem dX6_offset_50 : decode cX6_offset 50 = .ok (.ireturn, 1) := by decide +kernel
theorem dX6_late_0 : decode cX6_late 0 = .ok (.aload_n 0, 1) := by decide +kernel
theorem dX6_late_1 : decode cX6_late 1 = .ok (.iload_n 1, 1) := by decide +kernel
theorem dX6_late_2 : decode cX6_late 2 = .ok (.invokevirtual 151, 3) := by decide +kernel
theorem dX6_late_5 : decode cX6_late 5 = .ok (.ifCond .eq 12, 3) := by decide +kernel
theorem dX6_late_8 : decode cX6_late 8 = .ok (.iload_n 2, 1) := by decide +kernel
theorem dX6_late_9 : decode cX6_late 9 = .ok (.iconst 0, 1) := by decide +kernel
theorem dX6_late_10 : decode cX6_late 10 = .ok (.iconst 1, 1) := by decide +kernel
theorem dX6_late_11 : decode cX6_late 11 = .ok (.invokestatic 121, 3) := by decide +kernel
theorem dX6_late_14 : decode cX6_late 14 = .ok (.ifCond .ne 11, 3) := by decide +kernel
theorem dX6_late_17 : decode cX6_late 17 = .ok (.aload_n 0, 1) := by decide +kernel
theorem dX6_late_18 : decode cX6_late 18 = .ok (.sipush (-1000), 3) := by decide +kernel
theorem dX6_late_21 : decode cX6_late 21 = .ok (.invokevirtual 96, 3) := by decide +kernel
theorem dX6_late_24 : decode cX6_late 24 = .ok (.ireturn, 1) := by decide +kernel
theorem dX6_late_25 : decode cX6_late 25 = .ok (.iload_n 2, 1) := by decide +kernel
theorem dX6_late_26 : decode cX6_late 26 = .ok (.ifCond .ne 13, 3) := by decide +kernel
theorem dX6_late_29 : decode cX6_late 29 = .ok (.aload_n 0, 1) := by decide +kernel
theorem dX6_late_30 : decode cX6_late 30 = .ok (.getfield 19, 3) := by decide +kernel
theorem dX6_late_33 : decode cX6_late 33 = .ok (.getfield 154, 3) := by decide +kernel
theorem dX6_late_36 : decode cX6_late 36 = .ok (.iload_n 1, 1) := by decide +kernel
theorem dX6_late_37 : decode cX6_late 37 = .ok (.iaload, 1) := by decide +kernel
theorem dX6_late_38 : decode cX6_late 38 = .ok (.ireturn, 1) := by decide +kernel
theorem dX6_late_39 : decode cX6_late 39 = .ok (.aload_n 0, 1) := by decide +kernel
theorem dX6_late_40 : decode cX6_late 40 = .ok (.getfield 19, 3) := by decide +kernel
theorem dX6_late_43 : decode cX6_late 43 = .ok (.iload_n 1, 1) := by decide +kernel
theorem dX6_late_44 : decode cX6_late 44 = .ok (.invokevirtual 157, 3) := by decide +kernel
theorem dX6_late_47 : decode cX6_late 47 = .ok (.ireturn, 1) := by decide +kernel
theorem dX6_sound_0 : decode cX6_sound 0 = .ok (.aload_n 0, 1) := by decide +kernel
theorem dX6_sound_1 : decode cX6_sound 1 = .ok (.iload_n 1, 1) := by decide +kernel
theorem dX6_sound_2 : decode cX6_sound 2 = .ok (.invokevirtual 137, 3) := by decide +kernel
theorem dX6_sound_5 : decode cX6_sound 5 = .ok (.ifCond .eq 11, 3) := by decide +kernel
theorem dX6_sound_8 : decode cX6_sound 8 = .ok (.aload_n 0, 1) := by decide +kernel
theorem dX6_sound_9 : decode cX6_sound 9 = .ok (.iload_n 2, 1) := by decide +kernel
theorem dX6_sound_10 : decode cX6_sound 10 = .ok (.invokevirtual 160, 3) := by decide +kernel
theorem dX6_sound_13 : decode cX6_sound 13 = .ok (.ifCond .ne 10, 3) := by decide +kernel
theorem dX6_sound_16 : decode cX6_sound 16 = .ok (.aload_n 0, 1) := by decide +kernel
theorem dX6_sound_17 : decode cX6_sound 17 = .ok (.bipush (-2), 2) := by decide +kernel
theorem dX6_sound_19 : decode cX6_sound 19 = .ok (.invokevirtual 96, 3) := by decide +kernel
theorem dX6_sound_22 : decode cX6_sound 22 = .ok (.ireturn, 1) := by decide +kernel
theorem dX6_sound_23 : decode cX6_sound 23 = .ok (.aload_n 0, 1) := by decide +kernel
theorem dX6_sound_24 : decode cX6_sound 24 = .ok (.getfield 10, 3) := by decide +kernel
theorem dX6_sound_27 : decode cX6_sound 27 = .ok (.iload_n 1, 1) := by decide +kernel
theorem dX6_sound_28 : decode cX6_sound 28 = .ok (.iload_n 2, 1) := by decide +kernel
theorem dX6_sound_29 : decode cX6_sound 29 = .ok (.invokevirtual 163, 3) := by decide +kernel
theorem dX6_sound_32 : decode cX6_sound 32 = .ok (.ireturn, 1) := by decide +kernel
theorem dX6_type_0 : decode cX6_type 0 = .ok (.iload_n 3, 1) := by decide +kernel
theorem dX6_type_1 : decode cX6_type 1 = .ok (.iconst 1, 1) := by decide +kernel
theorem dX6_type_2 : decode cX6_type 2 = .ok (.bipush 8, 2) := by decide +kernel
theorem dX6_type_4 : decode cX6_type 4 = .ok (.invokestatic 121, 3) := by decide +kernel
theorem dX6_type_7 : decode cX6_type 7 = .ok (.ifCond .ne 10, 3) := by decide +kernel
theorem dX6_type_10 : decode cX6_type 10 = .ok (.aload_n 0, 1) := by decide +kernel
theorem dX6_type_11 : decode cX6_type 11 = .ok (.bipush (-2), 2) := by decide +kernel
theorem dX6_type_13 : decode cX6_type 13 = .ok (.invokevirtual 96, 3) := by decide +kernel
theorem dX6_type_16 : decode cX6_type 16 = .ok (.ireturn, 1) := by decide +kernel
theorem dX6_type_17 : decode cX6_type 17 = .ok (.aload_n 0, 1) := by decide +kernel
theorem dX6_type_18 : decode cX6_type 18 = .ok (.getfield 76, 3) := by decide +kernel
theorem dX6_type_21 : decode cX6_type 21 = .ok (.iload_n 3, 1) := by decide +kernel
theorem dX6_type_22 : decode cX6_type 22 = .ok (.iadd, 1) := by decide +kernel
theorem dX6_type_23 : decode cX6_type 23 = .ok (.sipush 250, 3) := by decide +kernel
theorem dX6_type_26 : decode cX6_type 26 = .ok (.if_icmp .le 8, 3) := by decide +kernel
theorem dX6_type_29 : decode cX6_type 29 = .ok (.aload_n 0, 1) := by decide +kernel
theorem dX6_type_30 : decode cX6_type 30 = .ok (.invokevirtual 103, 3) := by decide +kernel
theorem dX6_type_33 : decode cX6_type 33 = .ok (.ireturn, 1) := by decide +kernel
theorem dX6_type_34 : decode cX6_type 34 = .ok (.iload_n 3, 1) := by decide +kernel
theorem dX6_type_35 : decode cX6_type 35 = .ok (.iconst 1, 1) := by decide +kernel
theorem dX6_type_36 : decode cX6_type 36 = .ok (.isub, 1) := by decide +kernel
theorem dX6_type_37 : decode cX6_type 37 = .ok (.istore 4, 2) := by decide +kernel
theorem dX6_type_39 : decode cX6_type 39 = .ok (.iload 4, 2) := by decide +kernel
theorem dX6_type_41 : decode cX6_type 41 = .ok (.ifCond .lt 37, 3) := by decide +kernel
theorem dX6_type_44 : decode cX6_type 44 = .ok (.aload_n 0, 1) := by decide +kernel
theorem dX6_type_45 : decode cX6_type 45 = .ok (.getfield 72, 3) := by decide +kernel
theorem dX6_type_48 : decode cX6_type 48 = .ok (.aload_n 0, 1) := by decide +kernel
theorem dX6_type_49 : decode cX6_type 49 = .ok (.getfield 76, 3) := by decide +kernel
theorem dX6_type_52 : decode cX6_type 52 = .ok (.lload_n 1, 1) := by decide +kernel
theorem dX6_type_53 : decode cX6_type 53 = .ok (.bipush 8, 2) := by decide +kernel
theorem dX6_type_55 : decode cX6_type 55 = .ok (.iload 4, 2) := by decide +kernel
theorem dX6_type_57 : decode cX6_type 57 = .ok (.imul, 1) := by decide +kernel
theorem dX6_type_58 : decode cX6_type 58 = .ok (.lushr, 1) := by decide +kernel
theorem dX6_type_59 : decode cX6_type 59 = .ok (.l2i, 1) := by decide +kernel
theorem dX6_type_60 : decode cX6_type 60 = .ok (.i2b, 1) := by decide +kernel
theorem dX6_type_61 : decode cX6_type 61 = .ok (.bastore, 1) := by decide +kernel
theorem dX6_type_62 : decode cX6_type 62 = .ok (.aload_n 0, 1) := by decide +kernel
theorem dX6_type_63 : decode cX6_type 63 = .ok (.dup, 1) := by decide +kernel
theorem dX6_type_64 : decode cX6_type 64 = .ok (.getfield 76, 3) := by decide +kernel
theorem dX6_type_67 : decode cX6_type 67 = .ok (.iconst 1, 1) := by decide +kernel
theorem dX6_type_68 : decode cX6_type 68 = .ok (.iadd, 1) := by decide +kernel
theorem dX6_type_69 : decode cX6_type 69 = .ok (.putfield 76, 3) := by decide +kernel
theorem dX6_type_72 : decode cX6_type 72 = .ok (.iinc 4 (-1), 3) := by decide +kernel
theorem dX6_type_75 : decode cX6_type 75 = .ok (.goto (-36), 3) := by decide +kernel
theorem dX6_type_78 : decode cX6_type 78 = .ok (.aload_n 0, 1) := by decide +kernel
theorem dX6_type_79 : decode cX6_type 79 = .ok (.getfield 76, 3) := by decide +kernel
theorem dX6_type_82 : decode cX6_type 82 = .ok (.ireturn, 1) := by decide +kernel
theorem dX6_clear_0 : decode cX6_clear 0 = .ok (.aload_n 0, 1) := by decide +kernel
theorem dX6_clear_1 : decode cX6_clear 1 = .ok (.getfield 76, 3) := by decide +kernel
theorem dX6_clear_4 : decode cX6_clear 4 = .ok (.istore_n 1, 1) := by decide +kernel
theorem dX6_clear_5 : decode cX6_clear 5 = .ok (.aload_n 0, 1) := by decide +kernel
theorem dX6_clear_6 : decode cX6_clear 6 = .ok (.iconst 0, 1) := by decide +kernel
theorem dX6_clear_7 : decode cX6_clear 7 = .ok (.putfield 76, 3) := by decide +kernel
theorem dX6_clear_10 : decode cX6_clear 10 = .ok (.iload_n 1, 1) := by decide +kernel
theorem dX6_clear_11 : decode cX6_clear 11 = .ok (.ireturn, 1) := by decide +kernel
theorem dX6_read_0 : decode cX6_read 0 = .ok (.aload_n 0, 1) := by decide +kernel
theorem dX6_read_1 : decode cX6_read 1 = .ok (.getfield 35, 3) := by decide +kernel
theorem dX6_read_4 : decode cX6_read 4 = .ok (.aload_n 0, 1) := by decide +kernel
theorem dX6_read_5 : decode cX6_read 5 = .ok (.getfield 10, 3) := by decide +kernel
theorem dX6_read_8 : decode cX6_read 8 = .ok (.invokevirtual 166, 3) := by decide +kernel
theorem dX6_read_11 : decode cX6_read 11 = .ok (.aload_n 0, 1) := by decide +kernel
theorem dX6_read_12 : decode cX6_read 12 = .ok (.getfield 35, 3) := by decide +kernel
theorem dX6_read_15 : decode cX6_read 15 = .ok (.invokevirtual 170, 3) := by decide +kernel
theorem dX6_read_18 : decode cX6_read 18 = .ok (.aload_n 0, 1) := by decide +kernel
theorem dX6_read_19 : decode cX6_read 19 = .ok (.getfield 38, 3) := by decide +kernel
theorem dX6_read_22 : decode cX6_read 22 = .ok (.invokevirtual 173, 3) := by decide +kernel
theorem dX6_read_25 : decode cX6_read 25 = .ok (.aload_n 0, 1) := by decide +kernel
theorem dX6_read_26 : decode cX6_read 26 = .ok (.getfield 68, 3) := by decide +kernel
theorem dX6_read_29 : decode cX6_read 29 = .ok (.aload_n 0, 1) := by decide +kernel
theorem dX6_read_30 : decode cX6_read 30 = .ok (.getfield 72, 3) := by decide +kernel
theorem dX6_read_33 : decode cX6_read 33 = .ok (.aload_n 0, 1) := by decide +kernel
theorem dX6_read_34 : decode cX6_read 34 = .ok (.getfield 76, 3) := by decide +kernel
theorem dX6_read_37 : decode cX6_read 37 = .ok (.aload_n 0, 1) := by decide +kernel
theorem dX6_read_38 : decode cX6_read 38 = .ok (.getfield 35, 3) := by decide +kernel
theorem dX6_read_41 : decode cX6_read 41 = .ok (.aload_n 0, 1) := by decide +kernel
theorem dX6_read_42 : decode cX6_read 42 = .ok (.getfield 38, 3) := by decide +kernel
theorem dX6_read_45 : decode cX6_read 45 = .ok (.invokevirtual 174, 3) := by decide +kernel
theorem dX6_read_48 : decode cX6_read 48 = .ok (.istore_n 1, 1) := by decide +kernel
theorem dX6_read_49 : decode cX6_read 49 = .ok (.iload_n 1, 1) := by decide +kernel
theorem dX6_read_50 : decode cX6_read 50 = .ok (.ifCond .ge 14, 3) := by decide +kernel
theorem dX6_read_53 : decode cX6_read 53 = .ok (.bipush (-10), 2) := by decide +kernel
theorem dX6_read_55 : decode cX6_read 55 = .ok (.aload_n 0, 1) := by decide +kernel
theorem dX6_read_56 : decode cX6_read 56 = .ok (.getfield 68, 3) := by decide +kernel
theorem dX6_read_59 : decode cX6_read 59 = .ok (.getfield 178, 3) := by decide +kernel
theorem dX6_read_62 : decode cX6_read 62 = .ok (.isub, 1) := by decide +kernel
theorem dX6_read_63 : decode cX6_read 63 = .ok (.ireturn, 1) := by decide +kernel
theorem dX6_read_64 : decode cX6_read 64 = .ok (.aload_n 0, 1) := by decide +kernel
theorem dX6_read_65 : decode cX6_read 65 = .ok (.getfield 10, 3) := by decide +kernel
theorem dX6_read_68 : decode cX6_read 68 = .ok (.aload_n 0, 1) := by decide +kernel
theorem dX6_read_69 : decode cX6_read 69 = .ok (.getfield 35, 3) := by decide +kernel
theorem dX6_read_72 : decode cX6_read 72 = .ok (.invokevirtual 166, 3) := by decide +kernel
theorem dX6_read_75 : decode cX6_read 75 = .ok (.aload_n 0, 1) := by decide +kernel
theorem dX6_read_76 : decode cX6_read 76 = .ok (.getfield 19, 3) := by decide +kernel
theorem dX6_read_79 : decode cX6_read 79 = .ok (.aload_n 0, 1) := by decide +kernel
theorem dX6_read_80 : decode cX6_read 80 = .ok (.getfield 38, 3) := by decide +kernel
theorem dX6_read_83 : decode cX6_read 83 = .ok (.invokevirtual 181, 3) := by decide +kernel
theorem dX6_read_86 : decode cX6_read 86 = .ok (.iload_n 1, 1) := by decide +kernel
theorem dX6_read_87 : decode cX6_read 87 = .ok (.ireturn, 1) := by decide +kernel
theorem dX6_heard_0 : decode cX6_heard 0 = .ok (.aload_n 0, 1) := by decide +kernel
theorem dX6_heard_1 : decode cX6_heard 1 = .ok (.iload_n 1, 1) := by decide +kernel
theorem dX6_heard_2 : decode cX6_heard 2 = .ok (.invokevirtual 160, 3) := by decide +kernel
theorem dX6_heard_5 : decode cX6_heard 5 = .ok (.ifCond .eq 15, 3) := by decide +kernel
theorem dX6_heard_8 : decode cX6_heard 8 = .ok (.iload_n 2, 1) := by decide +kernel
theorem dX6_heard_9 : decode cX6_heard 9 = .ok (.invokestatic 184, 3) := by decide +kernel
theorem dX6_heard_12 : decode cX6_heard 12 = .ok (.ifCond .eq 8, 3) := by decide +kernel
theorem dX6_heard_15 : decode cX6_heard 15 = .ok (.iload_n 3, 1) := by decide +kernel
theorem dX6_heard_16 : decode cX6_heard 16 = .ok (.iconst (-1), 1) := by decide +kernel
theorem dX6_heard_17 : decode cX6_heard 17 = .ok (.if_icmp .ge 10, 3) := by decide +kernel
theorem dX6_heard_20 : decode cX6_heard 20 = .ok (.aload_n 0, 1) := by decide +kernel
theorem dX6_heard_21 : decode cX6_heard 21 = .ok (.ldc 187, 2) := by decide +kernel
theorem dX6_heard_23 : decode cX6_heard 23 = .ok (.invokevirtual 96, 3) := by decide +kernel
theorem dX6_heard_26 : decode cX6_heard 26 = .ok (.ireturn, 1) := by decide +kernel
theorem dX6_heard_27 : decode cX6_heard 27 = .ok (.aload_n 0, 1) := by decide +kernel
theorem dX6_heard_28 : decode cX6_heard 28 = .ok (.getfield 47, 3) := by decide +kernel
theorem dX6_heard_31 : decode cX6_heard 31 = .ok (.aload_n 0, 1) := by decide +kernel
theorem dX6_heard_32 : decode cX6_heard 32 = .ok (.getfield 10, 3) := by decide +kernel
theorem dX6_heard_35 : decode cX6_heard 35 = .ok (.aload_n 0, 1) := by decide +kernel
theorem dX6_heard_36 : decode cX6_heard 36 = .ok (.getfield 19, 3) := by decide +kernel
theorem dX6_heard_39 : decode cX6_heard 39 = .ok (.iload_n 1, 1) := by decide +kernel
theorem dX6_heard_40 : decode cX6_heard 40 = .ok (.invokevirtual 188, 3) := by decide +kernel
theorem dX6_heard_43 : decode cX6_heard 43 = .ok (.iload_n 3, 1) := by decide +kernel
theorem dX6_heard_44 : decode cX6_heard 44 = .ok (.iconst (-1), 1) := by decide +kernel
theorem dX6_heard_45 : decode cX6_heard 45 = .ok (.if_icmp .ne 11, 3) := by decide +kernel
theorem dX6_heard_48 : decode cX6_heard 48 = .ok (.aload_n 0, 1) := by decide +kernel
theorem dX6_heard_49 : decode cX6_heard 49 = .ok (.getfield 47, 3) := by decide +kernel
theorem dX6_heard_52 : decode cX6_heard 52 = .ok (.getfield 192, 3) := by decide +kernel
theorem dX6_heard_55 : decode cX6_heard 55 = .ok (.ireturn, 1) := by decide +kernel
theorem dX6_heard_56 : decode cX6_heard 56 = .ok (.iload_n 3, 1) := by decide +kernel
theorem dX6_heard_57 : decode cX6_heard 57 = .ok (.aload_n 0, 1) := by decide +kernel
theorem dX6_heard_58 : decode cX6_heard 58 = .ok (.getfield 47, 3) := by decide +kernel
theorem dX6_heard_61 : decode cX6_heard 61 = .ok (.getfield 192, 3) := by decide +kernel
theorem dX6_heard_64 : decode cX6_heard 64 = .ok (.if_icmp .lt 6, 3) := by decide +kernel
theorem dX6_heard_67 : decode cX6_heard 67 = .ok (.ldc 195, 2) := by decide +kernel
theorem dX6_heard_69 : decode cX6_heard 69 = .ok (.ireturn, 1) := by decide +kernel
theorem dX6_heard_70 : decode cX6_heard 70 = .ok (.iload_n 2, 1) := by decide +kernel
theorem dX6_heard_71 : decode cX6_heard 71 = .ok (.aload_n 0, 1) := by decide +kernel
theorem dX6_heard_72 : decode cX6_heard 72 = .ok (.getfield 47, 3) := by decide +kernel
theorem dX6_heard_75 : decode cX6_heard 75 = .ok (.aload_n 0, 1) := by decide +kernel
theorem dX6_heard_76 : decode cX6_heard 76 = .ok (.getfield 19, 3) := by decide +kernel
theorem dX6_heard_79 : decode cX6_heard 79 = .ok (.iload_n 3, 1) := by decide +kernel
theorem dX6_heard_80 : decode cX6_heard 80 = .ok (.invokevirtual 196, 3) := by decide +kernel
theorem dX6_heard_83 : decode cX6_heard 83 = .ok (.iadd, 1) := by decide +kernel
theorem dX6_heard_84 : decode cX6_heard 84 = .ok (.ireturn, 1) := by decide +kernel
theorem dX6_loud_0 : decode cX6_loud 0 = .ok (.aload_n 0, 1) := by decide +kernel
theorem dX6_loud_1 : decode cX6_loud 1 = .ok (.iload_n 1, 1) := by decide +kernel
theorem dX6_loud_2 : decode cX6_loud 2 = .ok (.invokevirtual 160, 3) := by decide +kernel
theorem dX6_loud_5 : decode cX6_loud 5 = .ok (.ifCond .eq 7, 3) := by decide +kernel
theorem dX6_loud_8 : decode cX6_loud 8 = .ok (.iload_n 2, 1) := by decide +kernel
theorem dX6_loud_9 : decode cX6_loud 9 = .ok (.ifCond .ge 10, 3) := by decide +kernel
theorem dX6_loud_12 : decode cX6_loud 12 = .ok (.aload_n 0, 1) := by decide +kernel
theorem dX6_loud_13 : decode cX6_loud 13 = .ok (.bipush (-10), 2) := by decide +kernel
theorem dX6_loud_15 : decode cX6_loud 15 = .ok (.invokevirtual 96, 3) := by decide +kernel
theorem dX6_loud_18 : decode cX6_loud 18 = .ok (.ireturn, 1) := by decide +kernel
theorem dX6_loud_19 : decode cX6_loud 19 = .ok (.aload_n 0, 1) := by decide +kernel
theorem dX6_loud_20 : decode cX6_loud 20 = .ok (.getfield 47, 3) := by decide +kernel
theorem dX6_loud_23 : decode cX6_loud 23 = .ok (.aload_n 0, 1) := by decide +kernel
theorem dX6_loud_24 : decode cX6_loud 24 = .ok (.getfield 10, 3) := by decide +kernel
theorem dX6_loud_27 : decode cX6_loud 27 = .ok (.aload_n 0, 1) := by decide +kernel
theorem dX6_loud_28 : decode cX6_loud 28 = .ok (.getfield 19, 3) := by decide +kernel
theorem dX6_loud_31 : decode cX6_loud 31 = .ok (.iload_n 1, 1) := by decide +kernel
theorem dX6_loud_32 : decode cX6_loud 32 = .ok (.invokevirtual 188, 3) := by decide +kernel
theorem dX6_loud_35 : decode cX6_loud 35 = .ok (.iload_n 2, 1) := by decide +kernel
theorem dX6_loud_36 : decode cX6_loud 36 = .ok (.aload_n 0, 1) := by decide +kernel
theorem dX6_loud_37 : decode cX6_loud 37 = .ok (.getfield 47, 3) := by decide +kernel
theorem dX6_loud_40 : decode cX6_loud 40 = .ok (.getfield 192, 3) := by decide +kernel
theorem dX6_loud_43 : decode cX6_loud 43 = .ok (.if_icmp .lt 6, 3) := by decide +kernel
theorem dX6_loud_46 : decode cX6_loud 46 = .ok (.bipush (-5), 2) := by decide +kernel
theorem dX6_loud_48 : decode cX6_loud 48 = .ok (.ireturn, 1) := by decide +kernel
theorem dX6_loud_49 : decode cX6_loud 49 = .ok (.aload_n 0, 1) := by decide +kernel
theorem dX6_loud_50 : decode cX6_loud 50 = .ok (.getfield 47, 3) := by decide +kernel
theorem dX6_loud_53 : decode cX6_loud 53 = .ok (.getfield 200, 3) := by decide +kernel
theorem dX6_loud_56 : decode cX6_loud 56 = .ok (.iload_n 2, 1) := by decide +kernel
theorem dX6_loud_57 : decode cX6_loud 57 = .ok (.iaload, 1) := by decide +kernel
theorem dX6_loud_58 : decode cX6_loud 58 = .ok (.ireturn, 1) := by decide +kernel
theorem dX6_spread_0 : decode cX6_spread 0 = .ok (.aload_n 0, 1) := by decide +kernel
theorem dX6_spread_1 : decode cX6_spread 1 = .ok (.iload_n 1, 1) := by decide +kernel
theorem dX6_spread_2 : decode cX6_spread 2 = .ok (.invokevirtual 160, 3) := by decide +kernel
theorem dX6_spread_5 : decode cX6_spread 5 = .ok (.ifCond .ne 10, 3) := by decide +kernel
theorem dX6_spread_8 : decode cX6_spread 8 = .ok (.aload_n 0, 1) := by decide +kernel
theorem dX6_spread_9 : decode cX6_spread 9 = .ok (.bipush (-2), 2) := by decide +kernel
theorem dX6_spread_11 : decode cX6_spread 11 = .ok (.invokevirtual 96, 3) := by decide +kernel
theorem dX6_spread_14 : decode cX6_spread 14 = .ok (.ireturn, 1) := by decide +kernel
theorem dX6_spread_15 : decode cX6_spread 15 = .ok (.aload_n 0, 1) := by decide +kernel
theorem dX6_spread_16 : decode cX6_spread 16 = .ok (.getfield 47, 3) := by decide +kernel
theorem dX6_spread_19 : decode cX6_spread 19 = .ok (.aload_n 0, 1) := by decide +kernel
theorem dX6_spread_20 : decode cX6_spread 20 = .ok (.getfield 10, 3) := by decide +kernel
theorem dX6_spread_23 : decode cX6_spread 23 = .ok (.aload_n 0, 1) := by decide +kernel
theorem dX6_spread_24 : decode cX6_spread 24 = .ok (.getfield 19, 3) := by decide +kernel
theorem dX6_spread_27 : decode cX6_spread 27 = .ok (.iload_n 1, 1) := by decide +kernel
theorem dX6_spread_28 : decode cX6_spread 28 = .ok (.invokevirtual 203, 3) := by decide +kernel
theorem dX6_spread_31 : decode cX6_spread 31 = .ok (.ireturn, 1) := by decide +kernel
theorem dX6_together_0 : decode cX6_together 0 = .ok (.iload_n 1, 1) := by decide +kernel
theorem dX6_together_1 : decode cX6_together 1 = .ok (.iconst 0, 1) := by decide +kernel
theorem dX6_together_2 : decode cX6_together 2 = .ok (.sipush 999, 3) := by decide +kernel
theorem dX6_together_5 : decode cX6_together 5 = .ok (.invokestatic 121, 3) := by decide +kernel
theorem dX6_together_8 : decode cX6_together 8 = .ok (.ifCond .ne 10, 3) := by decide +kernel
theorem dX6_together_11 : decode cX6_together 11 = .ok (.aload_n 0, 1) := by decide +kernel
theorem dX6_together_12 : decode cX6_together 12 = .ok (.bipush (-2), 2) := by decide +kernel
theorem dX6_together_14 : decode cX6_together 14 = .ok (.invokevirtual 96, 3) := by decide +kernel
theorem dX6_together_17 : decode cX6_together 17 = .ok (.ireturn, 1) := by decide +kernel
theorem dX6_together_18 : decode cX6_together 18 = .ok (.aload_n 0, 1) := by decide +kernel
theorem dX6_together_19 : decode cX6_together 19 = .ok (.iload_n 1, 1) := by decide +kernel
theorem dX6_together_20 : decode cX6_together 20 = .ok (.invokevirtual 207, 3) := by decide +kernel
theorem dX6_together_23 : decode cX6_together 23 = .ok (.ifCond .eq 7, 3) := by decide +kernel
theorem dX6_together_26 : decode cX6_together 26 = .ok (.iconst 1, 1) := by decide +kernel
theorem dX6_together_27 : decode cX6_together 27 = .ok (.goto 4, 3) := by decide +kernel
theorem dX6_together_30 : decode cX6_together 30 = .ok (.iconst 0, 1) := by decide +kernel
theorem dX6_together_31 : decode cX6_together 31 = .ok (.ireturn, 1) := by decide +kernel
theorem dX6_tuned_0 : decode cX6_tuned 0 = .ok (.iload_n 1, 1) := by decide +kernel
theorem dX6_tuned_1 : decode cX6_tuned 1 = .ok (.iconst 0, 1) := by decide +kernel
theorem dX6_tuned_2 : decode cX6_tuned 2 = .ok (.sipush 999, 3) := by decide +kernel
theorem dX6_tuned_5 : decode cX6_tuned 5 = .ok (.invokestatic 121, 3) := by decide +kernel
theorem dX6_tuned_8 : decode cX6_tuned 8 = .ok (.ifCond .ne 11, 3) := by decide +kernel
theorem dX6_tuned_11 : decode cX6_tuned 11 = .ok (.aload_n 0, 1) := by decide +kernel
theorem dX6_tuned_12 : decode cX6_tuned 12 = .ok (.sipush (-2000), 3) := by decide +kernel
theorem dX6_tuned_15 : decode cX6_tuned 15 = .ok (.invokevirtual 96, 3) := by decide +kernel
theorem dX6_tuned_18 : decode cX6_tuned 18 = .ok (.ireturn, 1) := by decide +kernel
theorem dX6_tuned_19 : decode cX6_tuned 19 = .ok (.iload_n 2, 1) := by decide +kernel
theorem dX6_tuned_20 : decode cX6_tuned 20 = .ok (.iconst (-1), 1) := by decide +kernel
theorem dX6_tuned_21 : decode cX6_tuned 21 = .ok (.if_icmp .eq 19, 3) := by decide +kernel
theorem dX6_tuned_24 : decode cX6_tuned 24 = .ok (.aload_n 0, 1) := by decide +kernel
theorem dX6_tuned_25 : decode cX6_tuned 25 = .ok (.iload_n 2, 1) := by decide +kernel
theorem dX6_tuned_26 : decode cX6_tuned 26 = .ok (.invokevirtual 151, 3) := by decide +kernel
theorem dX6_tuned_29 : decode cX6_tuned 29 = .ok (.ifCond .ne 11, 3) := by decide +kernel
theorem dX6_tuned_32 : decode cX6_tuned 32 = .ok (.aload_n 0, 1) := by decide +kernel
theorem dX6_tuned_33 : decode cX6_tuned 33 = .ok (.sipush (-2000), 3) := by decide +kernel
theorem dX6_tuned_36 : decode cX6_tuned 36 = .ok (.invokevirtual 96, 3) := by decide +kernel
theorem dX6_tuned_39 : decode cX6_tuned 39 = .ok (.ireturn, 1) := by decide +kernel
theorem dX6_tuned_40 : decode cX6_tuned 40 = .ok (.aload_n 0, 1) := by decide +kernel
theorem dX6_tuned_41 : decode cX6_tuned 41 = .ok (.getfield 54, 3) := by decide +kernel
theorem dX6_tuned_44 : decode cX6_tuned 44 = .ok (.aload_n 0, 1) := by decide +kernel
theorem dX6_tuned_45 : decode cX6_tuned 45 = .ok (.getfield 10, 3) := by decide +kernel
theorem dX6_tuned_48 : decode cX6_tuned 48 = .ok (.aload_n 0, 1) := by decide +kernel
theorem dX6_tuned_49 : decode cX6_tuned 49 = .ok (.getfield 19, 3) := by decide +kernel
theorem dX6_tuned_52 : decode cX6_tuned 52 = .ok (.aload_n 0, 1) := by decide +kernel
theorem dX6_tuned_53 : decode cX6_tuned 53 = .ok (.getfield 47, 3) := by decide +kernel
theorem dX6_tuned_56 : decode cX6_tuned 56 = .ok (.iload_n 1, 1) := by decide +kernel
theorem dX6_tuned_57 : decode cX6_tuned 57 = .ok (.invokevirtual 210, 3) := by decide +kernel
theorem dX6_tuned_60 : decode cX6_tuned 60 = .ok (.aload_n 0, 1) := by decide +kernel
theorem dX6_tuned_61 : decode cX6_tuned 61 = .ok (.getfield 54, 3) := by decide +kernel
theorem dX6_tuned_64 : decode cX6_tuned 64 = .ok (.aload_n 0, 1) := by decide +kernel
theorem dX6_tuned_65 : decode cX6_tuned 65 = .ok (.getfield 19, 3) := by decide +kernel
theorem dX6_tuned_68 : decode cX6_tuned 68 = .ok (.aload_n 0, 1) := by decide +kernel
theorem dX6_tuned_69 : decode cX6_tuned 69 = .ok (.invokevirtual 214, 3) := by decide +kernel
theorem dX6_tuned_72 : decode cX6_tuned 72 = .ok (.invokevirtual 217, 3) := by decide +kernel
theorem dX6_tuned_75 : decode cX6_tuned 75 = .ok (.istore_n 3, 1) := by decide +kernel
theorem dX6_tuned_76 : decode cX6_tuned 76 = .ok (.iload_n 2, 1) := by decide +kernel
theorem dX6_tuned_77 : decode cX6_tuned 77 = .ok (.iconst (-1), 1) := by decide +kernel
theorem dX6_tuned_78 : decode cX6_tuned 78 = .ok (.if_icmp .ne 13, 3) := by decide +kernel
theorem dX6_tuned_81 : decode cX6_tuned 81 = .ok (.iload_n 3, 1) := by decide +kernel
theorem dX6_tuned_82 : decode cX6_tuned 82 = .ok (.ifCond .eq 7, 3) := by decide +kernel
theorem dX6_tuned_85 : decode cX6_tuned 85 = .ok (.iconst 1, 1) := by decide +kernel
theorem dX6_tuned_86 : decode cX6_tuned 86 = .ok (.goto 4, 3) := by decide +kernel
theorem dX6_tuned_89 : decode cX6_tuned 89 = .ok (.iconst 0, 1) := by decide +kernel
theorem dX6_tuned_90 : decode cX6_tuned 90 = .ok (.ireturn, 1) := by decide +kernel
theorem dX6_tuned_91 : decode cX6_tuned 91 = .ok (.iload_n 3, 1) := by decide +kernel
theorem dX6_tuned_92 : decode cX6_tuned 92 = .ok (.ifCond .eq 18, 3) := by decide +kernel
theorem dX6_tuned_95 : decode cX6_tuned 95 = .ok (.aload_n 0, 1) := by decide +kernel
theorem dX6_tuned_96 : decode cX6_tuned 96 = .ok (.getfield 54, 3) := by decide +kernel
theorem dX6_tuned_99 : decode cX6_tuned 99 = .ok (.aload_n 0, 1) := by decide +kernel
theorem dX6_tuned_100 : decode cX6_tuned 100 = .ok (.getfield 19, 3) := by decide +kernel
theorem dX6_tuned_103 : decode cX6_tuned 103 = .ok (.iload_n 2, 1) := by decide +kernel
theorem dX6_tuned_104 : decode cX6_tuned 104 = .ok (.invokevirtual 221, 3) := by decide +kernel
theorem dX6_tuned_107 : decode cX6_tuned 107 = .ok (.goto 6, 3) := by decide +kernel
theorem dX6_tuned_110 : decode cX6_tuned 110 = .ok (.sipush (-1000), 3) := by decide +kernel
theorem dX6_tuned_113 : decode cX6_tuned 113 = .ok (.ireturn, 1) := by decide +kernel
theorem dX6_clash_0 : decode cX6_clash 0 = .ok (.iload_n 1, 1) := by decide +kernel
theorem dX6_clash_1 : decode cX6_clash 1 = .ok (.iconst 0, 1) := by decide +kernel
theorem dX6_clash_2 : decode cX6_clash 2 = .ok (.sipush 999, 3) := by decide +kernel
theorem dX6_clash_5 : decode cX6_clash 5 = .ok (.invokestatic 121, 3) := by decide +kernel
theorem dX6_clash_8 : decode cX6_clash 8 = .ok (.ifCond .ne 10, 3) := by decide +kernel
theorem dX6_clash_11 : decode cX6_clash 11 = .ok (.aload_n 0, 1) := by decide +kernel
theorem dX6_clash_12 : decode cX6_clash 12 = .ok (.bipush (-2), 2) := by decide +kernel
theorem dX6_clash_14 : decode cX6_clash 14 = .ok (.invokevirtual 96, 3) := by decide +kernel
theorem dX6_clash_17 : decode cX6_clash 17 = .ok (.ireturn, 1) := by decide +kernel
theorem dX6_clash_18 : decode cX6_clash 18 = .ok (.aload_n 0, 1) := by decide +kernel
theorem dX6_clash_19 : decode cX6_clash 19 = .ok (.getfield 54, 3) := by decide +kernel
theorem dX6_clash_22 : decode cX6_clash 22 = .ok (.aload_n 0, 1) := by decide +kernel
theorem dX6_clash_23 : decode cX6_clash 23 = .ok (.getfield 10, 3) := by decide +kernel
theorem dX6_clash_26 : decode cX6_clash 26 = .ok (.aload_n 0, 1) := by decide +kernel
theorem dX6_clash_27 : decode cX6_clash 27 = .ok (.getfield 19, 3) := by decide +kernel
theorem dX6_clash_30 : decode cX6_clash 30 = .ok (.aload_n 0, 1) := by decide +kernel
theorem dX6_clash_31 : decode cX6_clash 31 = .ok (.getfield 47, 3) := by decide +kernel
theorem dX6_clash_34 : decode cX6_clash 34 = .ok (.iload_n 1, 1) := by decide +kernel
theorem dX6_clash_35 : decode cX6_clash 35 = .ok (.invokevirtual 210, 3) := by decide +kernel
theorem dX6_clash_38 : decode cX6_clash 38 = .ok (.aload_n 0, 1) := by decide +kernel
theorem dX6_clash_39 : decode cX6_clash 39 = .ok (.invokevirtual 214, 3) := by decide +kernel
theorem dX6_clash_42 : decode cX6_clash 42 = .ok (.istore_n 2, 1) := by decide +kernel
theorem dX6_clash_43 : decode cX6_clash 43 = .ok (.aload_n 0, 1) := by decide +kernel
theorem dX6_clash_44 : decode cX6_clash 44 = .ok (.getfield 54, 3) := by decide +kernel
theorem dX6_clash_47 : decode cX6_clash 47 = .ok (.aload_n 0, 1) := by decide +kernel
theorem dX6_clash_48 : decode cX6_clash 48 = .ok (.getfield 19, 3) := by decide +kernel
theorem dX6_clash_51 : decode cX6_clash 51 = .ok (.iload_n 2, 1) := by decide +kernel
theorem dX6_clash_52 : decode cX6_clash 52 = .ok (.invokevirtual 217, 3) := by decide +kernel
theorem dX6_clash_55 : decode cX6_clash 55 = .ok (.ifCond .eq 5, 3) := by decide +kernel
theorem dX6_clash_58 : decode cX6_clash 58 = .ok (.iconst (-1), 1) := by decide +kernel
theorem dX6_clash_59 : decode cX6_clash 59 = .ok (.ireturn, 1) := by decide +kernel
theorem dX6_clash_60 : decode cX6_clash 60 = .ok (.iconst 1, 1) := by decide +kernel
theorem dX6_clash_61 : decode cX6_clash 61 = .ok (.istore_n 3, 1) := by decide +kernel
theorem dX6_clash_62 : decode cX6_clash 62 = .ok (.iload_n 3, 1) := by decide +kernel
theorem dX6_clash_63 : decode cX6_clash 63 = .ok (.aload_n 0, 1) := by decide +kernel
theorem dX6_clash_64 : decode cX6_clash 64 = .ok (.getfield 19, 3) := by decide +kernel
theorem dX6_clash_67 : decode cX6_clash 67 = .ok (.getfield 144, 3) := by decide +kernel
theorem dX6_clash_70 : decode cX6_clash 70 = .ok (.if_icmp .gt 52, 3) := by decide +kernel
theorem dX6_clash_73 : decode cX6_clash 73 = .ok (.iconst 1, 1) := by decide +kernel
theorem dX6_clash_74 : decode cX6_clash 74 = .ok (.istore 4, 2) := by decide +kernel
theorem dX6_clash_76 : decode cX6_clash 76 = .ok (.iload 4, 2) := by decide +kernel
theorem dX6_clash_78 : decode cX6_clash 78 = .ok (.iload_n 2, 1) := by decide +kernel
theorem dX6_clash_79 : decode cX6_clash 79 = .ok (.if_icmp .gt 37, 3) := by decide +kernel
theorem dX6_clash_82 : decode cX6_clash 82 = .ok (.iload 4, 2) := by decide +kernel
theorem dX6_clash_84 : decode cX6_clash 84 = .ok (.invokestatic 224, 3) := by decide +kernel
theorem dX6_clash_87 : decode cX6_clash 87 = .ok (.iload_n 3, 1) := by decide +kernel
theorem dX6_clash_88 : decode cX6_clash 88 = .ok (.if_icmp .ne 22, 3) := by decide +kernel
theorem dX6_clash_91 : decode cX6_clash 91 = .ok (.aload_n 0, 1) := by decide +kernel
theorem dX6_clash_92 : decode cX6_clash 92 = .ok (.getfield 54, 3) := by decide +kernel
theorem dX6_clash_95 : decode cX6_clash 95 = .ok (.aload_n 0, 1) := by decide +kernel
theorem dX6_clash_96 : decode cX6_clash 96 = .ok (.getfield 19, 3) := by decide +kernel
theorem dX6_clash_99 : decode cX6_clash 99 = .ok (.iload 4, 2) := by decide +kernel
theorem dX6_clash_101 : decode cX6_clash 101 = .ok (.invokevirtual 217, 3) := by decide +kernel
theorem dX6_clash_104 : decode cX6_clash 104 = .ok (.ifCond .ne 6, 3) := by decide +kernel
theorem dX6_clash_107 : decode cX6_clash 107 = .ok (.iload 4, 2) := by decide +kernel
theorem dX6_clash_109 : decode cX6_clash 109 = .ok (.ireturn, 1) := by decide +kernel
theorem dX6_clash_110 : decode cX6_clash 110 = .ok (.iinc 4 1, 3) := by decide +kernel
theorem dX6_clash_113 : decode cX6_clash 113 = .ok (.goto (-37), 3) := by decide +kernel
theorem dX6_clash_116 : decode cX6_clash 116 = .ok (.iinc 3 1, 3) := by decide +kernel
theorem dX6_clash_119 : decode cX6_clash 119 = .ok (.goto (-57), 3) := by decide +kernel
theorem dX6_clash_122 : decode cX6_clash 122 = .ok (.iconst (-1), 1) := by decide +kernel
theorem dX6_clash_123 : decode cX6_clash 123 = .ok (.ireturn, 1) := by decide +kernel
theorem dX6_leftOut_0 : decode cX6_leftOut 0 = .ok (.iload_n 1, 1) := by decide +kernel
theorem dX6_leftOut_1 : decode cX6_leftOut 1 = .ok (.iconst 0, 1) := by decide +kernel
theorem dX6_leftOut_2 : decode cX6_leftOut 2 = .ok (.sipush 999, 3) := by decide +kernel
theorem dX6_leftOut_5 : decode cX6_leftOut 5 = .ok (.invokestatic 121, 3) := by decide +kernel
theorem dX6_leftOut_8 : decode cX6_leftOut 8 = .ok (.ifCond .ne 10, 3) := by decide +kernel
theorem dX6_leftOut_11 : decode cX6_leftOut 11 = .ok (.aload_n 0, 1) := by decide +kernel
theorem dX6_leftOut_12 : decode cX6_leftOut 12 = .ok (.bipush (-2), 2) := by decide +kernel
theorem dX6_leftOut_14 : decode cX6_leftOut 14 = .ok (.invokevirtual 96, 3) := by decide +kernel
theorem dX6_leftOut_17 : decode cX6_leftOut 17 = .ok (.ireturn, 1) := by decide +kernel
theorem dX6_leftOut_18 : decode cX6_leftOut 18 = .ok (.aload_n 0, 1) := by decide +kernel
theorem dX6_leftOut_19 : decode cX6_leftOut 19 = .ok (.getfield 54, 3) := by decide +kernel
theorem dX6_leftOut_22 : decode cX6_leftOut 22 = .ok (.aload_n 0, 1) := by decide +kernel
theorem dX6_leftOut_23 : decode cX6_leftOut 23 = .ok (.getfield 10, 3) := by decide +kernel
theorem dX6_leftOut_26 : decode cX6_leftOut 26 = .ok (.aload_n 0, 1) := by decide +kernel
theorem dX6_leftOut_27 : decode cX6_leftOut 27 = .ok (.getfield 19, 3) := by decide +kernel
theorem dX6_leftOut_30 : decode cX6_leftOut 30 = .ok (.aload_n 0, 1) := by decide +kernel
theorem dX6_leftOut_31 : decode cX6_leftOut 31 = .ok (.getfield 47, 3) := by decide +kernel
theorem dX6_leftOut_34 : decode cX6_leftOut 34 = .ok (.iload_n 1, 1) := by decide +kernel
theorem dX6_leftOut_35 : decode cX6_leftOut 35 = .ok (.invokevirtual 210, 3) := by decide +kernel
theorem dX6_leftOut_38 : decode cX6_leftOut 38 = .ok (.aload_n 0, 1) := by decide +kernel
theorem dX6_leftOut_39 : decode cX6_leftOut 39 = .ok (.invokevirtual 214, 3) := by decide +kernel
theorem dX6_leftOut_42 : decode cX6_leftOut 42 = .ok (.istore_n 2, 1) := by decide +kernel
theorem dX6_leftOut_43 : decode cX6_leftOut 43 = .ok (.iconst 0, 1) := by decide +kernel
theorem dX6_leftOut_44 : decode cX6_leftOut 44 = .ok (.istore_n 3, 1) := by decide +kernel
theorem dX6_leftOut_45 : decode cX6_leftOut 45 = .ok (.iload_n 3, 1) := by decide +kernel
theorem dX6_leftOut_46 : decode cX6_leftOut 46 = .ok (.aload_n 0, 1) := by decide +kernel
theorem dX6_leftOut_47 : decode cX6_leftOut 47 = .ok (.getfield 19, 3) := by decide +kernel
theorem dX6_leftOut_50 : decode cX6_leftOut 50 = .ok (.getfield 144, 3) := by decide +kernel
theorem dX6_leftOut_53 : decode cX6_leftOut 53 = .ok (.if_icmp .gt 56, 3) := by decide +kernel
theorem dX6_leftOut_56 : decode cX6_leftOut 56 = .ok (.iconst 0, 1) := by decide +kernel
theorem dX6_leftOut_57 : decode cX6_leftOut 57 = .ok (.istore 4, 2) := by decide +kernel
theorem dX6_leftOut_59 : decode cX6_leftOut 59 = .ok (.iload 4, 2) := by decide +kernel
theorem dX6_leftOut_61 : decode cX6_leftOut 61 = .ok (.iload_n 2, 1) := by decide +kernel
theorem dX6_leftOut_62 : decode cX6_leftOut 62 = .ok (.if_icmp .gt 41, 3) := by decide +kernel
theorem dX6_leftOut_65 : decode cX6_leftOut 65 = .ok (.iload 4, 2) := by decide +kernel
theorem dX6_leftOut_67 : decode cX6_leftOut 67 = .ok (.invokestatic 224, 3) := by decide +kernel
theorem dX6_leftOut_70 : decode cX6_leftOut 70 = .ok (.iload_n 3, 1) := by decide +kernel
theorem dX6_leftOut_71 : decode cX6_leftOut 71 = .ok (.if_icmp .ne 26, 3) := by decide +kernel
theorem dX6_leftOut_74 : decode cX6_leftOut 74 = .ok (.aload_n 0, 1) := by decide +kernel
theorem dX6_leftOut_75 : decode cX6_leftOut 75 = .ok (.getfield 54, 3) := by decide +kernel
theorem dX6_leftOut_78 : decode cX6_leftOut 78 = .ok (.aload_n 0, 1) := by decide +kernel
theorem dX6_leftOut_79 : decode cX6_leftOut 79 = .ok (.getfield 19, 3) := by decide +kernel
theorem dX6_leftOut_82 : decode cX6_leftOut 82 = .ok (.iload_n 2, 1) := by decide +kernel
theorem dX6_leftOut_83 : decode cX6_leftOut 83 = .ok (.iload 4, 2) := by decide +kernel
theorem dX6_leftOut_85 : decode cX6_leftOut 85 = .ok (.iconst (-1), 1) := by decide +kernel
theorem dX6_leftOut_86 : decode cX6_leftOut 86 = .ok (.ixor, 1) := by decide +kernel
theorem dX6_leftOut_87 : decode cX6_leftOut 87 = .ok (.iand, 1) := by decide +kernel
theorem dX6_leftOut_88 : decode cX6_leftOut 88 = .ok (.invokevirtual 217, 3) := by decide +kernel
theorem dX6_leftOut_91 : decode cX6_leftOut 91 = .ok (.ifCond .eq 6, 3) := by decide +kernel
theorem dX6_leftOut_94 : decode cX6_leftOut 94 = .ok (.iload 4, 2) := by decide +kernel
theorem dX6_leftOut_96 : decode cX6_leftOut 96 = .ok (.ireturn, 1) := by decide +kernel
theorem dX6_leftOut_97 : decode cX6_leftOut 97 = .ok (.iinc 4 1, 3) := by decide +kernel
theorem dX6_leftOut_100 : decode cX6_leftOut 100 = .ok (.goto (-41), 3) := by decide +kernel
theorem dX6_leftOut_103 : decode cX6_leftOut 103 = .ok (.iinc 3 1, 3) := by decide +kernel
theorem dX6_leftOut_106 : decode cX6_leftOut 106 = .ok (.goto (-61), 3) := by decide +kernel
theorem dX6_leftOut_109 : decode cX6_leftOut 109 = .ok (.iload_n 2, 1) := by decide +kernel
theorem dX6_leftOut_110 : decode cX6_leftOut 110 = .ok (.ireturn, 1) := by decide +kernel
theorem dX6_follow_0 : decode cX6_follow 0 = .ok (.aload_n 0, 1) := by decide +kernel
theorem dX6_follow_1 : decode cX6_follow 1 = .ok (.iload_n 1, 1) := by decide +kernel
theorem dX6_follow_2 : decode cX6_follow 2 = .ok (.invokevirtual 151, 3) := by decide +kernel
theorem dX6_follow_5 : decode cX6_follow 5 = .ok (.ifCond .eq 11, 3) := by decide +kernel
theorem dX6_follow_8 : decode cX6_follow 8 = .ok (.aload_n 0, 1) := by decide +kernel
theorem dX6_follow_9 : decode cX6_follow 9 = .ok (.iload_n 2, 1) := by decide +kernel
theorem dX6_follow_10 : decode cX6_follow 10 = .ok (.invokevirtual 151, 3) := by decide +kernel
theorem dX6_follow_13 : decode cX6_follow 13 = .ok (.ifCond .ne 10, 3) := by decide +kernel
theorem dX6_follow_16 : decode cX6_follow 16 = .ok (.aload_n 0, 1) := by decide +kernel
theorem dX6_follow_17 : decode cX6_follow 17 = .ok (.bipush (-2), 2) := by decide +kernel
theorem dX6_follow_19 : decode cX6_follow 19 = .ok (.invokevirtual 96, 3) := by decide +kernel
theorem dX6_follow_22 : decode cX6_follow 22 = .ok (.ireturn, 1) := by decide +kernel
theorem dX6_follow_23 : decode cX6_follow 23 = .ok (.aload_n 0, 1) := by decide +kernel
theorem dX6_follow_24 : decode cX6_follow 24 = .ok (.getfield 19, 3) := by decide +kernel
theorem dX6_follow_27 : decode cX6_follow 27 = .ok (.getfield 229, 3) := by decide +kernel
theorem dX6_follow_30 : decode cX6_follow 30 = .ok (.iload_n 1, 1) := by decide +kernel
theorem dX6_follow_31 : decode cX6_follow 31 = .ok (.iaload, 1) := by decide +kernel
theorem dX6_follow_32 : decode cX6_follow 32 = .ok (.istore_n 3, 1) := by decide +kernel
theorem dX6_follow_33 : decode cX6_follow 33 = .ok (.aload_n 0, 1) := by decide +kernel
theorem dX6_follow_34 : decode cX6_follow 34 = .ok (.getfield 19, 3) := by decide +kernel
theorem dX6_follow_37 : decode cX6_follow 37 = .ok (.getfield 229, 3) := by decide +kernel
theorem dX6_follow_40 : decode cX6_follow 40 = .ok (.iload_n 1, 1) := by decide +kernel
theorem dX6_follow_41 : decode cX6_follow 41 = .ok (.iload_n 2, 1) := by decide +kernel
theorem dX6_follow_42 : decode cX6_follow 42 = .ok (.iastore, 1) := by decide +kernel
theorem dX6_follow_43 : decode cX6_follow 43 = .ok (.iload_n 3, 1) := by decide +kernel
theorem dX6_follow_44 : decode cX6_follow 44 = .ok (.ireturn, 1) := by decide +kernel
theorem dX6_round_0 : decode cX6_round 0 = .ok (.aload_n 0, 1) := by decide +kernel
theorem dX6_round_1 : decode cX6_round 1 = .ok (.getfield 19, 3) := by decide +kernel
theorem dX6_round_4 : decode cX6_round 4 = .ok (.invokevirtual 232, 3) := by decide +kernel
theorem dX6_round_7 : decode cX6_round 7 = .ok (.aload_n 0, 1) := by decide +kernel
theorem dX6_round_8 : decode cX6_round 8 = .ok (.getfield 19, 3) := by decide +kernel
theorem dX6_round_11 : decode cX6_round 11 = .ok (.aload_n 0, 1) := by decide +kernel
theorem dX6_round_12 : decode cX6_round 12 = .ok (.getfield 10, 3) := by decide +kernel
theorem dX6_round_15 : decode cX6_round 15 = .ok (.invokevirtual 235, 3) := by decide +kernel
theorem dX6_round_18 : decode cX6_round 18 = .ok (.ireturn, 1) := by decide +kernel
theorem dX6_undo_0 : decode cX6_undo 0 = .ok (.aload_n 0, 1) := by decide +kernel
theorem dX6_undo_1 : decode cX6_undo 1 = .ok (.getfield 19, 3) := by decide +kernel
theorem dX6_undo_4 : decode cX6_undo 4 = .ok (.getfield 239, 3) := by decide +kernel
theorem dX6_undo_7 : decode cX6_undo 7 = .ok (.ifCond .gt 8, 3) := by decide +kernel
theorem dX6_undo_10 : decode cX6_undo 10 = .ok (.aload_n 0, 1) := by decide +kernel
theorem dX6_undo_11 : decode cX6_undo 11 = .ok (.invokevirtual 242, 3) := by decide +kernel
theorem dX6_undo_14 : decode cX6_undo 14 = .ok (.ireturn, 1) := by decide +kernel
theorem dX6_undo_15 : decode cX6_undo 15 = .ok (.aload_n 0, 1) := by decide +kernel
theorem dX6_undo_16 : decode cX6_undo 16 = .ok (.getfield 19, 3) := by decide +kernel
theorem dX6_undo_19 : decode cX6_undo 19 = .ok (.invokevirtual 245, 3) := by decide +kernel
theorem dX6_undo_22 : decode cX6_undo 22 = .ok (.iconst 1, 1) := by decide +kernel
theorem dX6_undo_23 : decode cX6_undo 23 = .ok (.ireturn, 1) := by decide +kernel
theorem dX6_settles_0 : decode cX6_settles 0 = .ok (.aload_n 0, 1) := by decide +kernel
theorem dX6_settles_1 : decode cX6_settles 1 = .ok (.getfield 38, 3) := by decide +kernel
theorem dX6_settles_4 : decode cX6_settles 4 = .ok (.aload_n 0, 1) := by decide +kernel
theorem dX6_settles_5 : decode cX6_settles 5 = .ok (.getfield 19, 3) := by decide +kernel
theorem dX6_settles_8 : decode cX6_settles 8 = .ok (.invokevirtual 181, 3) := by decide +kernel
theorem dX6_settles_11 : decode cX6_settles 11 = .ok (.iconst 0, 1) := by decide +kernel
theorem dX6_settles_12 : decode cX6_settles 12 = .ok (.istore_n 1, 1) := by decide +kernel
theorem dX6_settles_13 : decode cX6_settles 13 = .ok (.iload_n 1, 1) := by decide +kernel
theorem dX6_settles_14 : decode cX6_settles 14 = .ok (.bipush 20, 2) := by decide +kernel
theorem dX6_settles_16 : decode cX6_settles 16 = .ok (.if_icmp .gt 25, 3) := by decide +kernel
theorem dX6_settles_19 : decode cX6_settles 19 = .ok (.aload_n 0, 1) := by decide +kernel
theorem dX6_settles_20 : decode cX6_settles 20 = .ok (.getfield 38, 3) := by decide +kernel
theorem dX6_settles_23 : decode cX6_settles 23 = .ok (.aload_n 0, 1) := by decide +kernel
theorem dX6_settles_24 : decode cX6_settles 24 = .ok (.getfield 10, 3) := by decide +kernel
theorem dX6_settles_27 : decode cX6_settles 27 = .ok (.invokevirtual 235, 3) := by decide +kernel
theorem dX6_settles_30 : decode cX6_settles 30 = .ok (.ifCond .ne 5, 3) := by decide +kernel
theorem dX6_settles_33 : decode cX6_settles 33 = .ok (.iload_n 1, 1) := by decide +kernel
theorem dX6_settles_34 : decode cX6_settles 34 = .ok (.ireturn, 1) := by decide +kernel
theorem dX6_settles_35 : decode cX6_settles 35 = .ok (.iinc 1 1, 3) := by decide +kernel
theorem dX6_settles_38 : decode cX6_settles 38 = .ok (.goto (-25), 3) := by decide +kernel
theorem dX6_settles_41 : decode cX6_settles 41 = .ok (.iconst (-1), 1) := by decide +kernel
theorem dX6_settles_42 : decode cX6_settles 42 = .ok (.ireturn, 1) := by decide +kernel
theorem dX6_slip_0 : decode cX6_slip 0 = .ok (.aload_n 0, 1) := by decide +kernel
theorem dX6_slip_1 : decode cX6_slip 1 = .ok (.iload_n 1, 1) := by decide +kernel
theorem dX6_slip_2 : decode cX6_slip 2 = .ok (.invokevirtual 151, 3) := by decide +kernel
theorem dX6_slip_5 : decode cX6_slip 5 = .ok (.ifCond .eq 24, 3) := by decide +kernel
theorem dX6_slip_8 : decode cX6_slip 8 = .ok (.iload_n 2, 1) := by decide +kernel
theorem dX6_slip_9 : decode cX6_slip 9 = .ok (.bipush (-99), 2) := by decide +kernel
theorem dX6_slip_11 : decode cX6_slip 11 = .ok (.bipush 99, 2) := by decide +kernel
theorem dX6_slip_13 : decode cX6_slip 13 = .ok (.invokestatic 121, 3) := by decide +kernel
theorem dX6_slip_16 : decode cX6_slip 16 = .ok (.ifCond .eq 13, 3) := by decide +kernel
theorem dX6_slip_19 : decode cX6_slip 19 = .ok (.iload_n 3, 1) := by decide +kernel
theorem dX6_slip_20 : decode cX6_slip 20 = .ok (.iconst 0, 1) := by decide +kernel
theorem dX6_slip_21 : decode cX6_slip 21 = .ok (.bipush 20, 2) := by decide +kernel
theorem dX6_slip_23 : decode cX6_slip 23 = .ok (.invokestatic 121, 3) := by decide +kernel
theorem dX6_slip_26 : decode cX6_slip 26 = .ok (.ifCond .ne 10, 3) := by decide +kernel
theorem dX6_slip_29 : decode cX6_slip 29 = .ok (.aload_n 0, 1) := by decide +kernel
theorem dX6_slip_30 : decode cX6_slip 30 = .ok (.bipush (-2), 2) := by decide +kernel
theorem dX6_slip_32 : decode cX6_slip 32 = .ok (.invokevirtual 96, 3) := by decide +kernel
theorem dX6_slip_35 : decode cX6_slip 35 = .ok (.ireturn, 1) := by decide +kernel
theorem dX6_slip_36 : decode cX6_slip 36 = .ok (.aload_n 0, 1) := by decide +kernel
theorem dX6_slip_37 : decode cX6_slip 37 = .ok (.getfield 38, 3) := by decide +kernel
theorem dX6_slip_40 : decode cX6_slip 40 = .ok (.aload_n 0, 1) := by decide +kernel
theorem dX6_slip_41 : decode cX6_slip 41 = .ok (.getfield 19, 3) := by decide +kernel
theorem dX6_slip_44 : decode cX6_slip 44 = .ok (.invokevirtual 181, 3) := by decide +kernel
theorem dX6_slip_47 : decode cX6_slip 47 = .ok (.aload_n 0, 1) := by decide +kernel
theorem dX6_slip_48 : decode cX6_slip 48 = .ok (.getfield 41, 3) := by decide +kernel
theorem dX6_slip_51 : decode cX6_slip 51 = .ok (.aload_n 0, 1) := by decide +kernel
theorem dX6_slip_52 : decode cX6_slip 52 = .ok (.getfield 19, 3) := by decide +kernel
theorem dX6_slip_55 : decode cX6_slip 55 = .ok (.invokevirtual 181, 3) := by decide +kernel
theorem dX6_slip_58 : decode cX6_slip 58 = .ok (.aload_n 0, 1) := by decide +kernel
theorem dX6_slip_59 : decode cX6_slip 59 = .ok (.getfield 41, 3) := by decide +kernel
theorem dX6_slip_62 : decode cX6_slip 62 = .ok (.getfield 154, 3) := by decide +kernel
theorem dX6_slip_65 : decode cX6_slip 65 = .ok (.iload_n 1, 1) := by decide +kernel
theorem dX6_slip_66 : decode cX6_slip 66 = .ok (.aload_n 0, 1) := by decide +kernel
theorem dX6_slip_67 : decode cX6_slip 67 = .ok (.getfield 19, 3) := by decide +kernel
theorem dX6_slip_70 : decode cX6_slip 70 = .ok (.getfield 154, 3) := by decide +kernel
theorem dX6_slip_73 : decode cX6_slip 73 = .ok (.iload_n 1, 1) := by decide +kernel
theorem dX6_slip_74 : decode cX6_slip 74 = .ok (.iaload, 1) := by decide +kernel
theorem dX6_slip_75 : decode cX6_slip 75 = .ok (.iload_n 2, 1) := by decide +kernel
theorem dX6_slip_76 : decode cX6_slip 76 = .ok (.iadd, 1) := by decide +kernel
theorem dX6_slip_77 : decode cX6_slip 77 = .ok (.invokestatic 248, 3) := by decide +kernel
theorem dX6_slip_80 : decode cX6_slip 80 = .ok (.iastore, 1) := by decide +kernel
theorem dX6_slip_81 : decode cX6_slip 81 = .ok (.iconst 0, 1) := by decide +kernel
theorem dX6_slip_82 : decode cX6_slip 82 = .ok (.istore 4, 2) := by decide +kernel
theorem dX6_slip_84 : decode cX6_slip 84 = .ok (.iload 4, 2) := by decide +kernel
theorem dX6_slip_86 : decode cX6_slip 86 = .ok (.iload_n 3, 1) := by decide +kernel
theorem dX6_slip_87 : decode cX6_slip 87 = .ok (.if_icmp .ge 33, 3) := by decide +kernel
theorem dX6_slip_90 : decode cX6_slip 90 = .ok (.aload_n 0, 1) := by decide +kernel
theorem dX6_slip_91 : decode cX6_slip 91 = .ok (.getfield 38, 3) := by decide +kernel
theorem dX6_slip_94 : decode cX6_slip 94 = .ok (.aload_n 0, 1) := by decide +kernel
theorem dX6_slip_95 : decode cX6_slip 95 = .ok (.getfield 10, 3) := by decide +kernel
theorem dX6_slip_98 : decode cX6_slip 98 = .ok (.invokevirtual 235, 3) := by decide +kernel
theorem dX6_slip_101 : decode cX6_slip 101 = .ok (.pop, 1) := by decide +kernel
theorem dX6_slip_102 : decode cX6_slip 102 = .ok (.aload_n 0, 1) := by decide +kernel
theorem dX6_slip_103 : decode cX6_slip 103 = .ok (.getfield 41, 3) := by decide +kernel
theorem dX6_slip_106 : decode cX6_slip 106 = .ok (.aload_n 0, 1) := by decide +kernel
theorem dX6_slip_107 : decode cX6_slip 107 = .ok (.getfield 10, 3) := by decide +kernel
theorem dX6_slip_110 : decode cX6_slip 110 = .ok (.invokevirtual 235, 3) := by decide +kernel
theorem dX6_slip_113 : decode cX6_slip 113 = .ok (.pop, 1) := by decide +kernel
theorem dX6_slip_114 : decode cX6_slip 114 = .ok (.iinc 4 1, 3) := by decide +kernel
theorem dX6_slip_117 : decode cX6_slip 117 = .ok (.goto (-33), 3) := by decide +kernel
theorem dX6_slip_120 : decode cX6_slip 120 = .ok (.aload_n 0, 1) := by decide +kernel
theorem dX6_slip_121 : decode cX6_slip 121 = .ok (.getfield 38, 3) := by decide +kernel
theorem dX6_slip_124 : decode cX6_slip 124 = .ok (.aload_n 0, 1) := by decide +kernel
theorem dX6_slip_125 : decode cX6_slip 125 = .ok (.getfield 41, 3) := by decide +kernel
theorem dX6_slip_128 : decode cX6_slip 128 = .ok (.invokevirtual 251, 3) := by decide +kernel
theorem dX6_slip_131 : decode cX6_slip 131 = .ok (.ireturn, 1) := by decide +kernel
theorem dX6_best_0 : decode cX6_best 0 = .ok (.aload_n 0, 1) := by decide +kernel
theorem dX6_best_1 : decode cX6_best 1 = .ok (.iload_n 1, 1) := by decide +kernel
theorem dX6_best_2 : decode cX6_best 2 = .ok (.invokevirtual 151, 3) := by decide +kernel
theorem dX6_best_5 : decode cX6_best 5 = .ok (.ifCond .ne 10, 3) := by decide +kernel
theorem dX6_best_8 : decode cX6_best 8 = .ok (.aload_n 0, 1) := by decide +kernel
theorem dX6_best_9 : decode cX6_best 9 = .ok (.bipush (-2), 2) := by decide +kernel
theorem dX6_best_11 : decode cX6_best 11 = .ok (.invokevirtual 96, 3) := by decide +kernel
theorem dX6_best_14 : decode cX6_best 14 = .ok (.ireturn, 1) := by decide +kernel
theorem dX6_best_15 : decode cX6_best 15 = .ok (.aload_n 0, 1) := by decide +kernel
theorem dX6_best_16 : decode cX6_best 16 = .ok (.getfield 10, 3) := by decide +kernel
theorem dX6_best_19 : decode cX6_best 19 = .ok (.getfield 100, 3) := by decide +kernel
theorem dX6_best_22 : decode cX6_best 22 = .ok (.aload_n 0, 1) := by decide +kernel
theorem dX6_best_23 : decode cX6_best 23 = .ok (.getfield 19, 3) := by decide +kernel
theorem dX6_best_26 : decode cX6_best 26 = .ok (.getfield 144, 3) := by decide +kernel
theorem dX6_best_29 : decode cX6_best 29 = .ok (.if_icmp .lt 13, 3) := by decide +kernel
theorem dX6_best_32 : decode cX6_best 32 = .ok (.aload_n 0, 1) := by decide +kernel
theorem dX6_best_33 : decode cX6_best 33 = .ok (.getfield 10, 3) := by decide +kernel
theorem dX6_best_36 : decode cX6_best 36 = .ok (.getfield 111, 3) := by decide +kernel
theorem dX6_best_39 : decode cX6_best 39 = .ok (.ifCond .ne 5, 3) := by decide +kernel
theorem dX6_best_42 : decode cX6_best 42 = .ok (.iconst (-1), 1) := by decide +kernel
theorem dX6_best_43 : decode cX6_best 43 = .ok (.ireturn, 1) := by decide +kernel
theorem dX6_best_44 : decode cX6_best 44 = .ok (.aload_n 0, 1) := by decide +kernel
theorem dX6_best_45 : decode cX6_best 45 = .ok (.getfield 38, 3) := by decide +kernel
theorem dX6_best_48 : decode cX6_best 48 = .ok (.aload_n 0, 1) := by decide +kernel
theorem dX6_best_49 : decode cX6_best 49 = .ok (.getfield 19, 3) := by decide +kernel
theorem dX6_best_52 : decode cX6_best 52 = .ok (.invokevirtual 181, 3) := by decide +kernel
theorem dX6_best_55 : decode cX6_best 55 = .ok (.aload_n 0, 1) := by decide +kernel
theorem dX6_best_56 : decode cX6_best 56 = .ok (.getfield 61, 3) := by decide +kernel
theorem dX6_best_59 : decode cX6_best 59 = .ok (.aload_n 0, 1) := by decide +kernel
theorem dX6_best_60 : decode cX6_best 60 = .ok (.getfield 10, 3) := by decide +kernel
theorem dX6_best_63 : decode cX6_best 63 = .ok (.aload_n 0, 1) := by decide +kernel
theorem dX6_best_64 : decode cX6_best 64 = .ok (.getfield 38, 3) := by decide +kernel
theorem dX6_best_67 : decode cX6_best 67 = .ok (.aload_n 0, 1) := by decide +kernel
theorem dX6_best_68 : decode cX6_best 68 = .ok (.getfield 47, 3) := by decide +kernel
theorem dX6_best_71 : decode cX6_best 71 = .ok (.invokevirtual 255, 3) := by decide +kernel
theorem dX6_best_74 : decode cX6_best 74 = .ok (.aload_n 0, 1) := by decide +kernel
theorem dX6_best_75 : decode cX6_best 75 = .ok (.getfield 61, 3) := by decide +kernel
theorem dX6_best_78 : decode cX6_best 78 = .ok (.getfield 259, 3) := by decide +kernel
theorem dX6_best_81 : decode cX6_best 81 = .ok (.iload_n 1, 1) := by decide +kernel
theorem dX6_best_82 : decode cX6_best 82 = .ok (.iaload, 1) := by decide +kernel
theorem dX6_best_83 : decode cX6_best 83 = .ok (.ireturn, 1) := by decide +kernel
theorem dX6_wrong_0 : decode cX6_wrong 0 = .ok (.iload_n 1, 1) := by decide +kernel
theorem dX6_wrong_1 : decode cX6_wrong 1 = .ok (.iconst 1, 1) := by decide +kernel
theorem dX6_wrong_2 : decode cX6_wrong 2 = .ok (.if_icmp .lt 16, 3) := by decide +kernel
theorem dX6_wrong_5 : decode cX6_wrong 5 = .ok (.iload_n 1, 1) := by decide +kernel
theorem dX6_wrong_6 : decode cX6_wrong 6 = .ok (.iconst 1, 1) := by decide +kernel
theorem dX6_wrong_7 : decode cX6_wrong 7 = .ok (.aload_n 0, 1) := by decide +kernel
theorem dX6_wrong_8 : decode cX6_wrong 8 = .ok (.getfield 10, 3) := by decide +kernel
theorem dX6_wrong_11 : decode cX6_wrong 11 = .ok (.getfield 111, 3) := by decide +kernel
theorem dX6_wrong_14 : decode cX6_wrong 14 = .ok (.ishl, 1) := by decide +kernel
theorem dX6_wrong_15 : decode cX6_wrong 15 = .ok (.if_icmp .lt 10, 3) := by decide +kernel
theorem dX6_wrong_18 : decode cX6_wrong 18 = .ok (.aload_n 0, 1) := by decide +kernel
theorem dX6_wrong_19 : decode cX6_wrong 19 = .ok (.bipush (-2), 2) := by decide +kernel
theorem dX6_wrong_21 : decode cX6_wrong 21 = .ok (.invokevirtual 96, 3) := by decide +kernel
theorem dX6_wrong_24 : decode cX6_wrong 24 = .ok (.ireturn, 1) := by decide +kernel
theorem dX6_wrong_25 : decode cX6_wrong 25 = .ok (.iload_n 2, 1) := by decide +kernel
theorem dX6_wrong_26 : decode cX6_wrong 26 = .ok (.invokestatic 184, 3) := by decide +kernel
theorem dX6_wrong_29 : decode cX6_wrong 29 = .ok (.ifCond .eq 18, 3) := by decide +kernel
theorem dX6_wrong_32 : decode cX6_wrong 32 = .ok (.iload_n 3, 1) := by decide +kernel
theorem dX6_wrong_33 : decode cX6_wrong 33 = .ok (.invokestatic 184, 3) := by decide +kernel
theorem dX6_wrong_36 : decode cX6_wrong 36 = .ok (.ifCond .eq 11, 3) := by decide +kernel
theorem dX6_wrong_39 : decode cX6_wrong 39 = .ok (.iload 4, 2) := by decide +kernel
theorem dX6_wrong_41 : decode cX6_wrong 41 = .ok (.invokestatic 184, 3) := by decide +kernel
theorem dX6_wrong_44 : decode cX6_wrong 44 = .ok (.ifCond .ne 10, 3) := by decide +kernel
theorem dX6_wrong_47 : decode cX6_wrong 47 = .ok (.aload_n 0, 1) := by decide +kernel
theorem dX6_wrong_48 : decode cX6_wrong 48 = .ok (.bipush (-2), 2) := by decide +kernel
theorem dX6_wrong_50 : decode cX6_wrong 50 = .ok (.invokevirtual 96, 3) := by decide +kernel
theorem dX6_wrong_53 : decode cX6_wrong 53 = .ok (.ireturn, 1) := by decide +kernel
theorem dX6_wrong_54 : decode cX6_wrong 54 = .ok (.aload_n 0, 1) := by decide +kernel
theorem dX6_wrong_55 : decode cX6_wrong 55 = .ok (.getfield 80, 3) := by decide +kernel
theorem dX6_wrong_58 : decode cX6_wrong 58 = .ok (.iconst 0, 1) := by decide +kernel
theorem dX6_wrong_59 : decode cX6_wrong 59 = .ok (.iload_n 2, 1) := by decide +kernel
theorem dX6_wrong_60 : decode cX6_wrong 60 = .ok (.iastore, 1) := by decide +kernel
theorem dX6_wrong_61 : decode cX6_wrong 61 = .ok (.aload_n 0, 1) := by decide +kernel
theorem dX6_wrong_62 : decode cX6_wrong 62 = .ok (.getfield 80, 3) := by decide +kernel
theorem dX6_wrong_65 : decode cX6_wrong 65 = .ok (.iconst 1, 1) := by decide +kernel
theorem dX6_wrong_66 : decode cX6_wrong 66 = .ok (.iload_n 3, 1) := by decide +kernel
theorem dX6_wrong_67 : decode cX6_wrong 67 = .ok (.iastore, 1) := by decide +kernel
theorem dX6_wrong_68 : decode cX6_wrong 68 = .ok (.aload_n 0, 1) := by decide +kernel
theorem dX6_wrong_69 : decode cX6_wrong 69 = .ok (.getfield 80, 3) := by decide +kernel
theorem dX6_wrong_72 : decode cX6_wrong 72 = .ok (.iconst 2, 1) := by decide +kernel
theorem dX6_wrong_73 : decode cX6_wrong 73 = .ok (.iload 4, 2) := by decide +kernel
theorem dX6_wrong_75 : decode cX6_wrong 75 = .ok (.iastore, 1) := by decide +kernel
theorem dX6_wrong_76 : decode cX6_wrong 76 = .ok (.iconst 0, 1) := by decide +kernel
theorem dX6_wrong_77 : decode cX6_wrong 77 = .ok (.istore 5, 2) := by decide +kernel
theorem dX6_wrong_79 : decode cX6_wrong 79 = .ok (.iconst 0, 1) := by decide +kernel
theorem dX6_wrong_80 : decode cX6_wrong 80 = .ok (.istore 6, 2) := by decide +kernel
theorem dX6_wrong_82 : decode cX6_wrong 82 = .ok (.iload 6, 2) := by decide +kernel
theorem dX6_wrong_84 : decode cX6_wrong 84 = .ok (.aload_n 0, 1) := by decide +kernel
theorem dX6_wrong_85 : decode cX6_wrong 85 = .ok (.getfield 10, 3) := by decide +kernel
theorem dX6_wrong_88 : decode cX6_wrong 88 = .ok (.getfield 100, 3) := by decide +kernel
theorem dX6_wrong_91 : decode cX6_wrong 91 = .ok (.if_icmp .ge 35, 3) := by decide +kernel
theorem dX6_wrong_94 : decode cX6_wrong 94 = .ok (.aload_n 0, 1) := by decide +kernel
theorem dX6_wrong_95 : decode cX6_wrong 95 = .ok (.getfield 10, 3) := by decide +kernel
theorem dX6_wrong_98 : decode cX6_wrong 98 = .ok (.iload 6, 2) := by decide +kernel
theorem dX6_wrong_100 : decode cX6_wrong 100 = .ok (.iload_n 1, 1) := by decide +kernel
theorem dX6_wrong_101 : decode cX6_wrong 101 = .ok (.aload_n 0, 1) := by decide +kernel
theorem dX6_wrong_102 : decode cX6_wrong 102 = .ok (.getfield 80, 3) := by decide +kernel
theorem dX6_wrong_105 : decode cX6_wrong 105 = .ok (.invokevirtual 262, 3) := by decide +kernel
theorem dX6_wrong_108 : decode cX6_wrong 108 = .ok (.ifCond .eq 12, 3) := by decide +kernel
theorem dX6_wrong_111 : decode cX6_wrong 111 = .ok (.iload 5, 2) := by decide +kernel
theorem dX6_wrong_113 : decode cX6_wrong 113 = .ok (.iconst 1, 1) := by decide +kernel
theorem dX6_wrong_114 : decode cX6_wrong 114 = .ok (.iload 6, 2) := by decide +kernel
theorem dX6_wrong_116 : decode cX6_wrong 116 = .ok (.ishl, 1) := by decide +kernel
theorem dX6_wrong_117 : decode cX6_wrong 117 = .ok (.ior, 1) := by decide +kernel
theorem dX6_wrong_118 : decode cX6_wrong 118 = .ok (.istore 5, 2) := by decide +kernel
theorem dX6_wrong_120 : decode cX6_wrong 120 = .ok (.iinc 6 1, 3) := by decide +kernel
theorem dX6_wrong_123 : decode cX6_wrong 123 = .ok (.goto (-41), 3) := by decide +kernel
theorem dX6_wrong_126 : decode cX6_wrong 126 = .ok (.iload 5, 2) := by decide +kernel
theorem dX6_wrong_128 : decode cX6_wrong 128 = .ok (.ifCond .ne 7, 3) := by decide +kernel
theorem dX6_wrong_131 : decode cX6_wrong 131 = .ok (.iconst (-1), 1) := by decide +kernel
theorem dX6_wrong_132 : decode cX6_wrong 132 = .ok (.goto 5, 3) := by decide +kernel
theorem dX6_wrong_135 : decode cX6_wrong 135 = .ok (.iload 5, 2) := by decide +kernel
theorem dX6_wrong_137 : decode cX6_wrong 137 = .ok (.ireturn, 1) := by decide +kernel
theorem dX6_nextEar_0 : decode cX6_nextEar 0 = .ok (.iload_n 1, 1) := by decide +kernel
theorem dX6_nextEar_1 : decode cX6_nextEar 1 = .ok (.ifCond .lt 16, 3) := by decide +kernel
theorem dX6_nextEar_4 : decode cX6_nextEar 4 = .ok (.iload_n 1, 1) := by decide +kernel
theorem dX6_nextEar_5 : decode cX6_nextEar 5 = .ok (.iconst 1, 1) := by decide +kernel
theorem dX6_nextEar_6 : decode cX6_nextEar 6 = .ok (.aload_n 0, 1) := by decide +kernel
theorem dX6_nextEar_7 : decode cX6_nextEar 7 = .ok (.getfield 10, 3) := by decide +kernel
theorem dX6_nextEar_10 : decode cX6_nextEar 10 = .ok (.getfield 100, 3) := by decide +kernel
theorem dX6_nextEar_13 : decode cX6_nextEar 13 = .ok (.ishl, 1) := by decide +kernel
theorem dX6_nextEar_14 : decode cX6_nextEar 14 = .ok (.if_icmp .lt 10, 3) := by decide +kernel
theorem dX6_nextEar_17 : decode cX6_nextEar 17 = .ok (.aload_n 0, 1) := by decide +kernel
theorem dX6_nextEar_18 : decode cX6_nextEar 18 = .ok (.bipush (-2), 2) := by decide +kernel
theorem dX6_nextEar_20 : decode cX6_nextEar 20 = .ok (.invokevirtual 96, 3) := by decide +kernel
theorem dX6_nextEar_23 : decode cX6_nextEar 23 = .ok (.ireturn, 1) := by decide +kernel
theorem dX6_nextEar_24 : decode cX6_nextEar 24 = .ok (.iconst (-1), 1) := by decide +kernel
theorem dX6_nextEar_25 : decode cX6_nextEar 25 = .ok (.istore_n 2, 1) := by decide +kernel
theorem dX6_nextEar_26 : decode cX6_nextEar 26 = .ok (.iconst 0, 1) := by decide +kernel
theorem dX6_nextEar_27 : decode cX6_nextEar 27 = .ok (.istore_n 3, 1) := by decide +kernel
theorem dX6_nextEar_28 : decode cX6_nextEar 28 = .ok (.iconst 0, 1) := by decide +kernel
theorem dX6_nextEar_29 : decode cX6_nextEar 29 = .ok (.istore 4, 2) := by decide +kernel
theorem dX6_nextEar_31 : decode cX6_nextEar 31 = .ok (.iload 4, 2) := by decide +kernel
theorem dX6_nextEar_33 : decode cX6_nextEar 33 = .ok (.aload_n 0, 1) := by decide +kernel
theorem dX6_nextEar_34 : decode cX6_nextEar 34 = .ok (.getfield 10, 3) := by decide +kernel
theorem dX6_nextEar_37 : decode cX6_nextEar 37 = .ok (.getfield 111, 3) := by decide +kernel
theorem dX6_nextEar_40 : decode cX6_nextEar 40 = .ok (.if_icmp .ge 33, 3) := by decide +kernel
theorem dX6_nextEar_43 : decode cX6_nextEar 43 = .ok (.aload_n 0, 1) := by decide +kernel
theorem dX6_nextEar_44 : decode cX6_nextEar 44 = .ok (.getfield 10, 3) := by decide +kernel
theorem dX6_nextEar_47 : decode cX6_nextEar 47 = .ok (.iload_n 1, 1) := by decide +kernel
theorem dX6_nextEar_48 : decode cX6_nextEar 48 = .ok (.iload 4, 2) := by decide +kernel
theorem dX6_nextEar_50 : decode cX6_nextEar 50 = .ok (.invokevirtual 266, 3) := by decide +kernel
theorem dX6_nextEar_53 : decode cX6_nextEar 53 = .ok (.istore 5, 2) := by decide +kernel
theorem dX6_nextEar_55 : decode cX6_nextEar 55 = .ok (.iload 5, 2) := by decide +kernel
theorem dX6_nextEar_57 : decode cX6_nextEar 57 = .ok (.iload_n 3, 1) := by decide +kernel
theorem dX6_nextEar_58 : decode cX6_nextEar 58 = .ok (.if_icmp .le 9, 3) := by decide +kernel
theorem dX6_nextEar_61 : decode cX6_nextEar 61 = .ok (.iload 5, 2) := by decide +kernel
theorem dX6_nextEar_63 : decode cX6_nextEar 63 = .ok (.istore_n 3, 1) := by decide +kernel
theorem dX6_nextEar_64 : decode cX6_nextEar 64 = .ok (.iload 4, 2) := by decide +kernel
theorem dX6_nextEar_66 : decode cX6_nextEar 66 = .ok (.istore_n 2, 1) := by decide +kernel
theorem dX6_nextEar_67 : decode cX6_nextEar 67 = .ok (.iinc 4 1, 3) := by decide +kernel
theorem dX6_nextEar_70 : decode cX6_nextEar 70 = .ok (.goto (-39), 3) := by decide +kernel
theorem dX6_nextEar_73 : decode cX6_nextEar 73 = .ok (.iload_n 2, 1) := by decide +kernel
theorem dX6_nextEar_74 : decode cX6_nextEar 74 = .ok (.ireturn, 1) := by decide +kernel
theorem dX6_drawn_0 : decode cX6_drawn 0 = .ok (.iload_n 1, 1) := by decide +kernel
theorem dX6_drawn_1 : decode cX6_drawn 1 = .ok (.iconst 0, 1) := by decide +kernel
theorem dX6_drawn_2 : decode cX6_drawn 2 = .ok (.sipush 999, 3) := by decide +kernel
theorem dX6_drawn_5 : decode cX6_drawn 5 = .ok (.invokestatic 121, 3) := by decide +kernel
theorem dX6_drawn_8 : decode cX6_drawn 8 = .ok (.ifCond .ne 10, 3) := by decide +kernel
theorem dX6_drawn_11 : decode cX6_drawn 11 = .ok (.aload_n 0, 1) := by decide +kernel
theorem dX6_drawn_12 : decode cX6_drawn 12 = .ok (.bipush (-2), 2) := by decide +kernel
theorem dX6_drawn_14 : decode cX6_drawn 14 = .ok (.invokevirtual 96, 3) := by decide +kernel
theorem dX6_drawn_17 : decode cX6_drawn 17 = .ok (.ireturn, 1) := by decide +kernel
theorem dX6_drawn_18 : decode cX6_drawn 18 = .ok (.aload_n 0, 1) := by decide +kernel
theorem dX6_drawn_19 : decode cX6_drawn 19 = .ok (.getfield 10, 3) := by decide +kernel
theorem dX6_drawn_22 : decode cX6_drawn 22 = .ok (.getfield 128, 3) := by decide +kernel
theorem dX6_drawn_25 : decode cX6_drawn 25 = .ok (.istore_n 2, 1) := by decide +kernel
theorem dX6_drawn_26 : decode cX6_drawn 26 = .ok (.iconst 0, 1) := by decide +kernel
theorem dX6_drawn_27 : decode cX6_drawn 27 = .ok (.istore_n 3, 1) := by decide +kernel
theorem dX6_drawn_28 : decode cX6_drawn 28 = .ok (.bipush (-2), 2) := by decide +kernel
theorem dX6_drawn_30 : decode cX6_drawn 30 = .ok (.istore 4, 2) := by decide +kernel
theorem dX6_drawn_32 : decode cX6_drawn 32 = .ok (.iload 4, 2) := by decide +kernel
theorem dX6_drawn_34 : decode cX6_drawn 34 = .ok (.iconst 2, 1) := by decide +kernel
theorem dX6_drawn_35 : decode cX6_drawn 35 = .ok (.if_icmp .gt 29, 3) := by decide +kernel
theorem dX6_drawn_38 : decode cX6_drawn 38 = .ok (.aload_n 0, 1) := by decide +kernel
theorem dX6_drawn_39 : decode cX6_drawn 39 = .ok (.getfield 10, 3) := by decide +kernel
theorem dX6_drawn_42 : decode cX6_drawn 42 = .ok (.iload 4, 2) := by decide +kernel
theorem dX6_drawn_44 : decode cX6_drawn 44 = .ok (.putfield 128, 3) := by decide +kernel
theorem dX6_drawn_47 : decode cX6_drawn 47 = .ok (.aload_n 0, 1) := by decide +kernel
theorem dX6_drawn_48 : decode cX6_drawn 48 = .ok (.iload_n 1, 1) := by decide +kernel
theorem dX6_drawn_49 : decode cX6_drawn 49 = .ok (.invokevirtual 207, 3) := by decide +kernel
theorem dX6_drawn_52 : decode cX6_drawn 52 = .ok (.ifCond .eq 6, 3) := by decide +kernel
theorem dX6_drawn_55 : decode cX6_drawn 55 = .ok (.iinc 3 1, 3) := by decide +kernel
theorem dX6_drawn_58 : decode cX6_drawn 58 = .ok (.iinc 4 1, 3) := by decide +kernel
theorem dX6_drawn_61 : decode cX6_drawn 61 = .ok (.goto (-29), 3) := by decide +kernel
theorem dX6_drawn_64 : decode cX6_drawn 64 = .ok (.aload_n 0, 1) := by decide +kernel
theorem dX6_drawn_65 : decode cX6_drawn 65 = .ok (.getfield 10, 3) := by decide +kernel
theorem dX6_drawn_68 : decode cX6_drawn 68 = .ok (.iload_n 2, 1) := by decide +kernel
theorem dX6_drawn_69 : decode cX6_drawn 69 = .ok (.putfield 128, 3) := by decide +kernel
theorem dX6_drawn_72 : decode cX6_drawn 72 = .ok (.iload_n 3, 1) := by decide +kernel
theorem dX6_drawn_73 : decode cX6_drawn 73 = .ok (.ireturn, 1) := by decide +kernel
theorem dX6_image_0 : decode cX6_image 0 = .ok (.iload_n 1, 1) := by decide +kernel
theorem dX6_image_1 : decode cX6_image 1 = .ok (.iconst 0, 1) := by decide +kernel
theorem dX6_image_2 : decode cX6_image 2 = .ok (.iconst 1, 1) := by decide +kernel
theorem dX6_image_3 : decode cX6_image 3 = .ok (.invokestatic 121, 3) := by decide +kernel
theorem dX6_image_6 : decode cX6_image 6 = .ok (.ifCond .ne 10, 3) := by decide +kernel
theorem dX6_image_9 : decode cX6_image 9 = .ok (.aload_n 0, 1) := by decide +kernel
theorem dX6_image_10 : decode cX6_image 10 = .ok (.bipush (-2), 2) := by decide +kernel
theorem dX6_image_12 : decode cX6_image 12 = .ok (.invokevirtual 96, 3) := by decide +kernel
theorem dX6_image_15 : decode cX6_image 15 = .ok (.ireturn, 1) := by decide +kernel
theorem dX6_image_16 : decode cX6_image 16 = .ok (.aload_n 0, 1) := by decide +kernel
theorem dX6_image_17 : decode cX6_image 17 = .ok (.getfield 23, 3) := by decide +kernel
theorem dX6_image_20 : decode cX6_image 20 = .ok (.iload_n 1, 1) := by decide +kernel
theorem dX6_image_21 : decode cX6_image 21 = .ok (.aaload, 1) := by decide +kernel
theorem dX6_image_22 : decode cX6_image 22 = .ok (.aload_n 0, 1) := by decide +kernel
theorem dX6_image_23 : decode cX6_image 23 = .ok (.getfield 10, 3) := by decide +kernel
theorem dX6_image_26 : decode cX6_image 26 = .ok (.invokevirtual 166, 3) := by decide +kernel
theorem dX6_image_29 : decode cX6_image 29 = .ok (.aload_n 0, 1) := by decide +kernel
theorem dX6_image_30 : decode cX6_image 30 = .ok (.getfield 27, 3) := by decide +kernel
theorem dX6_image_33 : decode cX6_image 33 = .ok (.iload_n 1, 1) := by decide +kernel
theorem dX6_image_34 : decode cX6_image 34 = .ok (.aaload, 1) := by decide +kernel
theorem dX6_image_35 : decode cX6_image 35 = .ok (.aload_n 0, 1) := by decide +kernel
theorem dX6_image_36 : decode cX6_image 36 = .ok (.getfield 19, 3) := by decide +kernel
theorem dX6_image_39 : decode cX6_image 39 = .ok (.invokevirtual 181, 3) := by decide +kernel
theorem dX6_image_42 : decode cX6_image 42 = .ok (.aload_n 0, 1) := by decide +kernel
theorem dX6_image_43 : decode cX6_image 43 = .ok (.getfield 31, 3) := by decide +kernel
theorem dX6_image_46 : decode cX6_image 46 = .ok (.iload_n 1, 1) := by decide +kernel
theorem dX6_image_47 : decode cX6_image 47 = .ok (.iconst 1, 1) := by decide +kernel
theorem dX6_image_48 : decode cX6_image 48 = .ok (.iastore, 1) := by decide +kernel
theorem dX6_image_49 : decode cX6_image 49 = .ok (.iconst 1, 1) := by decide +kernel
theorem dX6_image_50 : decode cX6_image 50 = .ok (.ireturn, 1) := by decide +kernel
theorem dX6_from_0 : decode cX6_from 0 = .ok (.iload_n 1, 1) := by decide +kernel
theorem dX6_from_1 : decode cX6_from 1 = .ok (.iconst 0, 1) := by decide +kernel
theorem dX6_from_2 : decode cX6_from 2 = .ok (.iconst 1, 1) := by decide +kernel
theorem dX6_from_3 : decode cX6_from 3 = .ok (.invokestatic 121, 3) := by decide +kernel
theorem dX6_from_6 : decode cX6_from 6 = .ok (.ifCond .ne 10, 3) := by decide +kernel
theorem dX6_from_9 : decode cX6_from 9 = .ok (.aload_n 0, 1) := by decide +kernel
theorem dX6_from_10 : decode cX6_from 10 = .ok (.bipush (-2), 2) := by decide +kernel
theorem dX6_from_12 : decode cX6_from 12 = .ok (.invokevirtual 96, 3) := by decide +kernel
theorem dX6_from_15 : decode cX6_from 15 = .ok (.ireturn, 1) := by decide +kernel
theorem dX6_from_16 : decode cX6_from 16 = .ok (.aload_n 0, 1) := by decide +kernel
theorem dX6_from_17 : decode cX6_from 17 = .ok (.getfield 31, 3) := by decide +kernel
theorem dX6_from_20 : decode cX6_from 20 = .ok (.iload_n 1, 1) := by decide +kernel
theorem dX6_from_21 : decode cX6_from 21 = .ok (.iaload, 1) := by decide +kernel
theorem dX6_from_22 : decode cX6_from 22 = .ok (.ifCond .ne 8, 3) := by decide +kernel
theorem dX6_from_25 : decode cX6_from 25 = .ok (.aload_n 0, 1) := by decide +kernel
theorem dX6_from_26 : decode cX6_from 26 = .ok (.invokevirtual 242, 3) := by decide +kernel
theorem dX6_from_29 : decode cX6_from 29 = .ok (.ireturn, 1) := by decide +kernel
theorem dX6_from_30 : decode cX6_from 30 = .ok (.aload_n 0, 1) := by decide +kernel
theorem dX6_from_31 : decode cX6_from 31 = .ok (.getfield 10, 3) := by decide +kernel
theorem dX6_from_34 : decode cX6_from 34 = .ok (.aload_n 0, 1) := by decide +kernel
theorem dX6_from_35 : decode cX6_from 35 = .ok (.getfield 23, 3) := by decide +kernel
theorem dX6_from_38 : decode cX6_from 38 = .ok (.iload_n 1, 1) := by decide +kernel
theorem dX6_from_39 : decode cX6_from 39 = .ok (.aaload, 1) := by decide +kernel
theorem dX6_from_40 : decode cX6_from 40 = .ok (.invokevirtual 166, 3) := by decide +kernel
theorem dX6_from_43 : decode cX6_from 43 = .ok (.aload_n 0, 1) := by decide +kernel
theorem dX6_from_44 : decode cX6_from 44 = .ok (.getfield 19, 3) := by decide +kernel
theorem dX6_from_47 : decode cX6_from 47 = .ok (.aload_n 0, 1) := by decide +kernel
theorem dX6_from_48 : decode cX6_from 48 = .ok (.getfield 27, 3) := by decide +kernel
theorem dX6_from_51 : decode cX6_from 51 = .ok (.iload_n 1, 1) := by decide +kernel
theorem dX6_from_52 : decode cX6_from 52 = .ok (.aaload, 1) := by decide +kernel
theorem dX6_from_53 : decode cX6_from 53 = .ok (.invokevirtual 181, 3) := by decide +kernel
theorem dX6_from_56 : decode cX6_from 56 = .ok (.iconst 1, 1) := by decide +kernel
theorem dX6_from_57 : decode cX6_from 57 = .ok (.ireturn, 1) := by decide +kernel
theorem dX6_status_0 : decode cX6_status 0 = .ok (.iload_n 1, 1) := by decide +kernel
theorem dX6_status_1 : decode cX6_status 1 = .ok (.tableswitch 42 0 2 #[27, 32, 37], 27) := by decide +kernel
theorem dX6_status_28 : decode cX6_status 28 = .ok (.aload_n 0, 1) := by decide +kernel
theorem dX6_status_29 : decode cX6_status 29 = .ok (.getfield 83, 3) := by decide +kernel
theorem dX6_status_32 : decode cX6_status 32 = .ok (.ireturn, 1) := by decide +kernel
theorem dX6_status_33 : decode cX6_status 33 = .ok (.aload_n 0, 1) := by decide +kernel
theorem dX6_status_34 : decode cX6_status 34 = .ok (.getfield 86, 3) := by decide +kernel
theorem dX6_status_37 : decode cX6_status 37 = .ok (.ireturn, 1) := by decide +kernel
theorem dX6_status_38 : decode cX6_status 38 = .ok (.aload_n 0, 1) := by decide +kernel
theorem dX6_status_39 : decode cX6_status 39 = .ok (.getfield 89, 3) := by decide +kernel
theorem dX6_status_42 : decode cX6_status 42 = .ok (.ireturn, 1) := by decide +kernel
theorem dX6_status_43 : decode cX6_status 43 = .ok (.aload_n 0, 1) := by decide +kernel
theorem dX6_status_44 : decode cX6_status 44 = .ok (.iconst (-1), 1) := by decide +kernel
theorem dX6_status_45 : decode cX6_status 45 = .ok (.invokevirtual 96, 3) := by decide +kernel
theorem dX6_status_48 : decode cX6_status 48 = .ok (.ireturn, 1) := by decide +kernel
theorem dX6_count_0 : decode cX6_count 0 = .ok (.iload_n 1, 1) := by decide +kernel
theorem dX6_count_1 : decode cX6_count 1 = .ok (.iconst 0, 1) := by decide +kernel
theorem dX6_count_2 : decode cX6_count 2 = .ok (.iconst 4, 1) := by decide +kernel
theorem dX6_count_3 : decode cX6_count 3 = .ok (.invokestatic 121, 3) := by decide +kernel
theorem dX6_count_6 : decode cX6_count 6 = .ok (.ifCond .ne 10, 3) := by decide +kernel
theorem dX6_count_9 : decode cX6_count 9 = .ok (.aload_n 0, 1) := by decide +kernel
theorem dX6_count_10 : decode cX6_count 10 = .ok (.bipush (-2), 2) := by decide +kernel
theorem dX6_count_12 : decode cX6_count 12 = .ok (.invokevirtual 96, 3) := by decide +kernel
theorem dX6_count_15 : decode cX6_count 15 = .ok (.ireturn, 1) := by decide +kernel
theorem dX6_count_16 : decode cX6_count 16 = .ok (.aload_n 0, 1) := by decide +kernel
theorem dX6_count_17 : decode cX6_count 17 = .ok (.iload_n 1, 1) := by decide +kernel
theorem dX6_count_18 : decode cX6_count 18 = .ok (.invokevirtual 269, 3) := by decide +kernel
theorem dX6_count_21 : decode cX6_count 21 = .ok (.ireturn, 1) := by decide +kernel
theorem dX6_digest_0 : decode cX6_digest 0 = .ok (.ldc2_w 272, 3) := by decide +kernel
theorem dX6_digest_3 : decode cX6_digest 3 = .ok (.lstore_n 1, 1) := by decide +kernel
theorem dX6_digest_4 : decode cX6_digest 4 = .ok (.iconst 0, 1) := by decide +kernel
theorem dX6_digest_5 : decode cX6_digest 5 = .ok (.istore_n 3, 1) := by decide +kernel
theorem dX6_digest_6 : decode cX6_digest 6 = .ok (.iload_n 3, 1) := by decide +kernel
theorem dX6_digest_7 : decode cX6_digest 7 = .ok (.iconst 4, 1) := by decide +kernel
theorem dX6_digest_8 : decode cX6_digest 8 = .ok (.if_icmp .gt 22, 3) := by decide +kernel
theorem dX6_digest_11 : decode cX6_digest 11 = .ok (.ldc2_w 274, 3) := by decide +kernel
theorem dX6_digest_14 : decode cX6_digest 14 = .ok (.lload_n 1, 1) := by decide +kernel
theorem dX6_digest_15 : decode cX6_digest 15 = .ok (.lmul, 1) := by decide +kernel
theorem dX6_digest_16 : decode cX6_digest 16 = .ok (.aload_n 0, 1) := by decide +kernel
theorem dX6_digest_17 : decode cX6_digest 17 = .ok (.iload_n 3, 1) := by decide +kernel
theorem dX6_digest_18 : decode cX6_digest 18 = .ok (.invokevirtual 269, 3) := by decide +kernel
theorem dX6_digest_21 : decode cX6_digest 21 = .ok (.i2l, 1) := by decide +kernel
theorem dX6_digest_22 : decode cX6_digest 22 = .ok (.ladd, 1) := by decide +kernel
theorem dX6_digest_23 : decode cX6_digest 23 = .ok (.lstore_n 1, 1) := by decide +kernel
theorem dX6_digest_24 : decode cX6_digest 24 = .ok (.iinc 3 1, 3) := by decide +kernel
theorem dX6_digest_27 : decode cX6_digest 27 = .ok (.goto (-21), 3) := by decide +kernel
theorem dX6_digest_30 : decode cX6_digest 30 = .ok (.aload_n 0, 1) := by decide +kernel
theorem dX6_digest_31 : decode cX6_digest 31 = .ok (.getfield 19, 3) := by decide +kernel
theorem dX6_digest_34 : decode cX6_digest 34 = .ok (.aload_n 0, 1) := by decide +kernel
theorem dX6_digest_35 : decode cX6_digest 35 = .ok (.getfield 10, 3) := by decide +kernel
theorem dX6_digest_38 : decode cX6_digest 38 = .ok (.lload_n 1, 1) := by decide +kernel
theorem dX6_digest_39 : decode cX6_digest 39 = .ok (.invokevirtual 276, 3) := by decide +kernel
theorem dX6_digest_42 : decode cX6_digest 42 = .ok (.aload_n 0, 1) := by decide +kernel
theorem dX6_digest_43 : decode cX6_digest 43 = .ok (.getfield 10, 3) := by decide +kernel
theorem dX6_digest_46 : decode cX6_digest 46 = .ok (.invokevirtual 280, 3) := by decide +kernel
theorem dX6_digest_49 : decode cX6_digest 49 = .ok (.lreturn, 1) := by decide +kernel
theorem dX6_howMany_0 : decode cX6_howMany 0 = .ok (.iload_n 1, 1) := by decide +kernel
theorem dX6_howMany_1 : decode cX6_howMany 1 = .ok (.tableswitch 63 0 3 #[31, 39, 47, 55], 31) := by decide +kernel
theorem dX6_howMany_32 : decode cX6_howMany 32 = .ok (.aload_n 0, 1) := by decide +kernel
theorem dX6_howMany_33 : decode cX6_howMany 33 = .ok (.getfield 10, 3) := by decide +kernel
theorem dX6_howMany_36 : decode cX6_howMany 36 = .ok (.getfield 100, 3) := by decide +kernel
theorem dX6_howMany_39 : decode cX6_howMany 39 = .ok (.ireturn, 1) := by decide +kernel
theorem dX6_howMany_40 : decode cX6_howMany 40 = .ok (.aload_n 0, 1) := by decide +kernel
theorem dX6_howMany_41 : decode cX6_howMany 41 = .ok (.getfield 10, 3) := by decide +kernel
theorem dX6_howMany_44 : decode cX6_howMany 44 = .ok (.getfield 111, 3) := by decide +kernel
theorem dX6_howMany_47 : decode cX6_howMany 47 = .ok (.ireturn, 1) := by decide +kernel
theorem dX6_howMany_48 : decode cX6_howMany 48 = .ok (.aload_n 0, 1) := by decide +kernel
theorem dX6_howMany_49 : decode cX6_howMany 49 = .ok (.getfield 19, 3) := by decide +kernel
theorem dX6_howMany_52 : decode cX6_howMany 52 = .ok (.getfield 144, 3) := by decide +kernel
theorem dX6_howMany_55 : decode cX6_howMany 55 = .ok (.ireturn, 1) := by decide +kernel
theorem dX6_howMany_56 : decode cX6_howMany 56 = .ok (.aload_n 0, 1) := by decide +kernel
theorem dX6_howMany_57 : decode cX6_howMany 57 = .ok (.getfield 19, 3) := by decide +kernel
theorem dX6_howMany_60 : decode cX6_howMany 60 = .ok (.getfield 239, 3) := by decide +kernel
theorem dX6_howMany_63 : decode cX6_howMany 63 = .ok (.ireturn, 1) := by decide +kernel
theorem dX6_howMany_64 : decode cX6_howMany 64 = .ok (.aload_n 0, 1) := by decide +kernel
theorem dX6_howMany_65 : decode cX6_howMany 65 = .ok (.getfield 76, 3) := by decide +kernel
theorem dX6_howMany_68 : decode cX6_howMany 68 = .ok (.ireturn, 1) := by decide +kernel
theorem dX6_isTogether_0 : decode cX6_isTogether 0 = .ok (.iconst 0, 1) := by decide +kernel
theorem dX6_isTogether_1 : decode cX6_isTogether 1 = .ok (.istore_n 2, 1) := by decide +kernel
theorem dX6_isTogether_2 : decode cX6_isTogether 2 = .ok (.iload_n 2, 1) := by decide +kernel
theorem dX6_isTogether_3 : decode cX6_isTogether 3 = .ok (.aload_n 0, 1) := by decide +kernel
theorem dX6_isTogether_4 : decode cX6_isTogether 4 = .ok (.getfield 10, 3) := by decide +kernel
theorem dX6_isTogether_7 : decode cX6_isTogether 7 = .ok (.getfield 111, 3) := by decide +kernel
theorem dX6_isTogether_10 : decode cX6_isTogether 10 = .ok (.if_icmp .ge 31, 3) := by decide +kernel
theorem dX6_isTogether_13 : decode cX6_isTogether 13 = .ok (.aload_n 0, 1) := by decide +kernel
theorem dX6_isTogether_14 : decode cX6_isTogether 14 = .ok (.getfield 47, 3) := by decide +kernel
theorem dX6_isTogether_17 : decode cX6_isTogether 17 = .ok (.aload_n 0, 1) := by decide +kernel
theorem dX6_isTogether_18 : decode cX6_isTogether 18 = .ok (.getfield 10, 3) := by decide +kernel
theorem dX6_isTogether_21 : decode cX6_isTogether 21 = .ok (.aload_n 0, 1) := by decide +kernel
theorem dX6_isTogether_22 : decode cX6_isTogether 22 = .ok (.getfield 19, 3) := by decide +kernel
theorem dX6_isTogether_25 : decode cX6_isTogether 25 = .ok (.iload_n 2, 1) := by decide +kernel
theorem dX6_isTogether_26 : decode cX6_isTogether 26 = .ok (.invokevirtual 203, 3) := by decide +kernel
theorem dX6_isTogether_29 : decode cX6_isTogether 29 = .ok (.iload_n 1, 1) := by decide +kernel
theorem dX6_isTogether_30 : decode cX6_isTogether 30 = .ok (.if_icmp .le 5, 3) := by decide +kernel
theorem dX6_isTogether_33 : decode cX6_isTogether 33 = .ok (.iconst 0, 1) := by decide +kernel
theorem dX6_isTogether_34 : decode cX6_isTogether 34 = .ok (.ireturn, 1) := by decide +kernel
theorem dX6_isTogether_35 : decode cX6_isTogether 35 = .ok (.iinc 2 1, 3) := by decide +kernel
theorem dX6_isTogether_38 : decode cX6_isTogether 38 = .ok (.goto (-36), 3) := by decide +kernel
theorem dX6_isTogether_41 : decode cX6_isTogether 41 = .ok (.iconst 1, 1) := by decide +kernel
theorem dX6_isTogether_42 : decode cX6_isTogether 42 = .ok (.ireturn, 1) := by decide +kernel
theorem dX6_everyPlayer_0 : decode cX6_everyPlayer 0 = .ok (.iconst 1, 1) := by decide +kernel
theorem dX6_everyPlayer_1 : decode cX6_everyPlayer 1 = .ok (.aload_n 0, 1) := by decide +kernel
theorem dX6_everyPlayer_2 : decode cX6_everyPlayer 2 = .ok (.getfield 19, 3) := by decide +kernel
theorem dX6_everyPlayer_5 : decode cX6_everyPlayer 5 = .ok (.getfield 144, 3) := by decide +kernel
theorem dX6_everyPlayer_8 : decode cX6_everyPlayer 8 = .ok (.ishl, 1) := by decide +kernel
theorem dX6_everyPlayer_9 : decode cX6_everyPlayer 9 = .ok (.iconst 1, 1) := by decide +kernel
theorem dX6_everyPlayer_10 : decode cX6_everyPlayer 10 = .ok (.isub, 1) := by decide +kernel
theorem dX6_everyPlayer_11 : decode cX6_everyPlayer 11 = .ok (.ireturn, 1) := by decide +kernel
theorem dX6_hasWindow_0 : decode cX6_hasWindow 0 = .ok (.iload_n 1, 1) := by decide +kernel
theorem dX6_hasWindow_1 : decode cX6_hasWindow 1 = .ok (.ifCond .lt 18, 3) := by decide +kernel
theorem dX6_hasWindow_4 : decode cX6_hasWindow 4 = .ok (.iload_n 1, 1) := by decide +kernel
theorem dX6_hasWindow_5 : decode cX6_hasWindow 5 = .ok (.aload_n 0, 1) := by decide +kernel
theorem dX6_hasWindow_6 : decode cX6_hasWindow 6 = .ok (.getfield 10, 3) := by decide +kernel
theorem dX6_hasWindow_9 : decode cX6_hasWindow 9 = .ok (.getfield 100, 3) := by decide +kernel
theorem dX6_hasWindow_12 : decode cX6_hasWindow 12 = .ok (.if_icmp .ge 7, 3) := by decide +kernel
theorem dX6_hasWindow_15 : decode cX6_hasWindow 15 = .ok (.iconst 1, 1) := by decide +kernel
theorem dX6_hasWindow_16 : decode cX6_hasWindow 16 = .ok (.goto 4, 3) := by decide +kernel
theorem dX6_hasWindow_19 : decode cX6_hasWindow 19 = .ok (.iconst 0, 1) := by decide +kernel
theorem dX6_hasWindow_20 : decode cX6_hasWindow 20 = .ok (.ireturn, 1) := by decide +kernel
theorem dX6_hasEar_0 : decode cX6_hasEar 0 = .ok (.iload_n 1, 1) := by decide +kernel
theorem dX6_hasEar_1 : decode cX6_hasEar 1 = .ok (.ifCond .lt 18, 3) := by decide +kernel
theorem dX6_hasEar_4 : decode cX6_hasEar 4 = .ok (.iload_n 1, 1) := by decide +kernel
theorem dX6_hasEar_5 : decode cX6_hasEar 5 = .ok (.aload_n 0, 1) := by decide +kernel
theorem dX6_hasEar_6 : decode cX6_hasEar 6 = .ok (.getfield 10, 3) := by decide +kernel
theorem dX6_hasEar_9 : decode cX6_hasEar 9 = .ok (.getfield 111, 3) := by decide +kernel
theorem dX6_hasEar_12 : decode cX6_hasEar 12 = .ok (.if_icmp .ge 7, 3) := by decide +kernel
theorem dX6_hasEar_15 : decode cX6_hasEar 15 = .ok (.iconst 1, 1) := by decide +kernel
theorem dX6_hasEar_16 : decode cX6_hasEar 16 = .ok (.goto 4, 3) := by decide +kernel
theorem dX6_hasEar_19 : decode cX6_hasEar 19 = .ok (.iconst 0, 1) := by decide +kernel
theorem dX6_hasEar_20 : decode cX6_hasEar 20 = .ok (.ireturn, 1) := by decide +kernel
theorem dX6_hasPlayer_0 : decode cX6_hasPlayer 0 = .ok (.iload_n 1, 1) := by decide +kernel
theorem dX6_hasPlayer_1 : decode cX6_hasPlayer 1 = .ok (.ifCond .lt 18, 3) := by decide +kernel
theorem dX6_hasPlayer_4 : decode cX6_hasPlayer 4 = .ok (.iload_n 1, 1) := by decide +kernel
theorem dX6_hasPlayer_5 : decode cX6_hasPlayer 5 = .ok (.aload_n 0, 1) := by decide +kernel
theorem dX6_hasPlayer_6 : decode cX6_hasPlayer 6 = .ok (.getfield 19, 3) := by decide +kernel
theorem dX6_hasPlayer_9 : decode cX6_hasPlayer 9 = .ok (.getfield 144, 3) := by decide +kernel
theorem dX6_hasPlayer_12 : decode cX6_hasPlayer 12 = .ok (.if_icmp .ge 7, 3) := by decide +kernel
theorem dX6_hasPlayer_15 : decode cX6_hasPlayer 15 = .ok (.iconst 1, 1) := by decide +kernel
theorem dX6_hasPlayer_16 : decode cX6_hasPlayer 16 = .ok (.goto 4, 3) := by decide +kernel
theorem dX6_hasPlayer_19 : decode cX6_hasPlayer 19 = .ok (.iconst 0, 1) := by decide +kernel
theorem dX6_hasPlayer_20 : decode cX6_hasPlayer 20 = .ok (.ireturn, 1) := by decide +kernel
theorem dX6_refuseBad_0 : decode cX6_refuseBad 0 = .ok (.aload_n 0, 1) := by decide +kernel
theorem dX6_refuseBad_1 : decode cX6_refuseBad 1 = .ok (.dup, 1) := by decide +kernel
theorem dX6_refuseBad_2 : decode cX6_refuseBad 2 = .ok (.getfield 83, 3) := by decide +kernel
theorem dX6_refuseBad_5 : decode cX6_refuseBad 5 = .ok (.iconst 1, 1) := by decide +kernel
theorem dX6_refuseBad_6 : decode cX6_refuseBad 6 = .ok (.iadd, 1) := by decide +kernel
theorem dX6_refuseBad_7 : decode cX6_refuseBad 7 = .ok (.putfield 83, 3) := by decide +kernel
theorem dX6_refuseBad_10 : decode cX6_refuseBad 10 = .ok (.iload_n 1, 1) := by decide +kernel
theorem dX6_refuseBad_11 : decode cX6_refuseBad 11 = .ok (.ireturn, 1) := by decide +kernel
theorem dX6_refuseNo_0 : decode cX6_refuseNo 0 = .ok (.aload_n 0, 1) := by decide +kernel
theorem dX6_refuseNo_1 : decode cX6_refuseNo 1 = .ok (.dup, 1) := by decide +kernel
theorem dX6_refuseNo_2 : decode cX6_refuseNo 2 = .ok (.getfield 86, 3) := by decide +kernel
theorem dX6_refuseNo_5 : decode cX6_refuseNo 5 = .ok (.iconst 1, 1) := by decide +kernel
theorem dX6_refuseNo_6 : decode cX6_refuseNo 6 = .ok (.iadd, 1) := by decide +kernel
theorem dX6_refuseNo_7 : decode cX6_refuseNo 7 = .ok (.putfield 86, 3) := by decide +kernel
theorem dX6_refuseNo_10 : decode cX6_refuseNo 10 = .ok (.bipush (-3), 2) := by decide +kernel
theorem dX6_refuseNo_12 : decode cX6_refuseNo 12 = .ok (.ireturn, 1) := by decide +kernel
theorem dX6_refuseFull_0 : decode cX6_refuseFull 0 = .ok (.aload_n 0, 1) := by decide +kernel
theorem dX6_refuseFull_1 : decode cX6_refuseFull 1 = .ok (.dup, 1) := by decide +kernel
theorem dX6_refuseFull_2 : decode cX6_refuseFull 2 = .ok (.getfield 89, 3) := by decide +kernel
theorem dX6_refuseFull_5 : decode cX6_refuseFull 5 = .ok (.iconst 1, 1) := by decide +kernel
theorem dX6_refuseFull_6 : decode cX6_refuseFull 6 = .ok (.iadd, 1) := by decide +kernel
theorem dX6_refuseFull_7 : decode cX6_refuseFull 7 = .ok (.putfield 89, 3) := by decide +kernel
theorem dX6_refuseFull_10 : decode cX6_refuseFull 10 = .ok (.bipush (-4), 2) := by decide +kernel
theorem dX6_refuseFull_12 : decode cX6_refuseFull 12 = .ok (.ireturn, 1) := by decide +kernel
theorem dX6_isWithin_0 : decode cX6_isWithin 0 = .ok (.iload_n 0, 1) := by decide +kernel
theorem dX6_isWithin_1 : decode cX6_isWithin 1 = .ok (.iload_n 1, 1) := by decide +kernel
theorem dX6_isWithin_2 : decode cX6_isWithin 2 = .ok (.if_icmp .lt 12, 3) := by decide +kernel
theorem dX6_isWithin_5 : decode cX6_isWithin 5 = .ok (.iload_n 0, 1) := by decide +kernel
theorem dX6_isWithin_6 : decode cX6_isWithin 6 = .ok (.iload_n 2, 1) := by decide +kernel
theorem dX6_isWithin_7 : decode cX6_isWithin 7 = .ok (.if_icmp .gt 7, 3) := by decide +kernel
theorem dX6_isWithin_10 : decode cX6_isWithin 10 = .ok (.iconst 1, 1) := by decide +kernel
theorem dX6_isWithin_11 : decode cX6_isWithin 11 = .ok (.goto 4, 3) := by decide +kernel
theorem dX6_isWithin_14 : decode cX6_isWithin 14 = .ok (.iconst 0, 1) := by decide +kernel
theorem dX6_isWithin_15 : decode cX6_isWithin 15 = .ok (.ireturn, 1) := by decide +kernel
theorem dX6_isPlace_0 : decode cX6_isPlace 0 = .ok (.iload_n 0, 1) := by decide +kernel
theorem dX6_isPlace_1 : decode cX6_isPlace 1 = .ok (.iconst 0, 1) := by decide +kernel
theorem dX6_isPlace_2 : decode cX6_isPlace 2 = .ok (.bipush 99, 2) := by decide +kernel
theorem dX6_isPlace_4 : decode cX6_isPlace 4 = .ok (.invokestatic 121, 3) := by decide +kernel
theorem dX6_isPlace_7 : decode cX6_isPlace 7 = .ok (.ifCond .eq 17, 3) := by decide +kernel
theorem dX6_isPlace_10 : decode cX6_isPlace 10 = .ok (.iload_n 1, 1) := by decide +kernel
theorem dX6_isPlace_11 : decode cX6_isPlace 11 = .ok (.iconst 0, 1) := by decide +kernel
theorem dX6_isPlace_12 : decode cX6_isPlace 12 = .ok (.bipush 99, 2) := by decide +kernel
theorem dX6_isPlace_14 : decode cX6_isPlace 14 = .ok (.invokestatic 121, 3) := by decide +kernel
theorem dX6_isPlace_17 : decode cX6_isPlace 17 = .ok (.ifCond .eq 7, 3) := by decide +kernel
theorem dX6_isPlace_20 : decode cX6_isPlace 20 = .ok (.iconst 1, 1) := by decide +kernel
theorem dX6_isPlace_21 : decode cX6_isPlace 21 = .ok (.goto 4, 3) := by decide +kernel
theorem dX6_isPlace_24 : decode cX6_isPlace 24 = .ok (.iconst 0, 1) := by decide +kernel
theorem dX6_isPlace_25 : decode cX6_isPlace 25 = .ok (.ireturn, 1) := by decide +kernel
theorem dX6_isTime_0 : decode cX6_isTime 0 = .ok (.iload_n 0, 1) := by decide +kernel
theorem dX6_isTime_1 : decode cX6_isTime 1 = .ok (.iconst 0, 1) := by decide +kernel
theorem dX6_isTime_2 : decode cX6_isTime 2 = .ok (.sipush 9999, 3) := by decide +kernel
theorem dX6_isTime_5 : decode cX6_isTime 5 = .ok (.invokestatic 121, 3) := by decide +kernel
theorem dX6_isTime_8 : decode cX6_isTime 8 = .ok (.ireturn, 1) := by decide +kernel
theorem dX6_holds_0 : decode cX6_holds 0 = .ok (.iload_n 0, 1) := by decide +kernel
theorem dX6_holds_1 : decode cX6_holds 1 = .ok (.iload_n 1, 1) := by decide +kernel
theorem dX6_holds_2 : decode cX6_holds 2 = .ok (.ishr, 1) := by decide +kernel
theorem dX6_holds_3 : decode cX6_holds 3 = .ok (.iconst 1, 1) := by decide +kernel
theorem dX6_holds_4 : decode cX6_holds 4 = .ok (.iand, 1) := by decide +kernel
theorem dX6_holds_5 : decode cX6_holds 5 = .ok (.iconst 1, 1) := by decide +kernel
theorem dX6_holds_6 : decode cX6_holds 6 = .ok (.if_icmp .ne 7, 3) := by decide +kernel
theorem dX6_holds_9 : decode cX6_holds 9 = .ok (.iconst 1, 1) := by decide +kernel
theorem dX6_holds_10 : decode cX6_holds 10 = .ok (.goto 4, 3) := by decide +kernel
theorem dX6_holds_13 : decode cX6_holds 13 = .ok (.iconst 0, 1) := by decide +kernel
theorem dX6_holds_14 : decode cX6_holds 14 = .ok (.ireturn, 1) := by decide +kernel
theorem dX6_heldOffset_0 : decode cX6_heldOffset 0 = .ok (.sipush (-500), 3) := by decide +kernel
theorem dX6_heldOffset_3 : decode cX6_heldOffset 3 = .ok (.sipush 500, 3) := by decide +kernel
theorem dX6_heldOffset_6 : decode cX6_heldOffset 6 = .ok (.iload_n 0, 1) := by decide +kernel
theorem dX6_heldOffset_7 : decode cX6_heldOffset 7 = .ok (.invokestatic 283, 3) := by decide +kernel
theorem dX6_heldOffset_10 : decode cX6_heldOffset 10 = .ok (.invokestatic 288, 3) := by decide +kernel
theorem dX6_heldOffset_13 : decode cX6_heldOffset 13 = .ok (.ireturn, 1) := by decide +kernel
theorem dX6_apart_0 : decode cX6_apart 0 = .ok (.iload_n 0, 1) := by decide +kernel
theorem dX6_apart_1 : decode cX6_apart 1 = .ok (.iload_n 2, 1) := by decide +kernel
theorem dX6_apart_2 : decode cX6_apart 2 = .ok (.isub, 1) := by decide +kernel
theorem dX6_apart_3 : decode cX6_apart 3 = .ok (.invokestatic 291, 3) := by decide +kernel
theorem dX6_apart_6 : decode cX6_apart 6 = .ok (.iload_n 1, 1) := by decide +kernel
theorem dX6_apart_7 : decode cX6_apart 7 = .ok (.iload_n 3, 1) := by decide +kernel
theorem dX6_apart_8 : decode cX6_apart 8 = .ok (.isub, 1) := by decide +kernel
theorem dX6_apart_9 : decode cX6_apart 9 = .ok (.invokestatic 291, 3) := by decide +kernel
theorem dX6_apart_12 : decode cX6_apart 12 = .ok (.iadd, 1) := by decide +kernel
theorem dX6_apart_13 : decode cX6_apart 13 = .ok (.ireturn, 1) := by decide +kernel
theorem dX6_copyRow_0 : decode cX6_copyRow 0 = .ok (.aload_n 0, 1) := by decide +kernel
theorem dX6_copyRow_1 : decode cX6_copyRow 1 = .ok (.iconst 0, 1) := by decide +kernel
theorem dX6_copyRow_2 : decode cX6_copyRow 2 = .ok (.aload_n 1, 1) := by decide +kernel
theorem dX6_copyRow_3 : decode cX6_copyRow 3 = .ok (.iconst 0, 1) := by decide +kernel
theorem dX6_copyRow_4 : decode cX6_copyRow 4 = .ok (.aload_n 0, 1) := by decide +kernel
theorem dX6_copyRow_5 : decode cX6_copyRow 5 = .ok (.arraylength, 1) := by decide +kernel
theorem dX6_copyRow_6 : decode cX6_copyRow 6 = .ok (.aload_n 1, 1) := by decide +kernel
theorem dX6_copyRow_7 : decode cX6_copyRow 7 = .ok (.arraylength, 1) := by decide +kernel
theorem dX6_copyRow_8 : decode cX6_copyRow 8 = .ok (.invokestatic 283, 3) := by decide +kernel
theorem dX6_copyRow_11 : decode cX6_copyRow 11 = .ok (.invokestatic 294, 3) := by decide +kernel
theorem dX6_copyRow_14 : decode cX6_copyRow 14 = .ok (.return_, 1) := by decide +kernel
theorem dX7_init_0 : decode cX7_init 0 = .ok (.aload_n 0, 1) := by decide +kernel
theorem dX7_init_1 : decode cX7_init 1 = .ok (.invokespecial 1, 3) := by decide +kernel
theorem dX7_init_4 : decode cX7_init 4 = .ok (.aload_n 0, 1) := by decide +kernel
theorem dX7_init_5 : decode cX7_init 5 = .ok (.bipush 106, 2) := by decide +kernel
theorem dX7_init_7 : decode cX7_init 7 = .ok (.newarray .int, 2) := by decide +kernel
theorem dX7_init_9 : decode cX7_init 9 = .ok (.putfield 7, 3) := by decide +kernel
theorem dX7_init_12 : decode cX7_init 12 = .ok (.aload_n 0, 1) := by decide +kernel
theorem dX7_init_13 : decode cX7_init 13 = .ok (.sipush 212, 3) := by decide +kernel
theorem dX7_init_16 : decode cX7_init 16 = .ok (.newarray .int, 2) := by decide +kernel
theorem dX7_init_18 : decode cX7_init 18 = .ok (.putfield 13, 3) := by decide +kernel
theorem dX7_init_21 : decode cX7_init 21 = .ok (.aload_n 0, 1) := by decide +kernel
theorem dX7_init_22 : decode cX7_init 22 = .ok (.iconst 2, 1) := by decide +kernel
theorem dX7_init_23 : decode cX7_init 23 = .ok (.newarray .boolean, 2) := by decide +kernel
theorem dX7_init_25 : decode cX7_init 25 = .ok (.putfield 16, 3) := by decide +kernel
theorem dX7_init_28 : decode cX7_init 28 = .ok (.aload_n 0, 1) := by decide +kernel
theorem dX7_init_29 : decode cX7_init 29 = .ok (.iconst 3, 1) := by decide +kernel
theorem dX7_init_30 : decode cX7_init 30 = .ok (.newarray .int, 2) := by decide +kernel
theorem dX7_init_32 : decode cX7_init 32 = .ok (.putfield 20, 3) := by decide +kernel
theorem dX7_init_35 : decode cX7_init 35 = .ok (.aload_n 0, 1) := by decide +kernel
theorem dX7_init_36 : decode cX7_init 36 = .ok (.bipush 12, 2) := by decide +kernel
theorem dX7_init_38 : decode cX7_init 38 = .ok (.newarray .int, 2) := by decide +kernel
theorem dX7_init_40 : decode cX7_init 40 = .ok (.putfield 23, 3) := by decide +kernel
theorem dX7_init_43 : decode cX7_init 43 = .ok (.aload_n 0, 1) := by decide +kernel
theorem dX7_init_44 : decode cX7_init 44 = .ok (.bipush 12, 2) := by decide +kernel
theorem dX7_init_46 : decode cX7_init 46 = .ok (.newarray .int, 2) := by decide +kernel
theorem dX7_init_48 : decode cX7_init 48 = .ok (.putfield 26, 3) := by decide +kernel
theorem dX7_init_51 : decode cX7_init 51 = .ok (.aload_n 0, 1) := by decide +kernel
theorem dX7_init_52 : decode cX7_init 52 = .ok (.bipush 12, 2) := by decide +kernel
theorem dX7_init_54 : decode cX7_init 54 = .ok (.newarray .int, 2) := by decide +kernel
theorem dX7_init_56 : decode cX7_init 56 = .ok (.putfield 29, 3) := by decide +kernel
theorem dX7_init_59 : decode cX7_init 59 = .ok (.aload_n 0, 1) := by decide +kernel
theorem dX7_init_60 : decode cX7_init 60 = .ok (.bipush 6, 2) := by decide +kernel
theorem dX7_init_62 : decode cX7_init 62 = .ok (.newarray .int, 2) := by decide +kernel
theorem dX7_init_64 : decode cX7_init 64 = .ok (.putfield 32, 3) := by decide +kernel
theorem dX7_init_67 : decode cX7_init 67 = .ok (.aload_n 0, 1) := by decide +kernel
theorem dX7_init_68 : decode cX7_init 68 = .ok (.bipush 6, 2) := by decide +kernel
theorem dX7_init_70 : decode cX7_init 70 = .ok (.newarray .int, 2) := by decide +kernel
theorem dX7_init_72 : decode cX7_init 72 = .ok (.putfield 35, 3) := by decide +kernel
theorem dX7_init_75 : decode cX7_init 75 = .ok (.aload_n 0, 1) := by decide +kernel
theorem dX7_init_76 : decode cX7_init 76 = .ok (.bipush 6, 2) := by decide +kernel
theorem dX7_init_78 : decode cX7_init 78 = .ok (.newarray .int, 2) := by decide +kernel
theorem dX7_init_80 : decode cX7_init 80 = .ok (.putfield 38, 3) := by decide +kernel
theorem dX7_init_83 : decode cX7_init 83 = .ok (.aload_n 0, 1) := by decide +kernel
theorem dX7_init_84 : decode cX7_init 84 = .ok (.bipush 6, 2) := by decide +kernel
theorem dX7_init_86 : decode cX7_init 86 = .ok (.newarray .int, 2) := by decide +kernel
theorem dX7_init_88 : decode cX7_init 88 = .ok (.putfield 41, 3) := by decide +kernel
theorem dX7_init_91 : decode cX7_init 91 = .ok (.aload_n 0, 1) := by decide +kernel
theorem dX7_init_92 : decode cX7_init 92 = .ok (.bipush 6, 2) := by decide +kernel
theorem dX7_init_94 : decode cX7_init 94 = .ok (.newarray .int, 2) := by decide +kernel
theorem dX7_init_96 : decode cX7_init 96 = .ok (.putfield 44, 3) := by decide +kernel
theorem dX7_init_99 : decode cX7_init 99 = .ok (.aload_n 0, 1) := by decide +kernel
theorem dX7_init_100 : decode cX7_init 100 = .ok (.bipush 6, 2) := by decide +kernel
theorem dX7_init_102 : decode cX7_init 102 = .ok (.newarray .int, 2) := by decide +kernel
theorem dX7_init_104 : decode cX7_init 104 = .ok (.putfield 47, 3) := by decide +kernel
theorem dX7_init_107 : decode cX7_init 107 = .ok (.aload_n 0, 1) := by decide +kernel
theorem dX7_init_108 : decode cX7_init 108 = .ok (.sipush 250, 3) := by decide +kernel
theorem dX7_init_111 : decode cX7_init 111 = .ok (.newarray .int, 2) := by decide +kernel
theorem dX7_init_113 : decode cX7_init 113 = .ok (.putfield 50, 3) := by decide +kernel
theorem dX7_init_116 : decode cX7_init 116 = .ok (.aload_n 0, 1) := by decide +kernel
theorem dX7_init_117 : decode cX7_init 117 = .ok (.bipush 58, 2) := by decide +kernel
theorem dX7_init_119 : decode cX7_init 119 = .ok (.newarray .int, 2) := by decide +kernel
theorem dX7_init_121 : decode cX7_init 121 = .ok (.putfield 53, 3) := by decide +kernel
theorem dX7_init_124 : decode cX7_init 124 = .ok (.aload_n 0, 1) := by decide +kernel
theorem dX7_init_125 : decode cX7_init 125 = .ok (.getfield 7, 3) := by decide +kernel
theorem dX7_init_128 : decode cX7_init 128 = .ok (.bipush 18, 2) := by decide +kernel
theorem dX7_init_130 : decode cX7_init 130 = .ok (.iconst (-1), 1) := by decide +kernel
theorem dX7_init_131 : decode cX7_init 131 = .ok (.iastore, 1) := by decide +kernel
theorem dX7_init_132 : decode cX7_init 132 = .ok (.aload_n 0, 1) := by decide +kernel
theorem dX7_init_133 : decode cX7_init 133 = .ok (.getfield 7, 3) := by decide +kernel
theorem dX7_init_136 : decode cX7_init 136 = .ok (.bipush 19, 2) := by decide +kernel
theorem dX7_init_138 : decode cX7_init 138 = .ok (.iconst (-1), 1) := by decide +kernel
theorem dX7_init_139 : decode cX7_init 139 = .ok (.iastore, 1) := by decide +kernel
theorem dX7_init_140 : decode cX7_init 140 = .ok (.aload_n 0, 1) := by decide +kernel
theorem dX7_init_141 : decode cX7_init 141 = .ok (.getfield 7, 3) := by decide +kernel
theorem dX7_init_144 : decode cX7_init 144 = .ok (.bipush 20, 2) := by decide +kernel
theorem dX7_init_146 : decode cX7_init 146 = .ok (.iconst 3, 1) := by decide +kernel
theorem dX7_init_147 : decode cX7_init 147 = .ok (.iastore, 1) := by decide +kernel
theorem dX7_init_148 : decode cX7_init 148 = .ok (.return_, 1) := by decide +kernel
theorem dX7_in_0 : decode cX7_in 0 = .ok (.lload_n 0, 1) := by decide +kernel
theorem dX7_in_1 : decode cX7_in 1 = .ok (.lload_n 2, 1) := by decide +kernel
theorem dX7_in_2 : decode cX7_in 2 = .ok (.lcmp, 1) := by decide +kernel
theorem dX7_in_3 : decode cX7_in 3 = .ok (.ifCond .lt 14, 3) := by decide +kernel
theorem dX7_in_6 : decode cX7_in 6 = .ok (.lload_n 0, 1) := by decide +kernel
theorem dX7_in_7 : decode cX7_in 7 = .ok (.lload 4, 2) := by decide +kernel
theorem dX7_in_9 : decode cX7_in 9 = .ok (.lcmp, 1) := by decide +kernel
theorem dX7_in_10 : decode cX7_in 10 = .ok (.ifCond .gt 7, 3) := by decide +kernel
theorem dX7_in_13 : decode cX7_in 13 = .ok (.iconst 1, 1) := by decide +kernel
theorem dX7_in_14 : decode cX7_in 14 = .ok (.goto 4, 3) := by decide +kernel
theorem dX7_in_17 : decode cX7_in 17 = .ok (.iconst 0, 1) := by decide +kernel
theorem dX7_in_18 : decode cX7_in 18 = .ok (.ireturn, 1) := by decide +kernel
theorem dX7_bad_0 : decode cX7_bad 0 = .ok (.aload_n 0, 1) := by decide +kernel
theorem dX7_bad_1 : decode cX7_bad 1 = .ok (.getfield 20, 3) := by decide +kernel
theorem dX7_bad_4 : decode cX7_bad 4 = .ok (.iconst 0, 1) := by decide +kernel
theorem dX7_bad_5 : decode cX7_bad 5 = .ok (.dup2, 1) := by decide +kernel
theorem dX7_bad_6 : decode cX7_bad 6 = .ok (.iaload, 1) := by decide +kernel
theorem dX7_bad_7 : decode cX7_bad 7 = .ok (.iconst 1, 1) := by decide +kernel
theorem dX7_bad_8 : decode cX7_bad 8 = .ok (.iadd, 1) := by decide +kernel
theorem dX7_bad_9 : decode cX7_bad 9 = .ok (.iastore, 1) := by decide +kernel
theorem dX7_bad_10 : decode cX7_bad 10 = .ok (.iload_n 1, 1) := by decide +kernel
theorem dX7_bad_11 : decode cX7_bad 11 = .ok (.ireturn, 1) := by decide +kernel
theorem dX7_no_0 : decode cX7_no 0 = .ok (.aload_n 0, 1) := by decide +kernel
theorem dX7_no_1 : decode cX7_no 1 = .ok (.getfield 20, 3) := by decide +kernel
theorem dX7_no_4 : decode cX7_no 4 = .ok (.iconst 1, 1) := by decide +kernel
theorem dX7_no_5 : decode cX7_no 5 = .ok (.dup2, 1) := by decide +kernel
theorem dX7_no_6 : decode cX7_no 6 = .ok (.iaload, 1) := by decide +kernel
theorem dX7_no_7 : decode cX7_no 7 = .ok (.iconst 1, 1) := by decide +kernel
theorem dX7_no_8 : decode cX7_no 8 = .ok (.iadd, 1) := by decide +kernel
theorem dX7_no_9 : decode cX7_no 9 = .ok (.iastore, 1) := by decide +kernel
theorem dX7_no_10 : decode cX7_no 10 = .ok (.bipush (-3), 2) := by decide +kernel
theorem dX7_no_12 : decode cX7_no 12 = .ok (.ireturn, 1) := by decide +kernel
theorem dX7_full_0 : decode cX7_full 0 = .ok (.aload_n 0, 1) := by decide +kernel
theorem dX7_full_1 : decode cX7_full 1 = .ok (.getfield 20, 3) := by decide +kernel
theorem dX7_full_4 : decode cX7_full 4 = .ok (.iconst 2, 1) := by decide +kernel
theorem dX7_full_5 : decode cX7_full 5 = .ok (.dup2, 1) := by decide +kernel
theorem dX7_full_6 : decode cX7_full 6 = .ok (.iaload, 1) := by decide +kernel
theorem dX7_full_7 : decode cX7_full 7 = .ok (.iconst 1, 1) := by decide +kernel
theorem dX7_full_8 : decode cX7_full 8 = .ok (.iadd, 1) := by decide +kernel
theorem dX7_full_9 : decode cX7_full 9 = .ok (.iastore, 1) := by decide +kernel
theorem dX7_full_10 : decode cX7_full 10 = .ok (.bipush (-4), 2) := by decide +kernel
theorem dX7_full_12 : decode cX7_full 12 = .ok (.ireturn, 1) := by decide +kernel
theorem dX7_windows_0 : decode cX7_windows 0 = .ok (.aload_n 0, 1) := by decide +kernel
theorem dX7_windows_1 : decode cX7_windows 1 = .ok (.getfield 7, 3) := by decide +kernel
theorem dX7_windows_4 : decode cX7_windows 4 = .ok (.bipush 54, 2) := by decide +kernel
theorem dX7_windows_6 : decode cX7_windows 6 = .ok (.iaload, 1) := by decide +kernel
theorem dX7_windows_7 : decode cX7_windows 7 = .ok (.ireturn, 1) := by decide +kernel
theorem dX7_ears_0 : decode cX7_ears 0 = .ok (.aload_n 0, 1) := by decide +kernel
theorem dX7_ears_1 : decode cX7_ears 1 = .ok (.getfield 7, 3) := by decide +kernel
theorem dX7_ears_4 : decode cX7_ears 4 = .ok (.bipush 55, 2) := by decide +kernel
theorem dX7_ears_6 : decode cX7_ears 6 = .ok (.iaload, 1) := by decide +kernel
theorem dX7_ears_7 : decode cX7_ears 7 = .ok (.ireturn, 1) := by decide +kernel
theorem dX7_players_0 : decode cX7_players 0 = .ok (.aload_n 0, 1) := by decide +kernel
theorem dX7_players_1 : decode cX7_players 1 = .ok (.getfield 7, 3) := by decide +kernel
theorem dX7_players_4 : decode cX7_players 4 = .ok (.bipush 56, 2) := by decide +kernel
theorem dX7_players_6 : decode cX7_players 6 = .ok (.iaload, 1) := by decide +kernel
theorem dX7_players_7 : decode cX7_players 7 = .ok (.ireturn, 1) := by decide +kernel
theorem dX7_isWindow_0 : decode cX7_isWindow 0 = .ok (.iload_n 1, 1) := by decide +kernel
theorem dX7_isWindow_1 : decode cX7_isWindow 1 = .ok (.i2l, 1) := by decide +kernel
theorem dX7_isWindow_2 : decode cX7_isWindow 2 = .ok (.lconst 0, 1) := by decide +kernel
theorem dX7_isWindow_3 : decode cX7_isWindow 3 = .ok (.aload_n 0, 1) := by decide +kernel
theorem dX7_isWindow_4 : decode cX7_isWindow 4 = .ok (.invokevirtual 56, 3) := by decide +kernel
theorem dX7_isWindow_7 : decode cX7_isWindow 7 = .ok (.iconst 1, 1) := by decide +kernel
theorem dX7_isWindow_8 : decode cX7_isWindow 8 = .ok (.isub, 1) := by decide +kernel
theorem dX7_isWindow_9 : decode cX7_isWindow 9 = .ok (.i2l, 1) := by decide +kernel
theorem dX7_isWindow_10 : decode cX7_isWindow 10 = .ok (.invokestatic 60, 3) := by decide +kernel
theorem dX7_isWindow_13 : decode cX7_isWindow 13 = .ok (.ireturn, 1) := by decide +kernel
theorem dX7_isEar_0 : decode cX7_isEar 0 = .ok (.iload_n 1, 1) := by decide +kernel
theorem dX7_isEar_1 : decode cX7_isEar 1 = .ok (.i2l, 1) := by decide +kernel
theorem dX7_isEar_2 : decode cX7_isEar 2 = .ok (.lconst 0, 1) := by decide +kernel
theorem dX7_isEar_3 : decode cX7_isEar 3 = .ok (.aload_n 0, 1) := by decide +kernel
theorem dX7_isEar_4 : decode cX7_isEar 4 = .ok (.invokevirtual 64, 3) := by decide +kernel
theorem dX7_isEar_7 : decode cX7_isEar 7 = .ok (.iconst 1, 1) := by decide +kernel
theorem dX7_isEar_8 : decode cX7_isEar 8 = .ok (.isub, 1) := by decide +kernel
theorem dX7_isEar_9 : decode cX7_isEar 9 = .ok (.i2l, 1) := by decide +kernel
theorem dX7_isEar_10 : decode cX7_isEar 10 = .ok (.invokestatic 60, 3) := by decide +kernel
theorem dX7_isEar_13 : decode cX7_isEar 13 = .ok (.ireturn, 1) := by decide +kernel
theorem dX7_isPlayer_0 : decode cX7_isPlayer 0 = .ok (.iload_n 1, 1) := by decide +kernel
theorem dX7_isPlayer_1 : decode cX7_isPlayer 1 = .ok (.i2l, 1) := by decide +kernel
theorem dX7_isPlayer_2 : decode cX7_isPlayer 2 = .ok (.lconst 0, 1) := by decide +kernel
theorem dX7_isPlayer_3 : decode cX7_isPlayer 3 = .ok (.aload_n 0, 1) := by decide +kernel
theorem dX7_isPlayer_4 : decode cX7_isPlayer 4 = .ok (.invokevirtual 67, 3) := by decide +kernel
theorem dX7_isPlayer_7 : decode cX7_isPlayer 7 = .ok (.iconst 1, 1) := by decide +kernel
theorem dX7_isPlayer_8 : decode cX7_isPlayer 8 = .ok (.isub, 1) := by decide +kernel
theorem dX7_isPlayer_9 : decode cX7_isPlayer 9 = .ok (.i2l, 1) := by decide +kernel
theorem dX7_isPlayer_10 : decode cX7_isPlayer 10 = .ok (.invokestatic 60, 3) := by decide +kernel
theorem dX7_isPlayer_13 : decode cX7_isPlayer 13 = .ok (.ireturn, 1) := by decide +kernel
theorem dX7_isPlace_0 : decode cX7_isPlace 0 = .ok (.iload_n 0, 1) := by decide +kernel
theorem dX7_isPlace_1 : decode cX7_isPlace 1 = .ok (.i2l, 1) := by decide +kernel
theorem dX7_isPlace_2 : decode cX7_isPlace 2 = .ok (.lconst 0, 1) := by decide +kernel
theorem dX7_isPlace_3 : decode cX7_isPlace 3 = .ok (.ldc2_w 70, 3) := by decide +kernel
theorem dX7_isPlace_6 : decode cX7_isPlace 6 = .ok (.invokestatic 60, 3) := by decide +kernel
theorem dX7_isPlace_9 : decode cX7_isPlace 9 = .ok (.ifCond .eq 19, 3) := by decide +kernel
theorem dX7_isPlace_12 : decode cX7_isPlace 12 = .ok (.iload_n 1, 1) := by decide +kernel
theorem dX7_isPlace_13 : decode cX7_isPlace 13 = .ok (.i2l, 1) := by decide +kernel
theorem dX7_isPlace_14 : decode cX7_isPlace 14 = .ok (.lconst 0, 1) := by decide +kernel
theorem dX7_isPlace_15 : decode cX7_isPlace 15 = .ok (.ldc2_w 70, 3) := by decide +kernel
theorem dX7_isPlace_18 : decode cX7_isPlace 18 = .ok (.invokestatic 60, 3) := by decide +kernel
theorem dX7_isPlace_21 : decode cX7_isPlace 21 = .ok (.ifCond .eq 7, 3) := by decide +kernel
theorem dX7_isPlace_24 : decode cX7_isPlace 24 = .ok (.iconst 1, 1) := by decide +kernel
theorem dX7_isPlace_25 : decode cX7_isPlace 25 = .ok (.goto 4, 3) := by decide +kernel
theorem dX7_isPlace_28 : decode cX7_isPlace 28 = .ok (.iconst 0, 1) := by decide +kernel
theorem dX7_isPlace_29 : decode cX7_isPlace 29 = .ok (.ireturn, 1) := by decide +kernel
theorem dX7_of_0 : decode cX7_of 0 = .ok (.aload_n 0, 1) := by decide +kernel
theorem dX7_of_1 : decode cX7_of 1 = .ok (.getfield 7, 3) := by decide +kernel
theorem dX7_of_4 : decode cX7_of 4 = .ok (.bipush 24, 2) := by decide +kernel
theorem dX7_of_6 : decode cX7_of 6 = .ok (.iconst 5, 1) := by decide +kernel
theorem dX7_of_7 : decode cX7_of 7 = .ok (.iload_n 1, 1) := by decide +kernel
theorem dX7_of_8 : decode cX7_of 8 = .ok (.imul, 1) := by decide +kernel
theorem dX7_of_9 : decode cX7_of 9 = .ok (.iadd, 1) := by decide +kernel
theorem dX7_of_10 : decode cX7_of 10 = .ok (.iload_n 2, 1) := by decide +kernel
theorem dX7_of_11 : decode cX7_of 11 = .ok (.iadd, 1) := by decide +kernel
theorem dX7_of_12 : decode cX7_of 12 = .ok (.iaload, 1) := by decide +kernel
theorem dX7_of_13 : decode cX7_of 13 = .ok (.ireturn, 1) := by decide +kernel
theorem dX7_window_0 : decode cX7_window 0 = .ok (.iload_n 1, 1) := by decide +kernel
theorem dX7_window_1 : decode cX7_window 1 = .ok (.iload_n 2, 1) := by decide +kernel
theorem dX7_window_2 : decode cX7_window 2 = .ok (.invokestatic 72, 3) := by decide +kernel
theorem dX7_window_5 : decode cX7_window 5 = .ok (.ifCond .ne 10, 3) := by decide +kernel
theorem dX7_window_8 : decode cX7_window 8 = .ok (.aload_n 0, 1) := by decide +kernel
theorem dX7_window_9 : decode cX7_window 9 = .ok (.bipush (-2), 2) := by decide +kernel
theorem dX7_window_11 : decode cX7_window 11 = .ok (.invokevirtual 76, 3) := by decide +kernel
theorem dX7_window_14 : decode cX7_window 14 = .ok (.ireturn, 1) := by decide +kernel
theorem dX7_window_15 : decode cX7_window 15 = .ok (.aload_n 0, 1) := by decide +kernel
theorem dX7_window_16 : decode cX7_window 16 = .ok (.invokevirtual 56, 3) := by decide +kernel
theorem dX7_window_19 : decode cX7_window 19 = .ok (.istore_n 3, 1) := by decide +kernel
theorem dX7_window_20 : decode cX7_window 20 = .ok (.iload_n 3, 1) := by decide +kernel
theorem dX7_window_21 : decode cX7_window 21 = .ok (.bipush 6, 2) := by decide +kernel
theorem dX7_window_23 : decode cX7_window 23 = .ok (.if_icmp .ne 8, 3) := by decide +kernel
theorem dX7_window_26 : decode cX7_window 26 = .ok (.aload_n 0, 1) := by decide +kernel
theorem dX7_window_27 : decode cX7_window 27 = .ok (.invokevirtual 80, 3) := by decide +kernel
theorem dX7_window_30 : decode cX7_window 30 = .ok (.ireturn, 1) := by decide +kernel
theorem dX7_window_31 : decode cX7_window 31 = .ok (.aload_n 0, 1) := by decide +kernel
theorem dX7_window_32 : decode cX7_window 32 = .ok (.getfield 7, 3) := by decide +kernel
theorem dX7_window_35 : decode cX7_window 35 = .ok (.iconst 0, 1) := by decide +kernel
theorem dX7_window_36 : decode cX7_window 36 = .ok (.iconst 2, 1) := by decide +kernel
theorem dX7_window_37 : decode cX7_window 37 = .ok (.iload_n 3, 1) := by decide +kernel
theorem dX7_window_38 : decode cX7_window 38 = .ok (.imul, 1) := by decide +kernel
theorem dX7_window_39 : decode cX7_window 39 = .ok (.iadd, 1) := by decide +kernel
theorem dX7_window_40 : decode cX7_window 40 = .ok (.iload_n 1, 1) := by decide +kernel
theorem dX7_window_41 : decode cX7_window 41 = .ok (.iastore, 1) := by decide +kernel
theorem dX7_window_42 : decode cX7_window 42 = .ok (.aload_n 0, 1) := by decide +kernel
theorem dX7_window_43 : decode cX7_window 43 = .ok (.getfield 7, 3) := by decide +kernel
theorem dX7_window_46 : decode cX7_window 46 = .ok (.iconst 0, 1) := by decide +kernel
theorem dX7_window_47 : decode cX7_window 47 = .ok (.iconst 2, 1) := by decide +kernel
theorem dX7_window_48 : decode cX7_window 48 = .ok (.iload_n 3, 1) := by decide +kernel
theorem dX7_window_49 : decode cX7_window 49 = .ok (.imul, 1) := by decide +kernel
theorem dX7_window_50 : decode cX7_window 50 = .ok (.iadd, 1) := by decide +kernel
theorem dX7_window_51 : decode cX7_window 51 = .ok (.iconst 1, 1) := by decide +kernel
theorem dX7_window_52 : decode cX7_window 52 = .ok (.iadd, 1) := by decide +kernel
theorem dX7_window_53 : decode cX7_window 53 = .ok (.iload_n 2, 1) := by decide +kernel
theorem dX7_window_54 : decode cX7_window 54 = .ok (.iastore, 1) := by decide +kernel
theorem dX7_window_55 : decode cX7_window 55 = .ok (.aload_n 0, 1) := by decide +kernel
theorem dX7_window_56 : decode cX7_window 56 = .ok (.getfield 7, 3) := by decide +kernel
theorem dX7_window_59 : decode cX7_window 59 = .ok (.bipush 54, 2) := by decide +kernel
theorem dX7_window_61 : decode cX7_window 61 = .ok (.dup2, 1) := by decide +kernel
theorem dX7_window_62 : decode cX7_window 62 = .ok (.iaload, 1) := by decide +kernel
theorem dX7_window_63 : decode cX7_window 63 = .ok (.iconst 1, 1) := by decide +kernel
theorem dX7_window_64 : decode cX7_window 64 = .ok (.iadd, 1) := by decide +kernel
theorem dX7_window_65 : decode cX7_window 65 = .ok (.iastore, 1) := by decide +kernel
theorem dX7_window_66 : decode cX7_window 66 = .ok (.iload_n 3, 1) := by decide +kernel
theorem dX7_window_67 : decode cX7_window 67 = .ok (.ireturn, 1) := by decide +kernel
theorem dX7_ear_0 : decode cX7_ear 0 = .ok (.iload_n 1, 1) := by decide +kernel
theorem dX7_ear_1 : decode cX7_ear 1 = .ok (.iload_n 2, 1) := by decide +kernel
theorem dX7_ear_2 : decode cX7_ear 2 = .ok (.invokestatic 72, 3) := by decide +kernel
theorem dX7_ear_5 : decode cX7_ear 5 = .ok (.ifCond .ne 10, 3) := by decide +kernel
theorem dX7_ear_8 : decode cX7_ear 8 = .ok (.aload_n 0, 1) := by decide +kernel
theorem dX7_ear_9 : decode cX7_ear 9 = .ok (.bipush (-2), 2) := by decide +kernel
theorem dX7_ear_11 : decode cX7_ear 11 = .ok (.invokevirtual 76, 3) := by decide +kernel
theorem dX7_ear_14 : decode cX7_ear 14 = .ok (.ireturn, 1) := by decide +kernel
theorem dX7_ear_15 : decode cX7_ear 15 = .ok (.aload_n 0, 1) := by decide +kernel
theorem dX7_ear_16 : decode cX7_ear 16 = .ok (.invokevirtual 64, 3) := by decide +kernel
theorem dX7_ear_19 : decode cX7_ear 19 = .ok (.istore_n 3, 1) := by decide +kernel
theorem dX7_ear_20 : decode cX7_ear 20 = .ok (.iload_n 3, 1) := by decide +kernel
theorem dX7_ear_21 : decode cX7_ear 21 = .ok (.iconst 3, 1) := by decide +kernel
theorem dX7_ear_22 : decode cX7_ear 22 = .ok (.if_icmp .ne 8, 3) := by decide +kernel
theorem dX7_ear_25 : decode cX7_ear 25 = .ok (.aload_n 0, 1) := by decide +kernel
theorem dX7_ear_26 : decode cX7_ear 26 = .ok (.invokevirtual 80, 3) := by decide +kernel
theorem dX7_ear_29 : decode cX7_ear 29 = .ok (.ireturn, 1) := by decide +kernel
theorem dX7_ear_30 : decode cX7_ear 30 = .ok (.aload_n 0, 1) := by decide +kernel
theorem dX7_ear_31 : decode cX7_ear 31 = .ok (.getfield 7, 3) := by decide +kernel
theorem dX7_ear_34 : decode cX7_ear 34 = .ok (.bipush 12, 2) := by decide +kernel
theorem dX7_ear_36 : decode cX7_ear 36 = .ok (.iconst 2, 1) := by decide +kernel
theorem dX7_ear_37 : decode cX7_ear 37 = .ok (.iload_n 3, 1) := by decide +kernel
theorem dX7_ear_38 : decode cX7_ear 38 = .ok (.imul, 1) := by decide +kernel
theorem dX7_ear_39 : decode cX7_ear 39 = .ok (.iadd, 1) := by decide +kernel
theorem dX7_ear_40 : decode cX7_ear 40 = .ok (.iload_n 1, 1) := by decide +kernel
theorem dX7_ear_41 : decode cX7_ear 41 = .ok (.iastore, 1) := by decide +kernel
theorem dX7_ear_42 : decode cX7_ear 42 = .ok (.aload_n 0, 1) := by decide +kernel
theorem dX7_ear_43 : decode cX7_ear 43 = .ok (.getfield 7, 3) := by decide +kernel
theorem dX7_ear_46 : decode cX7_ear 46 = .ok (.bipush 12, 2) := by decide +kernel
theorem dX7_ear_48 : decode cX7_ear 48 = .ok (.iconst 2, 1) := by decide +kernel
theorem dX7_ear_49 : decode cX7_ear 49 = .ok (.iload_n 3, 1) := by decide +kernel
theorem dX7_ear_50 : decode cX7_ear 50 = .ok (.imul, 1) := by decide +kernel
theorem dX7_ear_51 : decode cX7_ear 51 = .ok (.iadd, 1) := by decide +kernel
theorem dX7_ear_52 : decode cX7_ear 52 = .ok (.iconst 1, 1) := by decide +kernel
theorem dX7_ear_53 : decode cX7_ear 53 = .ok (.iadd, 1) := by decide +kernel
theorem dX7_ear_54 : decode cX7_ear 54 = .ok (.iload_n 2, 1) := by decide +kernel
theorem dX7_ear_55 : decode cX7_ear 55 = .ok (.iastore, 1) := by decide +kernel
theorem dX7_ear_56 : decode cX7_ear 56 = .ok (.aload_n 0, 1) := by decide +kernel
theorem dX7_ear_57 : decode cX7_ear 57 = .ok (.getfield 7, 3) := by decide +kernel
theorem dX7_ear_60 : decode cX7_ear 60 = .ok (.bipush 55, 2) := by decide +kernel
theorem dX7_ear_62 : decode cX7_ear 62 = .ok (.dup2, 1) := by decide +kernel
theorem dX7_ear_63 : decode cX7_ear 63 = .ok (.iaload, 1) := by decide +kernel
theorem dX7_ear_64 : decode cX7_ear 64 = .ok (.iconst 1, 1) := by decide +kernel
theorem dX7_ear_65 : decode cX7_ear 65 = .ok (.iadd, 1) := by decide +kernel
theorem dX7_ear_66 : decode cX7_ear 66 = .ok (.iastore, 1) := by decide +kernel
theorem dX7_ear_67 : decode cX7_ear 67 = .ok (.iload_n 3, 1) := by decide +kernel
theorem dX7_ear_68 : decode cX7_ear 68 = .ok (.ireturn, 1) := by decide +kernel
theorem dX7_mill_0 : decode cX7_mill 0 = .ok (.iload_n 1, 1) := by decide +kernel
theorem dX7_mill_1 : decode cX7_mill 1 = .ok (.iload_n 2, 1) := by decide +kernel
theorem dX7_mill_2 : decode cX7_mill 2 = .ok (.invokestatic 72, 3) := by decide +kernel
theorem dX7_mill_5 : decode cX7_mill 5 = .ok (.ifCond .ne 10, 3) := by decide +kernel
theorem dX7_mill_8 : decode cX7_mill 8 = .ok (.aload_n 0, 1) := by decide +kernel
theorem dX7_mill_9 : decode cX7_mill 9 = .ok (.bipush (-2), 2) := by decide +kernel
theorem dX7_mill_11 : decode cX7_mill 11 = .ok (.invokevirtual 76, 3) := by decide +kernel
theorem dX7_mill_14 : decode cX7_mill 14 = .ok (.ireturn, 1) := by decide +kernel
theorem dX7_mill_15 : decode cX7_mill 15 = .ok (.aload_n 0, 1) := by decide +kernel
theorem dX7_mill_16 : decode cX7_mill 16 = .ok (.getfield 7, 3) := by decide +kernel
theorem dX7_mill_19 : decode cX7_mill 19 = .ok (.bipush 18, 2) := by decide +kernel
theorem dX7_mill_21 : decode cX7_mill 21 = .ok (.iload_n 1, 1) := by decide +kernel
theorem dX7_mill_22 : decode cX7_mill 22 = .ok (.iastore, 1) := by decide +kernel
theorem dX7_mill_23 : decode cX7_mill 23 = .ok (.aload_n 0, 1) := by decide +kernel
theorem dX7_mill_24 : decode cX7_mill 24 = .ok (.getfield 7, 3) := by decide +kernel
theorem dX7_mill_27 : decode cX7_mill 27 = .ok (.bipush 19, 2) := by decide +kernel
theorem dX7_mill_29 : decode cX7_mill 29 = .ok (.iload_n 2, 1) := by decide +kernel
theorem dX7_mill_30 : decode cX7_mill 30 = .ok (.iastore, 1) := by decide +kernel
theorem dX7_mill_31 : decode cX7_mill 31 = .ok (.iconst 1, 1) := by decide +kernel
theorem dX7_mill_32 : decode cX7_mill 32 = .ok (.ireturn, 1) := by decide +kernel
theorem dX7_isNumber_0 : decode cX7_isNumber 0 = .ok (.iload_n 0, 1) := by decide +kernel
theorem dX7_isNumber_1 : decode cX7_isNumber 1 = .ok (.tableswitch 49 0 2 #[27, 37, 37], 27) := by decide +kernel
theorem dX7_isNumber_28 : decode cX7_isNumber 28 = .ok (.iload_n 1, 1) := by decide +kernel
theorem dX7_isNumber_29 : decode cX7_isNumber 29 = .ok (.i2l, 1) := by decide +kernel
theorem dX7_isNumber_30 : decode cX7_isNumber 30 = .ok (.lconst 1, 1) := by decide +kernel
theorem dX7_isNumber_31 : decode cX7_isNumber 31 = .ok (.ldc2_w 83, 3) := by decide +kernel
theorem dX7_isNumber_34 : decode cX7_isNumber 34 = .ok (.invokestatic 60, 3) := by decide +kernel
theorem dX7_isNumber_37 : decode cX7_isNumber 37 = .ok (.ireturn, 1) := by decide +kernel
theorem dX7_isNumber_38 : decode cX7_isNumber 38 = .ok (.iload_n 1, 1) := by decide +kernel
theorem dX7_isNumber_39 : decode cX7_isNumber 39 = .ok (.i2l, 1) := by decide +kernel
theorem dX7_isNumber_40 : decode cX7_isNumber 40 = .ok (.ldc2_w 85, 3) := by decide +kernel
theorem dX7_isNumber_43 : decode cX7_isNumber 43 = .ok (.ldc2_w 87, 3) := by decide +kernel
theorem dX7_isNumber_46 : decode cX7_isNumber 46 = .ok (.invokestatic 60, 3) := by decide +kernel
theorem dX7_isNumber_49 : decode cX7_isNumber 49 = .ok (.ireturn, 1) := by decide +kernel
theorem dX7_isNumber_50 : decode cX7_isNumber 50 = .ok (.iload_n 0, 1) := by decide +kernel
theorem dX7_isNumber_51 : decode cX7_isNumber 51 = .ok (.iconst 3, 1) := by decide +kernel
theorem dX7_isNumber_52 : decode cX7_isNumber 52 = .ok (.if_icmp .ne 19, 3) := by decide +kernel
theorem dX7_isNumber_55 : decode cX7_isNumber 55 = .ok (.iload_n 1, 1) := by decide +kernel
theorem dX7_isNumber_56 : decode cX7_isNumber 56 = .ok (.i2l, 1) := by decide +kernel
theorem dX7_isNumber_57 : decode cX7_isNumber 57 = .ok (.lconst 0, 1) := by decide +kernel
theorem dX7_isNumber_58 : decode cX7_isNumber 58 = .ok (.ldc2_w 89, 3) := by decide +kernel
theorem dX7_isNumber_61 : decode cX7_isNumber 61 = .ok (.invokestatic 60, 3) := by decide +kernel
theorem dX7_isNumber_64 : decode cX7_isNumber 64 = .ok (.ifCond .eq 7, 3) := by decide +kernel
theorem dX7_isNumber_67 : decode cX7_isNumber 67 = .ok (.iconst 1, 1) := by decide +kernel
theorem dX7_isNumber_68 : decode cX7_isNumber 68 = .ok (.goto 4, 3) := by decide +kernel
theorem dX7_isNumber_71 : decode cX7_isNumber 71 = .ok (.iconst 0, 1) := by decide +kernel
theorem dX7_isNumber_72 : decode cX7_isNumber 72 = .ok (.ireturn, 1) := by decide +kernel
theorem dX7_put_0 : decode cX7_put 0 = .ok (.iload_n 1, 1) := by decide +kernel
theorem dX7_put_1 : decode cX7_put 1 = .ok (.iload_n 2, 1) := by decide +kernel
theorem dX7_put_2 : decode cX7_put 2 = .ok (.invokestatic 91, 3) := by decide +kernel
theorem dX7_put_5 : decode cX7_put 5 = .ok (.ifCond .ne 10, 3) := by decide +kernel
theorem dX7_put_8 : decode cX7_put 8 = .ok (.aload_n 0, 1) := by decide +kernel
theorem dX7_put_9 : decode cX7_put 9 = .ok (.bipush (-10), 2) := by decide +kernel
theorem dX7_put_11 : decode cX7_put 11 = .ok (.invokevirtual 76, 3) := by decide +kernel
theorem dX7_put_14 : decode cX7_put 14 = .ok (.ireturn, 1) := by decide +kernel
theorem dX7_put_15 : decode cX7_put 15 = .ok (.aload_n 0, 1) := by decide +kernel
theorem dX7_put_16 : decode cX7_put 16 = .ok (.getfield 7, 3) := by decide +kernel
theorem dX7_put_19 : decode cX7_put 19 = .ok (.bipush 20, 2) := by decide +kernel
theorem dX7_put_21 : decode cX7_put 21 = .ok (.iload_n 1, 1) := by decide +kernel
theorem dX7_put_22 : decode cX7_put 22 = .ok (.iadd, 1) := by decide +kernel
theorem dX7_put_23 : decode cX7_put 23 = .ok (.iaload, 1) := by decide +kernel
theorem dX7_put_24 : decode cX7_put 24 = .ok (.istore_n 3, 1) := by decide +kernel
theorem dX7_put_25 : decode cX7_put 25 = .ok (.aload_n 0, 1) := by decide +kernel
theorem dX7_put_26 : decode cX7_put 26 = .ok (.getfield 7, 3) := by decide +kernel
theorem dX7_put_29 : decode cX7_put 29 = .ok (.bipush 20, 2) := by decide +kernel
theorem dX7_put_31 : decode cX7_put 31 = .ok (.iload_n 1, 1) := by decide +kernel
theorem dX7_put_32 : decode cX7_put 32 = .ok (.iadd, 1) := by decide +kernel
theorem dX7_put_33 : decode cX7_put 33 = .ok (.iload_n 2, 1) := by decide +kernel
theorem dX7_put_34 : decode cX7_put 34 = .ok (.iastore, 1) := by decide +kernel
theorem dX7_put_35 : decode cX7_put 35 = .ok (.iload_n 3, 1) := by decide +kernel
theorem dX7_put_36 : decode cX7_put 36 = .ok (.ireturn, 1) := by decide +kernel
theorem dX7_isTaken_0 : decode cX7_isTaken 0 = .ok (.iconst 0, 1) := by decide +kernel
theorem dX7_isTaken_1 : decode cX7_isTaken 1 = .ok (.istore_n 2, 1) := by decide +kernel
theorem dX7_isTaken_2 : decode cX7_isTaken 2 = .ok (.iconst 0, 1) := by decide +kernel
theorem dX7_isTaken_3 : decode cX7_isTaken 3 = .ok (.istore_n 3, 1) := by decide +kernel
theorem dX7_isTaken_4 : decode cX7_isTaken 4 = .ok (.iload_n 3, 1) := by decide +kernel
theorem dX7_isTaken_5 : decode cX7_isTaken 5 = .ok (.aload_n 0, 1) := by decide +kernel
theorem dX7_isTaken_6 : decode cX7_isTaken 6 = .ok (.invokevirtual 67, 3) := by decide +kernel
theorem dX7_isTaken_9 : decode cX7_isTaken 9 = .ok (.if_icmp .ge 29, 3) := by decide +kernel
theorem dX7_isTaken_12 : decode cX7_isTaken 12 = .ok (.iload_n 2, 1) := by decide +kernel
theorem dX7_isTaken_13 : decode cX7_isTaken 13 = .ok (.ifCond .ne 13, 3) := by decide +kernel
theorem dX7_isTaken_16 : decode cX7_isTaken 16 = .ok (.aload_n 0, 1) := by decide +kernel
theorem dX7_isTaken_17 : decode cX7_isTaken 17 = .ok (.iload_n 3, 1) := by decide +kernel
theorem dX7_isTaken_18 : decode cX7_isTaken 18 = .ok (.iconst 1, 1) := by decide +kernel
theorem dX7_isTaken_19 : decode cX7_isTaken 19 = .ok (.invokevirtual 94, 3) := by decide +kernel
theorem dX7_isTaken_22 : decode cX7_isTaken 22 = .ok (.iload_n 1, 1) := by decide +kernel
theorem dX7_isTaken_23 : decode cX7_isTaken 23 = .ok (.if_icmp .ne 7, 3) := by decide +kernel
theorem dX7_isTaken_26 : decode cX7_isTaken 26 = .ok (.iconst 1, 1) := by decide +kernel
theorem dX7_isTaken_27 : decode cX7_isTaken 27 = .ok (.goto 4, 3) := by decide +kernel
theorem dX7_isTaken_30 : decode cX7_isTaken 30 = .ok (.iconst 0, 1) := by decide +kernel
theorem dX7_isTaken_31 : decode cX7_isTaken 31 = .ok (.istore_n 2, 1) := by decide +kernel
theorem dX7_isTaken_32 : decode cX7_isTaken 32 = .ok (.iinc 3 1, 3) := by decide +kernel
theorem dX7_isTaken_35 : decode cX7_isTaken 35 = .ok (.goto (-31), 3) := by decide +kernel
theorem dX7_isTaken_38 : decode cX7_isTaken 38 = .ok (.iload_n 2, 1) := by decide +kernel
theorem dX7_isTaken_39 : decode cX7_isTaken 39 = .ok (.ireturn, 1) := by decide +kernel
theorem dX7_layPlayer_0 : decode cX7_layPlayer 0 = .ok (.aload_n 0, 1) := by decide +kernel
theorem dX7_layPlayer_1 : decode cX7_layPlayer 1 = .ok (.iload_n 1, 1) := by decide +kernel
theorem dX7_layPlayer_2 : decode cX7_layPlayer 2 = .ok (.iconst 0, 1) := by decide +kernel
theorem dX7_layPlayer_3 : decode cX7_layPlayer 3 = .ok (.iadd, 1) := by decide +kernel
theorem dX7_layPlayer_4 : decode cX7_layPlayer 4 = .ok (.iload_n 2, 1) := by decide +kernel
theorem dX7_layPlayer_5 : decode cX7_layPlayer 5 = .ok (.iastore, 1) := by decide +kernel
theorem dX7_layPlayer_6 : decode cX7_layPlayer 6 = .ok (.aload_n 0, 1) := by decide +kernel
theorem dX7_layPlayer_7 : decode cX7_layPlayer 7 = .ok (.iload_n 1, 1) := by decide +kernel
theorem dX7_layPlayer_8 : decode cX7_layPlayer 8 = .ok (.iconst 1, 1) := by decide +kernel
theorem dX7_layPlayer_9 : decode cX7_layPlayer 9 = .ok (.iadd, 1) := by decide +kernel
theorem dX7_layPlayer_10 : decode cX7_layPlayer 10 = .ok (.iload_n 3, 1) := by decide +kernel
theorem dX7_layPlayer_11 : decode cX7_layPlayer 11 = .ok (.iastore, 1) := by decide +kernel
theorem dX7_layPlayer_12 : decode cX7_layPlayer 12 = .ok (.aload_n 0, 1) := by decide +kernel
theorem dX7_layPlayer_13 : decode cX7_layPlayer 13 = .ok (.iload_n 1, 1) := by decide +kernel
theorem dX7_layPlayer_14 : decode cX7_layPlayer 14 = .ok (.iconst 2, 1) := by decide +kernel
theorem dX7_layPlayer_15 : decode cX7_layPlayer 15 = .ok (.iadd, 1) := by decide +kernel
theorem dX7_layPlayer_16 : decode cX7_layPlayer 16 = .ok (.iload 4, 2) := by decide +kernel
theorem dX7_layPlayer_18 : decode cX7_layPlayer 18 = .ok (.iastore, 1) := by decide +kernel
theorem dX7_layPlayer_19 : decode cX7_layPlayer 19 = .ok (.aload_n 0, 1) := by decide +kernel
theorem dX7_layPlayer_20 : decode cX7_layPlayer 20 = .ok (.iload_n 1, 1) := by decide +kernel
theorem dX7_layPlayer_21 : decode cX7_layPlayer 21 = .ok (.iconst 3, 1) := by decide +kernel
theorem dX7_layPlayer_22 : decode cX7_layPlayer 22 = .ok (.iadd, 1) := by decide +kernel
theorem dX7_layPlayer_23 : decode cX7_layPlayer 23 = .ok (.iconst 0, 1) := by decide +kernel
theorem dX7_layPlayer_24 : decode cX7_layPlayer 24 = .ok (.iastore, 1) := by decide +kernel
theorem dX7_layPlayer_25 : decode cX7_layPlayer 25 = .ok (.aload_n 0, 1) := by decide +kernel
theorem dX7_layPlayer_26 : decode cX7_layPlayer 26 = .ok (.iload_n 1, 1) := by decide +kernel
theorem dX7_layPlayer_27 : decode cX7_layPlayer 27 = .ok (.iconst 4, 1) := by decide +kernel
theorem dX7_layPlayer_28 : decode cX7_layPlayer 28 = .ok (.iadd, 1) := by decide +kernel
theorem dX7_layPlayer_29 : decode cX7_layPlayer 29 = .ok (.iload 5, 2) := by decide +kernel
theorem dX7_layPlayer_31 : decode cX7_layPlayer 31 = .ok (.iastore, 1) := by decide +kernel
theorem dX7_layPlayer_32 : decode cX7_layPlayer 32 = .ok (.return_, 1) := by decide +kernel
theorem dX7_player_0 : decode cX7_player 0 = .ok (.iload_n 1, 1) := by decide +kernel
theorem dX7_player_1 : decode cX7_player 1 = .ok (.i2l, 1) := by decide +kernel
theorem dX7_player_2 : decode cX7_player 2 = .ok (.lconst 0, 1) := by decide +kernel
theorem dX7_player_3 : decode cX7_player 3 = .ok (.ldc2_w 98, 3) := by decide +kernel
theorem dX7_player_6 : decode cX7_player 6 = .ok (.invokestatic 60, 3) := by decide +kernel
theorem dX7_player_9 : decode cX7_player 9 = .ok (.ifCond .eq 31, 3) := by decide +kernel
theorem dX7_player_12 : decode cX7_player 12 = .ok (.aload_n 0, 1) := by decide +kernel
theorem dX7_player_13 : decode cX7_player 13 = .ok (.iload_n 2, 1) := by decide +kernel
theorem dX7_player_14 : decode cX7_player 14 = .ok (.invokevirtual 100, 3) := by decide +kernel
theorem dX7_player_17 : decode cX7_player 17 = .ok (.ifCond .eq 23, 3) := by decide +kernel
theorem dX7_player_20 : decode cX7_player 20 = .ok (.iload_n 3, 1) := by decide +kernel
theorem dX7_player_21 : decode cX7_player 21 = .ok (.i2l, 1) := by decide +kernel
theorem dX7_player_22 : decode cX7_player 22 = .ok (.lconst 1, 1) := by decide +kernel
theorem dX7_player_23 : decode cX7_player 23 = .ok (.ldc2_w 70, 3) := by decide +kernel
theorem dX7_player_26 : decode cX7_player 26 = .ok (.invokestatic 60, 3) := by decide +kernel
theorem dX7_player_29 : decode cX7_player 29 = .ok (.ifCond .eq 11, 3) := by decide +kernel
theorem dX7_player_32 : decode cX7_player 32 = .ok (.aload_n 0, 1) := by decide +kernel
theorem dX7_player_33 : decode cX7_player 33 = .ok (.iload_n 2, 1) := by decide +kernel
theorem dX7_player_34 : decode cX7_player 34 = .ok (.invokevirtual 104, 3) := by decide +kernel
theorem dX7_player_37 : decode cX7_player 37 = .ok (.ifCond .eq 10, 3) := by decide +kernel
theorem dX7_player_40 : decode cX7_player 40 = .ok (.aload_n 0, 1) := by decide +kernel
theorem dX7_player_41 : decode cX7_player 41 = .ok (.bipush (-2), 2) := by decide +kernel
theorem dX7_player_43 : decode cX7_player 43 = .ok (.invokevirtual 76, 3) := by decide +kernel
theorem dX7_player_46 : decode cX7_player 46 = .ok (.ireturn, 1) := by decide +kernel
theorem dX7_player_47 : decode cX7_player 47 = .ok (.aload_n 0, 1) := by decide +kernel
theorem dX7_player_48 : decode cX7_player 48 = .ok (.invokevirtual 67, 3) := by decide +kernel
theorem dX7_player_51 : decode cX7_player 51 = .ok (.istore 4, 2) := by decide +kernel
theorem dX7_player_53 : decode cX7_player 53 = .ok (.iload 4, 2) := by decide +kernel
theorem dX7_player_55 : decode cX7_player 55 = .ok (.bipush 6, 2) := by decide +kernel
theorem dX7_player_57 : decode cX7_player 57 = .ok (.if_icmp .ne 8, 3) := by decide +kernel
theorem dX7_player_60 : decode cX7_player 60 = .ok (.aload_n 0, 1) := by decide +kernel
theorem dX7_player_61 : decode cX7_player 61 = .ok (.invokevirtual 80, 3) := by decide +kernel
theorem dX7_player_64 : decode cX7_player 64 = .ok (.ireturn, 1) := by decide +kernel
theorem dX7_player_65 : decode cX7_player 65 = .ok (.aload_n 0, 1) := by decide +kernel
theorem dX7_player_66 : decode cX7_player 66 = .ok (.getfield 7, 3) := by decide +kernel
theorem dX7_player_69 : decode cX7_player 69 = .ok (.bipush 24, 2) := by decide +kernel
theorem dX7_player_71 : decode cX7_player 71 = .ok (.iconst 5, 1) := by decide +kernel
theorem dX7_player_72 : decode cX7_player 72 = .ok (.iload 4, 2) := by decide +kernel
theorem dX7_player_74 : decode cX7_player 74 = .ok (.imul, 1) := by decide +kernel
theorem dX7_player_75 : decode cX7_player 75 = .ok (.iadd, 1) := by decide +kernel
theorem dX7_player_76 : decode cX7_player 76 = .ok (.iload_n 1, 1) := by decide +kernel
theorem dX7_player_77 : decode cX7_player 77 = .ok (.iload_n 2, 1) := by decide +kernel
theorem dX7_player_78 : decode cX7_player 78 = .ok (.iload_n 3, 1) := by decide +kernel
theorem dX7_player_79 : decode cX7_player 79 = .ok (.iload 4, 2) := by decide +kernel
theorem dX7_player_81 : decode cX7_player 81 = .ok (.invokestatic 107, 3) := by decide +kernel
theorem dX7_player_84 : decode cX7_player 84 = .ok (.aload_n 0, 1) := by decide +kernel
theorem dX7_player_85 : decode cX7_player 85 = .ok (.getfield 7, 3) := by decide +kernel
theorem dX7_player_88 : decode cX7_player 88 = .ok (.bipush 56, 2) := by decide +kernel
theorem dX7_player_90 : decode cX7_player 90 = .ok (.dup2, 1) := by decide +kernel
theorem dX7_player_91 : decode cX7_player 91 = .ok (.iaload, 1) := by decide +kernel
theorem dX7_player_92 : decode cX7_player 92 = .ok (.iconst 1, 1) := by decide +kernel
theorem dX7_player_93 : decode cX7_player 93 = .ok (.iadd, 1) := by decide +kernel
theorem dX7_player_94 : decode cX7_player 94 = .ok (.iastore, 1) := by decide +kernel
theorem dX7_player_95 : decode cX7_player 95 = .ok (.aload_n 0, 1) := by decide +kernel
theorem dX7_player_96 : decode cX7_player 96 = .ok (.getfield 7, 3) := by decide +kernel
theorem dX7_player_99 : decode cX7_player 99 = .ok (.bipush 57, 2) := by decide +kernel
theorem dX7_player_101 : decode cX7_player 101 = .ok (.iconst 0, 1) := by decide +kernel
theorem dX7_player_102 : decode cX7_player 102 = .ok (.iastore, 1) := by decide +kernel
theorem dX7_player_103 : decode cX7_player 103 = .ok (.iload 4, 2) := by decide +kernel
theorem dX7_player_105 : decode cX7_player 105 = .ok (.ireturn, 1) := by decide +kernel
theorem dX7_isOffset_0 : decode cX7_isOffset 0 = .ok (.iload_n 0, 1) := by decide +kernel
theorem dX7_isOffset_1 : decode cX7_isOffset 1 = .ok (.i2l, 1) := by decide +kernel
theorem dX7_isOffset_2 : decode cX7_isOffset 2 = .ok (.ldc2_w 111, 3) := by decide +kernel
theorem dX7_isOffset_5 : decode cX7_isOffset 5 = .ok (.ldc2_w 113, 3) := by decide +kernel
theorem dX7_isOffset_8 : decode cX7_isOffset 8 = .ok (.invokestatic 60, 3) := by decide +kernel
theorem dX7_isOffset_11 : decode cX7_isOffset 11 = .ok (.ireturn, 1) := by decide +kernel
theorem dX7_offset_0 : decode cX7_offset 0 = .ok (.aload_n 0, 1) := by decide +kernel
theorem dX7_offset_1 : decode cX7_offset 1 = .ok (.iload_n 1, 1) := by decide +kernel
theorem dX7_offset_2 : decode cX7_offset 2 = .ok (.invokevirtual 115, 3) := by decide +kernel
theorem dX7_offset_5 : decode cX7_offset 5 = .ok (.ifCond .eq 10, 3) := by decide +kernel
theorem dX7_offset_8 : decode cX7_offset 8 = .ok (.iload_n 2, 1) := by decide +kernel
theorem dX7_offset_9 : decode cX7_offset 9 = .ok (.invokestatic 118, 3) := by decide +kernel
theorem dX7_offset_12 : decode cX7_offset 12 = .ok (.ifCond .ne 11, 3) := by decide +kernel
theorem dX7_offset_15 : decode cX7_offset 15 = .ok (.aload_n 0, 1) := by decide +kernel
theorem dX7_offset_16 : decode cX7_offset 16 = .ok (.sipush (-1000), 3) := by decide +kernel
theorem dX7_offset_19 : decode cX7_offset 19 = .ok (.invokevirtual 76, 3) := by decide +kernel
theorem dX7_offset_22 : decode cX7_offset 22 = .ok (.ireturn, 1) := by decide +kernel
theorem dX7_offset_23 : decode cX7_offset 23 = .ok (.aload_n 0, 1) := by decide +kernel
theorem dX7_offset_24 : decode cX7_offset 24 = .ok (.iload_n 1, 1) := by decide +kernel
theorem dX7_offset_25 : decode cX7_offset 25 = .ok (.iconst 3, 1) := by decide +kernel
theorem dX7_offset_26 : decode cX7_offset 26 = .ok (.invokevirtual 94, 3) := by decide +kernel
theorem dX7_offset_29 : decode cX7_offset 29 = .ok (.istore_n 3, 1) := by decide +kernel
theorem dX7_offset_30 : decode cX7_offset 30 = .ok (.aload_n 0, 1) := by decide +kernel
theorem dX7_offset_31 : decode cX7_offset 31 = .ok (.getfield 7, 3) := by decide +kernel
theorem dX7_offset_34 : decode cX7_offset 34 = .ok (.bipush 24, 2) := by decide +kernel
theorem dX7_offset_36 : decode cX7_offset 36 = .ok (.iconst 5, 1) := by decide +kernel
theorem dX7_offset_37 : decode cX7_offset 37 = .ok (.iload_n 1, 1) := by decide +kernel
theorem dX7_offset_38 : decode cX7_offset 38 = .ok (.imul, 1) := by decide +kernel
theorem dX7_offset_39 : decode cX7_offset 39 = .ok (.iadd, 1) := by decide +kernel
theorem dX7_offset_40 : decode cX7_offset 40 = .ok (.iconst 3, 1) := by decide +kernel
theorem dX7_offset_41 : decode cX7_offset 41 = .ok (.iadd, 1) := by decide +kernel
theorem dX7_offset_42 : decode cX7_offset 42 = .ok (.iload_n 2, 1) := by decide +kernel
theorem dX7_offset_43 : decode cX7_offset 43 = .ok (.iastore, 1) := by decide +kernel
theorem dX7_offset_44 : decode cX7_offset 44 = .ok (.iload_n 3, 1) := by decide +kernel
theorem dX7_offset_45 : decode cX7_offset 45 = .ok (.ireturn, 1) := by decide +kernel
theorem dX7_lateBy_0 : decode cX7_lateBy 0 = .ok (.iload_n 0, 1) := by decide +kernel
theorem dX7_lateBy_1 : decode cX7_lateBy 1 = .ok (.iconst 1, 1) := by decide +kernel
theorem dX7_lateBy_2 : decode cX7_lateBy 2 = .ok (.if_icmp .ne 10, 3) := by decide +kernel
theorem dX7_lateBy_5 : decode cX7_lateBy 5 = .ok (.iload_n 1, 1) := by decide +kernel
theorem dX7_lateBy_6 : decode cX7_lateBy 6 = .ok (.bipush 20, 2) := by decide +kernel
theorem dX7_lateBy_8 : decode cX7_lateBy 8 = .ok (.isub, 1) := by decide +kernel
theorem dX7_lateBy_9 : decode cX7_lateBy 9 = .ok (.goto 19, 3) := by decide +kernel
theorem dX7_lateBy_12 : decode cX7_lateBy 12 = .ok (.iload_n 0, 1) := by decide +kernel
theorem dX7_lateBy_13 : decode cX7_lateBy 13 = .ok (.iconst 3, 1) := by decide +kernel
theorem dX7_lateBy_14 : decode cX7_lateBy 14 = .ok (.if_icmp .ne 13, 3) := by decide +kernel
theorem dX7_lateBy_17 : decode cX7_lateBy 17 = .ok (.iload_n 1, 1) := by decide +kernel
theorem dX7_lateBy_18 : decode cX7_lateBy 18 = .ok (.bipush 10, 2) := by decide +kernel
theorem dX7_lateBy_20 : decode cX7_lateBy 20 = .ok (.idiv, 1) := by decide +kernel
theorem dX7_lateBy_21 : decode cX7_lateBy 21 = .ok (.bipush 10, 2) := by decide +kernel
theorem dX7_lateBy_23 : decode cX7_lateBy 23 = .ok (.imul, 1) := by decide +kernel
theorem dX7_lateBy_24 : decode cX7_lateBy 24 = .ok (.goto 4, 3) := by decide +kernel
theorem dX7_lateBy_27 : decode cX7_lateBy 27 = .ok (.iload_n 1, 1) := by decide +kernel
theorem dX7_lateBy_28 : decode cX7_lateBy 28 = .ok (.ireturn, 1) := by decide +kernel
theorem dX7_lateOf_0 : decode cX7_lateOf 0 = .ok (.aload_n 0, 1) := by decide +kernel
theorem dX7_lateOf_1 : decode cX7_lateOf 1 = .ok (.iload_n 1, 1) := by decide +kernel
theorem dX7_lateOf_2 : decode cX7_lateOf 2 = .ok (.iconst 0, 1) := by decide +kernel
theorem dX7_lateOf_3 : decode cX7_lateOf 3 = .ok (.invokevirtual 94, 3) := by decide +kernel
theorem dX7_lateOf_6 : decode cX7_lateOf 6 = .ok (.aload_n 0, 1) := by decide +kernel
theorem dX7_lateOf_7 : decode cX7_lateOf 7 = .ok (.iload_n 1, 1) := by decide +kernel
theorem dX7_lateOf_8 : decode cX7_lateOf 8 = .ok (.iconst 3, 1) := by decide +kernel
theorem dX7_lateOf_9 : decode cX7_lateOf 9 = .ok (.invokevirtual 94, 3) := by decide +kernel
theorem dX7_lateOf_12 : decode cX7_lateOf 12 = .ok (.invokestatic 121, 3) := by decide +kernel
theorem dX7_lateOf_15 : decode cX7_lateOf 15 = .ok (.ireturn, 1) := by decide +kernel
theorem dX7_late_0 : decode cX7_late 0 = .ok (.aload_n 0, 1) := by decide +kernel
theorem dX7_late_1 : decode cX7_late 1 = .ok (.iload_n 1, 1) := by decide +kernel
theorem dX7_late_2 : decode cX7_late 2 = .ok (.invokevirtual 115, 3) := by decide +kernel
theorem dX7_late_5 : decode cX7_late 5 = .ok (.ifCond .eq 13, 3) := by decide +kernel
theorem dX7_late_8 : decode cX7_late 8 = .ok (.iload_n 2, 1) := by decide +kernel
theorem dX7_late_9 : decode cX7_late 9 = .ok (.i2l, 1) := by decide +kernel
theorem dX7_late_10 : decode cX7_late 10 = .ok (.lconst 0, 1) := by decide +kernel
theorem dX7_late_11 : decode cX7_late 11 = .ok (.lconst 1, 1) := by decide +kernel
theorem dX7_late_12 : decode cX7_late 12 = .ok (.invokestatic 60, 3) := by decide +kernel
theorem dX7_late_15 : decode cX7_late 15 = .ok (.ifCond .ne 11, 3) := by decide +kernel
theorem dX7_late_18 : decode cX7_late 18 = .ok (.aload_n 0, 1) := by decide +kernel
theorem dX7_late_19 : decode cX7_late 19 = .ok (.sipush (-1000), 3) := by decide +kernel
theorem dX7_late_22 : decode cX7_late 22 = .ok (.invokevirtual 76, 3) := by decide +kernel
theorem dX7_late_25 : decode cX7_late 25 = .ok (.ireturn, 1) := by decide +kernel
theorem dX7_late_26 : decode cX7_late 26 = .ok (.iload_n 2, 1) := by decide +kernel
theorem dX7_late_27 : decode cX7_late 27 = .ok (.ifCond .ne 12, 3) := by decide +kernel
theorem dX7_late_30 : decode cX7_late 30 = .ok (.aload_n 0, 1) := by decide +kernel
theorem dX7_late_31 : decode cX7_late 31 = .ok (.iload_n 1, 1) := by decide +kernel
theorem dX7_late_32 : decode cX7_late 32 = .ok (.iconst 3, 1) := by decide +kernel
theorem dX7_late_33 : decode cX7_late 33 = .ok (.invokevirtual 94, 3) := by decide +kernel
theorem dX7_late_36 : decode cX7_late 36 = .ok (.goto 8, 3) := by decide +kernel
theorem dX7_late_39 : decode cX7_late 39 = .ok (.aload_n 0, 1) := by decide +kernel
theorem dX7_late_40 : decode cX7_late 40 = .ok (.iload_n 1, 1) := by decide +kernel
theorem dX7_late_41 : decode cX7_late 41 = .ok (.invokevirtual 124, 3) := by decide +kernel
theorem dX7_late_44 : decode cX7_late 44 = .ok (.ireturn, 1) := by decide +kernel
theorem dX7_far_0 : decode cX7_far 0 = .ok (.iload_n 0, 1) := by decide +kernel
theorem dX7_far_1 : decode cX7_far 1 = .ok (.iload_n 1, 1) := by decide +kernel
theorem dX7_far_2 : decode cX7_far 2 = .ok (.if_icmp .le 9, 3) := by decide +kernel
theorem dX7_far_5 : decode cX7_far 5 = .ok (.iload_n 0, 1) := by decide +kernel
theorem dX7_far_6 : decode cX7_far 6 = .ok (.iload_n 1, 1) := by decide +kernel
theorem dX7_far_7 : decode cX7_far 7 = .ok (.isub, 1) := by decide +kernel
theorem dX7_far_8 : decode cX7_far 8 = .ok (.goto 6, 3) := by decide +kernel
theorem dX7_far_11 : decode cX7_far 11 = .ok (.iload_n 1, 1) := by decide +kernel
theorem dX7_far_12 : decode cX7_far 12 = .ok (.iload_n 0, 1) := by decide +kernel
theorem dX7_far_13 : decode cX7_far 13 = .ok (.isub, 1) := by decide +kernel
theorem dX7_far_14 : decode cX7_far 14 = .ok (.ireturn, 1) := by decide +kernel
theorem dX7_paces_0 : decode cX7_paces 0 = .ok (.aload_n 0, 1) := by decide +kernel
theorem dX7_paces_1 : decode cX7_paces 1 = .ok (.getfield 7, 3) := by decide +kernel
theorem dX7_paces_4 : decode cX7_paces 4 = .ok (.iload_n 1, 1) := by decide +kernel
theorem dX7_paces_5 : decode cX7_paces 5 = .ok (.iaload, 1) := by decide +kernel
theorem dX7_paces_6 : decode cX7_paces 6 = .ok (.aload_n 0, 1) := by decide +kernel
theorem dX7_paces_7 : decode cX7_paces 7 = .ok (.getfield 7, 3) := by decide +kernel
theorem dX7_paces_10 : decode cX7_paces 10 = .ok (.iload_n 2, 1) := by decide +kernel
theorem dX7_paces_11 : decode cX7_paces 11 = .ok (.iaload, 1) := by decide +kernel
theorem dX7_paces_12 : decode cX7_paces 12 = .ok (.invokestatic 127, 3) := by decide +kernel
theorem dX7_paces_15 : decode cX7_paces 15 = .ok (.aload_n 0, 1) := by decide +kernel
theorem dX7_paces_16 : decode cX7_paces 16 = .ok (.getfield 7, 3) := by decide +kernel
theorem dX7_paces_19 : decode cX7_paces 19 = .ok (.iload_n 1, 1) := by decide +kernel
theorem dX7_paces_20 : decode cX7_paces 20 = .ok (.iconst 1, 1) := by decide +kernel
theorem dX7_paces_21 : decode cX7_paces 21 = .ok (.iadd, 1) := by decide +kernel
theorem dX7_paces_22 : decode cX7_paces 22 = .ok (.iaload, 1) := by decide +kernel
theorem dX7_paces_23 : decode cX7_paces 23 = .ok (.aload_n 0, 1) := by decide +kernel
theorem dX7_paces_24 : decode cX7_paces 24 = .ok (.getfield 7, 3) := by decide +kernel
theorem dX7_paces_27 : decode cX7_paces 27 = .ok (.iload_n 2, 1) := by decide +kernel
theorem dX7_paces_28 : decode cX7_paces 28 = .ok (.iconst 1, 1) := by decide +kernel
theorem dX7_paces_29 : decode cX7_paces 29 = .ok (.iadd, 1) := by decide +kernel
theorem dX7_paces_30 : decode cX7_paces 30 = .ok (.iaload, 1) := by decide +kernel
theorem dX7_paces_31 : decode cX7_paces 31 = .ok (.invokestatic 127, 3) := by decide +kernel
theorem dX7_paces_34 : decode cX7_paces 34 = .ok (.iadd, 1) := by decide +kernel
theorem dX7_paces_35 : decode cX7_paces 35 = .ok (.ireturn, 1) := by decide +kernel
theorem dX7_soundOf_0 : decode cX7_soundOf 0 = .ok (.iconst 0, 1) := by decide +kernel
theorem dX7_soundOf_1 : decode cX7_soundOf 1 = .ok (.iconst 2, 1) := by decide +kernel
theorem dX7_soundOf_2 : decode cX7_soundOf 2 = .ok (.iload_n 1, 1) := by decide +kernel
theorem dX7_soundOf_3 : decode cX7_soundOf 3 = .ok (.imul, 1) := by decide +kernel
theorem dX7_soundOf_4 : decode cX7_soundOf 4 = .ok (.iadd, 1) := by decide +kernel
theorem dX7_soundOf_5 : decode cX7_soundOf 5 = .ok (.istore_n 3, 1) := by decide +kernel
theorem dX7_soundOf_6 : decode cX7_soundOf 6 = .ok (.bipush 12, 2) := by decide +kernel
theorem dX7_soundOf_8 : decode cX7_soundOf 8 = .ok (.iconst 2, 1) := by decide +kernel
theorem dX7_soundOf_9 : decode cX7_soundOf 9 = .ok (.iload_n 2, 1) := by decide +kernel
theorem dX7_soundOf_10 : decode cX7_soundOf 10 = .ok (.imul, 1) := by decide +kernel
theorem dX7_soundOf_11 : decode cX7_soundOf 11 = .ok (.iadd, 1) := by decide +kernel
theorem dX7_soundOf_12 : decode cX7_soundOf 12 = .ok (.istore 4, 2) := by decide +kernel
theorem dX7_soundOf_14 : decode cX7_soundOf 14 = .ok (.aload_n 0, 1) := by decide +kernel
theorem dX7_soundOf_15 : decode cX7_soundOf 15 = .ok (.iload_n 3, 1) := by decide +kernel
theorem dX7_soundOf_16 : decode cX7_soundOf 16 = .ok (.iload 4, 2) := by decide +kernel
theorem dX7_soundOf_18 : decode cX7_soundOf 18 = .ok (.invokevirtual 130, 3) := by decide +kernel
theorem dX7_soundOf_21 : decode cX7_soundOf 21 = .ok (.aload_n 0, 1) := by decide +kernel
theorem dX7_soundOf_22 : decode cX7_soundOf 22 = .ok (.getfield 7, 3) := by decide +kernel
theorem dX7_soundOf_25 : decode cX7_soundOf 25 = .ok (.bipush 20, 2) := by decide +kernel
theorem dX7_soundOf_27 : decode cX7_soundOf 27 = .ok (.iaload, 1) := by decide +kernel
theorem dX7_soundOf_28 : decode cX7_soundOf 28 = .ok (.imul, 1) := by decide +kernel
theorem dX7_soundOf_29 : decode cX7_soundOf 29 = .ok (.istore 5, 2) := by decide +kernel
theorem dX7_soundOf_31 : decode cX7_soundOf 31 = .ok (.iload 5, 2) := by decide +kernel
theorem dX7_soundOf_33 : decode cX7_soundOf 33 = .ok (.aload_n 0, 1) := by decide +kernel
theorem dX7_soundOf_34 : decode cX7_soundOf 34 = .ok (.getfield 7, 3) := by decide +kernel
theorem dX7_soundOf_37 : decode cX7_soundOf 37 = .ok (.bipush 21, 2) := by decide +kernel
theorem dX7_soundOf_39 : decode cX7_soundOf 39 = .ok (.iaload, 1) := by decide +kernel
theorem dX7_soundOf_40 : decode cX7_soundOf 40 = .ok (.aload_n 0, 1) := by decide +kernel
theorem dX7_soundOf_41 : decode cX7_soundOf 41 = .ok (.getfield 7, 3) := by decide +kernel
theorem dX7_soundOf_44 : decode cX7_soundOf 44 = .ok (.iload_n 3, 1) := by decide +kernel
theorem dX7_soundOf_45 : decode cX7_soundOf 45 = .ok (.iaload, 1) := by decide +kernel
theorem dX7_soundOf_46 : decode cX7_soundOf 46 = .ok (.aload_n 0, 1) := by decide +kernel
theorem dX7_soundOf_47 : decode cX7_soundOf 47 = .ok (.getfield 7, 3) := by decide +kernel
theorem dX7_soundOf_50 : decode cX7_soundOf 50 = .ok (.iload 4, 2) := by decide +kernel
theorem dX7_soundOf_52 : decode cX7_soundOf 52 = .ok (.iaload, 1) := by decide +kernel
theorem dX7_soundOf_53 : decode cX7_soundOf 53 = .ok (.isub, 1) := by decide +kernel
theorem dX7_soundOf_54 : decode cX7_soundOf 54 = .ok (.imul, 1) := by decide +kernel
theorem dX7_soundOf_55 : decode cX7_soundOf 55 = .ok (.aload_n 0, 1) := by decide +kernel
theorem dX7_soundOf_56 : decode cX7_soundOf 56 = .ok (.getfield 7, 3) := by decide +kernel
theorem dX7_soundOf_59 : decode cX7_soundOf 59 = .ok (.bipush 22, 2) := by decide +kernel
theorem dX7_soundOf_61 : decode cX7_soundOf 61 = .ok (.iaload, 1) := by decide +kernel
theorem dX7_soundOf_62 : decode cX7_soundOf 62 = .ok (.aload_n 0, 1) := by decide +kernel
theorem dX7_soundOf_63 : decode cX7_soundOf 63 = .ok (.getfield 7, 3) := by decide +kernel
theorem dX7_soundOf_66 : decode cX7_soundOf 66 = .ok (.iload_n 3, 1) := by decide +kernel
theorem dX7_soundOf_67 : decode cX7_soundOf 67 = .ok (.iconst 1, 1) := by decide +kernel
theorem dX7_soundOf_68 : decode cX7_soundOf 68 = .ok (.iadd, 1) := by decide +kernel
theorem dX7_soundOf_69 : decode cX7_soundOf 69 = .ok (.iaload, 1) := by decide +kernel
theorem dX7_soundOf_70 : decode cX7_soundOf 70 = .ok (.aload_n 0, 1) := by decide +kernel
theorem dX7_soundOf_71 : decode cX7_soundOf 71 = .ok (.getfield 7, 3) := by decide +kernel
theorem dX7_soundOf_74 : decode cX7_soundOf 74 = .ok (.iload 4, 2) := by decide +kernel
theorem dX7_soundOf_76 : decode cX7_soundOf 76 = .ok (.iconst 1, 1) := by decide +kernel
theorem dX7_soundOf_77 : decode cX7_soundOf 77 = .ok (.iadd, 1) := by decide +kernel
theorem dX7_soundOf_78 : decode cX7_soundOf 78 = .ok (.iaload, 1) := by decide +kernel
theorem dX7_soundOf_79 : decode cX7_soundOf 79 = .ok (.isub, 1) := by decide +kernel
theorem dX7_soundOf_80 : decode cX7_soundOf 80 = .ok (.imul, 1) := by decide +kernel
theorem dX7_soundOf_81 : decode cX7_soundOf 81 = .ok (.iadd, 1) := by decide +kernel
theorem dX7_soundOf_82 : decode cX7_soundOf 82 = .ok (.iadd, 1) := by decide +kernel
theorem dX7_soundOf_83 : decode cX7_soundOf 83 = .ok (.istore 5, 2) := by decide +kernel
theorem dX7_soundOf_85 : decode cX7_soundOf 85 = .ok (.iload 5, 2) := by decide +kernel
theorem dX7_soundOf_87 : decode cX7_soundOf 87 = .ok (.ifCond .ge 7, 3) := by decide +kernel
theorem dX7_soundOf_90 : decode cX7_soundOf 90 = .ok (.iconst 0, 1) := by decide +kernel
theorem dX7_soundOf_91 : decode cX7_soundOf 91 = .ok (.goto 5, 3) := by decide +kernel
theorem dX7_soundOf_94 : decode cX7_soundOf 94 = .ok (.iload 5, 2) := by decide +kernel
theorem dX7_soundOf_96 : decode cX7_soundOf 96 = .ok (.ireturn, 1) := by decide +kernel
theorem dX7_sound_0 : decode cX7_sound 0 = .ok (.aload_n 0, 1) := by decide +kernel
theorem dX7_sound_1 : decode cX7_sound 1 = .ok (.iload_n 1, 1) := by decide +kernel
theorem dX7_sound_2 : decode cX7_sound 2 = .ok (.invokevirtual 100, 3) := by decide +kernel
theorem dX7_sound_5 : decode cX7_sound 5 = .ok (.ifCond .eq 20, 3) := by decide +kernel
theorem dX7_sound_8 : decode cX7_sound 8 = .ok (.aload_n 0, 1) := by decide +kernel
theorem dX7_sound_9 : decode cX7_sound 9 = .ok (.iload_n 2, 1) := by decide +kernel
theorem dX7_sound_10 : decode cX7_sound 10 = .ok (.invokevirtual 133, 3) := by decide +kernel
theorem dX7_sound_13 : decode cX7_sound 13 = .ok (.ifCond .eq 12, 3) := by decide +kernel
theorem dX7_sound_16 : decode cX7_sound 16 = .ok (.aload_n 0, 1) := by decide +kernel
theorem dX7_sound_17 : decode cX7_sound 17 = .ok (.iload_n 1, 1) := by decide +kernel
theorem dX7_sound_18 : decode cX7_sound 18 = .ok (.iload_n 2, 1) := by decide +kernel
theorem dX7_sound_19 : decode cX7_sound 19 = .ok (.invokevirtual 136, 3) := by decide +kernel
theorem dX7_sound_22 : decode cX7_sound 22 = .ok (.goto 9, 3) := by decide +kernel
theorem dX7_sound_25 : decode cX7_sound 25 = .ok (.aload_n 0, 1) := by decide +kernel
theorem dX7_sound_26 : decode cX7_sound 26 = .ok (.bipush (-2), 2) := by decide +kernel
theorem dX7_sound_28 : decode cX7_sound 28 = .ok (.invokevirtual 76, 3) := by decide +kernel
theorem dX7_sound_31 : decode cX7_sound 31 = .ok (.ireturn, 1) := by decide +kernel
theorem dX7_laySound_0 : decode cX7_laySound 0 = .ok (.iload_n 3, 1) := by decide +kernel
theorem dX7_laySound_1 : decode cX7_laySound 1 = .ok (.ifCond .le 43, 3) := by decide +kernel
theorem dX7_laySound_4 : decode cX7_laySound 4 = .ok (.aload_n 0, 1) := by decide +kernel
theorem dX7_laySound_5 : decode cX7_laySound 5 = .ok (.getfield 23, 3) := by decide +kernel
theorem dX7_laySound_8 : decode cX7_laySound 8 = .ok (.aload_n 0, 1) := by decide +kernel
theorem dX7_laySound_9 : decode cX7_laySound 9 = .ok (.getfield 139, 3) := by decide +kernel
theorem dX7_laySound_12 : decode cX7_laySound 12 = .ok (.iload_n 1, 1) := by decide +kernel
theorem dX7_laySound_13 : decode cX7_laySound 13 = .ok (.iastore, 1) := by decide +kernel
theorem dX7_laySound_14 : decode cX7_laySound 14 = .ok (.aload_n 0, 1) := by decide +kernel
theorem dX7_laySound_15 : decode cX7_laySound 15 = .ok (.getfield 26, 3) := by decide +kernel
theorem dX7_laySound_18 : decode cX7_laySound 18 = .ok (.aload_n 0, 1) := by decide +kernel
theorem dX7_laySound_19 : decode cX7_laySound 19 = .ok (.getfield 139, 3) := by decide +kernel
theorem dX7_laySound_22 : decode cX7_laySound 22 = .ok (.iload_n 2, 1) := by decide +kernel
theorem dX7_laySound_23 : decode cX7_laySound 23 = .ok (.iastore, 1) := by decide +kernel
theorem dX7_laySound_24 : decode cX7_laySound 24 = .ok (.aload_n 0, 1) := by decide +kernel
theorem dX7_laySound_25 : decode cX7_laySound 25 = .ok (.getfield 29, 3) := by decide +kernel
theorem dX7_laySound_28 : decode cX7_laySound 28 = .ok (.aload_n 0, 1) := by decide +kernel
theorem dX7_laySound_29 : decode cX7_laySound 29 = .ok (.getfield 139, 3) := by decide +kernel
theorem dX7_laySound_32 : decode cX7_laySound 32 = .ok (.iload_n 3, 1) := by decide +kernel
theorem dX7_laySound_33 : decode cX7_laySound 33 = .ok (.iastore, 1) := by decide +kernel
theorem dX7_laySound_34 : decode cX7_laySound 34 = .ok (.aload_n 0, 1) := by decide +kernel
theorem dX7_laySound_35 : decode cX7_laySound 35 = .ok (.dup, 1) := by decide +kernel
theorem dX7_laySound_36 : decode cX7_laySound 36 = .ok (.getfield 139, 3) := by decide +kernel
theorem dX7_laySound_39 : decode cX7_laySound 39 = .ok (.iconst 1, 1) := by decide +kernel
theorem dX7_laySound_40 : decode cX7_laySound 40 = .ok (.iadd, 1) := by decide +kernel
theorem dX7_laySound_41 : decode cX7_laySound 41 = .ok (.putfield 139, 3) := by decide +kernel
theorem dX7_laySound_44 : decode cX7_laySound 44 = .ok (.return_, 1) := by decide +kernel
theorem dX7_isAwake_0 : decode cX7_isAwake 0 = .ok (.aload_n 0, 1) := by decide +kernel
theorem dX7_isAwake_1 : decode cX7_isAwake 1 = .ok (.iload_n 1, 1) := by decide +kernel
theorem dX7_isAwake_2 : decode cX7_isAwake 2 = .ok (.iconst 0, 1) := by decide +kernel
theorem dX7_isAwake_3 : decode cX7_isAwake 3 = .ok (.invokevirtual 94, 3) := by decide +kernel
theorem dX7_isAwake_6 : decode cX7_isAwake 6 = .ok (.iconst 5, 1) := by decide +kernel
theorem dX7_isAwake_7 : decode cX7_isAwake 7 = .ok (.if_icmp .eq 18, 3) := by decide +kernel
theorem dX7_isAwake_10 : decode cX7_isAwake 10 = .ok (.aload_n 0, 1) := by decide +kernel
theorem dX7_isAwake_11 : decode cX7_isAwake 11 = .ok (.getfield 143, 3) := by decide +kernel
theorem dX7_isAwake_14 : decode cX7_isAwake 14 = .ok (.iload_n 1, 1) := by decide +kernel
theorem dX7_isAwake_15 : decode cX7_isAwake 15 = .ok (.ishr, 1) := by decide +kernel
theorem dX7_isAwake_16 : decode cX7_isAwake 16 = .ok (.iconst 1, 1) := by decide +kernel
theorem dX7_isAwake_17 : decode cX7_isAwake 17 = .ok (.iand, 1) := by decide +kernel
theorem dX7_isAwake_18 : decode cX7_isAwake 18 = .ok (.ifCond .ne 7, 3) := by decide +kernel
theorem dX7_isAwake_21 : decode cX7_isAwake 21 = .ok (.iconst 1, 1) := by decide +kernel
theorem dX7_isAwake_22 : decode cX7_isAwake 22 = .ok (.goto 4, 3) := by decide +kernel
theorem dX7_isAwake_25 : decode cX7_isAwake 25 = .ok (.iconst 0, 1) := by decide +kernel
theorem dX7_isAwake_26 : decode cX7_isAwake 26 = .ok (.ireturn, 1) := by decide +kernel
theorem dX7_layAll_0 : decode cX7_layAll 0 = .ok (.aload_n 0, 1) := by decide +kernel
theorem dX7_layAll_1 : decode cX7_layAll 1 = .ok (.iconst 0, 1) := by decide +kernel
theorem dX7_layAll_2 : decode cX7_layAll 2 = .ok (.putfield 139, 3) := by decide +kernel
theorem dX7_layAll_5 : decode cX7_layAll 5 = .ok (.iconst 0, 1) := by decide +kernel
theorem dX7_layAll_6 : decode cX7_layAll 6 = .ok (.istore_n 2, 1) := by decide +kernel
theorem dX7_layAll_7 : decode cX7_layAll 7 = .ok (.iload_n 2, 1) := by decide +kernel
theorem dX7_layAll_8 : decode cX7_layAll 8 = .ok (.aload_n 0, 1) := by decide +kernel
theorem dX7_layAll_9 : decode cX7_layAll 9 = .ok (.invokevirtual 67, 3) := by decide +kernel
theorem dX7_layAll_12 : decode cX7_layAll 12 = .ok (.if_icmp .ge 23, 3) := by decide +kernel
theorem dX7_layAll_15 : decode cX7_layAll 15 = .ok (.aload_n 0, 1) := by decide +kernel
theorem dX7_layAll_16 : decode cX7_layAll 16 = .ok (.iload_n 2, 1) := by decide +kernel
theorem dX7_layAll_17 : decode cX7_layAll 17 = .ok (.invokevirtual 146, 3) := by decide +kernel
theorem dX7_layAll_20 : decode cX7_layAll 20 = .ok (.ifCond .eq 9, 3) := by decide +kernel
theorem dX7_layAll_23 : decode cX7_layAll 23 = .ok (.aload_n 0, 1) := by decide +kernel
theorem dX7_layAll_24 : decode cX7_layAll 24 = .ok (.iload_n 2, 1) := by decide +kernel
theorem dX7_layAll_25 : decode cX7_layAll 25 = .ok (.iload_n 1, 1) := by decide +kernel
theorem dX7_layAll_26 : decode cX7_layAll 26 = .ok (.invokevirtual 149, 3) := by decide +kernel
theorem dX7_layAll_29 : decode cX7_layAll 29 = .ok (.iinc 2 1, 3) := by decide +kernel
theorem dX7_layAll_32 : decode cX7_layAll 32 = .ok (.goto (-25), 3) := by decide +kernel
theorem dX7_layAll_35 : decode cX7_layAll 35 = .ok (.return_, 1) := by decide +kernel
theorem dX7_layOf_0 : decode cX7_layOf 0 = .ok (.aload_n 0, 1) := by decide +kernel
theorem dX7_layOf_1 : decode cX7_layOf 1 = .ok (.iload_n 1, 1) := by decide +kernel
theorem dX7_layOf_2 : decode cX7_layOf 2 = .ok (.iconst 1, 1) := by decide +kernel
theorem dX7_layOf_3 : decode cX7_layOf 3 = .ok (.invokevirtual 94, 3) := by decide +kernel
theorem dX7_layOf_6 : decode cX7_layOf 6 = .ok (.istore_n 3, 1) := by decide +kernel
theorem dX7_layOf_7 : decode cX7_layOf 7 = .ok (.bipush 12, 2) := by decide +kernel
theorem dX7_layOf_9 : decode cX7_layOf 9 = .ok (.iconst 2, 1) := by decide +kernel
theorem dX7_layOf_10 : decode cX7_layOf 10 = .ok (.iload_n 2, 1) := by decide +kernel
theorem dX7_layOf_11 : decode cX7_layOf 11 = .ok (.imul, 1) := by decide +kernel
theorem dX7_layOf_12 : decode cX7_layOf 12 = .ok (.iadd, 1) := by decide +kernel
theorem dX7_layOf_13 : decode cX7_layOf 13 = .ok (.istore 4, 2) := by decide +kernel
theorem dX7_layOf_15 : decode cX7_layOf 15 = .ok (.aload_n 0, 1) := by decide +kernel
theorem dX7_layOf_16 : decode cX7_layOf 16 = .ok (.iload_n 1, 1) := by decide +kernel
theorem dX7_layOf_17 : decode cX7_layOf 17 = .ok (.aload_n 0, 1) := by decide +kernel
theorem dX7_layOf_18 : decode cX7_layOf 18 = .ok (.iload_n 3, 1) := by decide +kernel
theorem dX7_layOf_19 : decode cX7_layOf 19 = .ok (.iload_n 2, 1) := by decide +kernel
theorem dX7_layOf_20 : decode cX7_layOf 20 = .ok (.invokevirtual 136, 3) := by decide +kernel
theorem dX7_layOf_23 : decode cX7_layOf 23 = .ok (.aload_n 0, 1) := by decide +kernel
theorem dX7_layOf_24 : decode cX7_layOf 24 = .ok (.iload_n 1, 1) := by decide +kernel
theorem dX7_layOf_25 : decode cX7_layOf 25 = .ok (.iconst 2, 1) := by decide +kernel
theorem dX7_layOf_26 : decode cX7_layOf 26 = .ok (.invokevirtual 94, 3) := by decide +kernel
theorem dX7_layOf_29 : decode cX7_layOf 29 = .ok (.aload_n 0, 1) := by decide +kernel
theorem dX7_layOf_30 : decode cX7_layOf 30 = .ok (.iconst 0, 1) := by decide +kernel
theorem dX7_layOf_31 : decode cX7_layOf 31 = .ok (.iconst 2, 1) := by decide +kernel
theorem dX7_layOf_32 : decode cX7_layOf 32 = .ok (.iload_n 3, 1) := by decide +kernel
theorem dX7_layOf_33 : decode cX7_layOf 33 = .ok (.imul, 1) := by decide +kernel
theorem dX7_layOf_34 : decode cX7_layOf 34 = .ok (.iadd, 1) := by decide +kernel
theorem dX7_layOf_35 : decode cX7_layOf 35 = .ok (.iload 4, 2) := by decide +kernel
theorem dX7_layOf_37 : decode cX7_layOf 37 = .ok (.invokevirtual 130, 3) := by decide +kernel
theorem dX7_layOf_40 : decode cX7_layOf 40 = .ok (.isub, 1) := by decide +kernel
theorem dX7_layOf_41 : decode cX7_layOf 41 = .ok (.invokevirtual 153, 3) := by decide +kernel
theorem dX7_layOf_44 : decode cX7_layOf 44 = .ok (.aload_n 0, 1) := by decide +kernel
theorem dX7_layOf_45 : decode cX7_layOf 45 = .ok (.iload_n 1, 1) := by decide +kernel
theorem dX7_layOf_46 : decode cX7_layOf 46 = .ok (.iconst 0, 1) := by decide +kernel
theorem dX7_layOf_47 : decode cX7_layOf 47 = .ok (.invokevirtual 94, 3) := by decide +kernel
theorem dX7_layOf_50 : decode cX7_layOf 50 = .ok (.iconst 2, 1) := by decide +kernel
theorem dX7_layOf_51 : decode cX7_layOf 51 = .ok (.if_icmp .ne 62, 3) := by decide +kernel
theorem dX7_layOf_54 : decode cX7_layOf 54 = .ok (.aload_n 0, 1) := by decide +kernel
theorem dX7_layOf_55 : decode cX7_layOf 55 = .ok (.getfield 7, 3) := by decide +kernel
theorem dX7_layOf_58 : decode cX7_layOf 58 = .ok (.bipush 18, 2) := by decide +kernel
theorem dX7_layOf_60 : decode cX7_layOf 60 = .ok (.iaload, 1) := by decide +kernel
theorem dX7_layOf_61 : decode cX7_layOf 61 = .ok (.iconst (-1), 1) := by decide +kernel
theorem dX7_layOf_62 : decode cX7_layOf 62 = .ok (.if_icmp .eq 51, 3) := by decide +kernel
theorem dX7_layOf_65 : decode cX7_layOf 65 = .ok (.aload_n 0, 1) := by decide +kernel
theorem dX7_layOf_66 : decode cX7_layOf 66 = .ok (.iconst 0, 1) := by decide +kernel
theorem dX7_layOf_67 : decode cX7_layOf 67 = .ok (.iconst 2, 1) := by decide +kernel
theorem dX7_layOf_68 : decode cX7_layOf 68 = .ok (.iload_n 3, 1) := by decide +kernel
theorem dX7_layOf_69 : decode cX7_layOf 69 = .ok (.imul, 1) := by decide +kernel
theorem dX7_layOf_70 : decode cX7_layOf 70 = .ok (.iadd, 1) := by decide +kernel
theorem dX7_layOf_71 : decode cX7_layOf 71 = .ok (.bipush 18, 2) := by decide +kernel
theorem dX7_layOf_73 : decode cX7_layOf 73 = .ok (.invokevirtual 130, 3) := by decide +kernel
theorem dX7_layOf_76 : decode cX7_layOf 76 = .ok (.aload_n 0, 1) := by decide +kernel
theorem dX7_layOf_77 : decode cX7_layOf 77 = .ok (.bipush 18, 2) := by decide +kernel
theorem dX7_layOf_79 : decode cX7_layOf 79 = .ok (.iload 4, 2) := by decide +kernel
theorem dX7_layOf_81 : decode cX7_layOf 81 = .ok (.invokevirtual 130, 3) := by decide +kernel
theorem dX7_layOf_84 : decode cX7_layOf 84 = .ok (.iadd, 1) := by decide +kernel
theorem dX7_layOf_85 : decode cX7_layOf 85 = .ok (.istore 5, 2) := by decide +kernel
theorem dX7_layOf_87 : decode cX7_layOf 87 = .ok (.aload_n 0, 1) := by decide +kernel
theorem dX7_layOf_88 : decode cX7_layOf 88 = .ok (.iload_n 1, 1) := by decide +kernel
theorem dX7_layOf_89 : decode cX7_layOf 89 = .ok (.iload 5, 2) := by decide +kernel
theorem dX7_layOf_91 : decode cX7_layOf 91 = .ok (.aload_n 0, 1) := by decide +kernel
theorem dX7_layOf_92 : decode cX7_layOf 92 = .ok (.getfield 7, 3) := by decide +kernel
theorem dX7_layOf_95 : decode cX7_layOf 95 = .ok (.bipush 20, 2) := by decide +kernel
theorem dX7_layOf_97 : decode cX7_layOf 97 = .ok (.iaload, 1) := by decide +kernel
theorem dX7_layOf_98 : decode cX7_layOf 98 = .ok (.imul, 1) := by decide +kernel
theorem dX7_layOf_99 : decode cX7_layOf 99 = .ok (.aload_n 0, 1) := by decide +kernel
theorem dX7_layOf_100 : decode cX7_layOf 100 = .ok (.iload_n 1, 1) := by decide +kernel
theorem dX7_layOf_101 : decode cX7_layOf 101 = .ok (.iconst 2, 1) := by decide +kernel
theorem dX7_layOf_102 : decode cX7_layOf 102 = .ok (.invokevirtual 94, 3) := by decide +kernel
theorem dX7_layOf_105 : decode cX7_layOf 105 = .ok (.iconst 2, 1) := by decide +kernel
theorem dX7_layOf_106 : decode cX7_layOf 106 = .ok (.idiv, 1) := by decide +kernel
theorem dX7_layOf_107 : decode cX7_layOf 107 = .ok (.iload 5, 2) := by decide +kernel
theorem dX7_layOf_109 : decode cX7_layOf 109 = .ok (.isub, 1) := by decide +kernel
theorem dX7_layOf_110 : decode cX7_layOf 110 = .ok (.invokevirtual 153, 3) := by decide +kernel
theorem dX7_layOf_113 : decode cX7_layOf 113 = .ok (.aload_n 0, 1) := by decide +kernel
theorem dX7_layOf_114 : decode cX7_layOf 114 = .ok (.iload_n 1, 1) := by decide +kernel
theorem dX7_layOf_115 : decode cX7_layOf 115 = .ok (.iconst 0, 1) := by decide +kernel
theorem dX7_layOf_116 : decode cX7_layOf 116 = .ok (.invokevirtual 94, 3) := by decide +kernel
theorem dX7_layOf_119 : decode cX7_layOf 119 = .ok (.iconst 4, 1) := by decide +kernel
theorem dX7_layOf_120 : decode cX7_layOf 120 = .ok (.if_icmp .ne 44, 3) := by decide +kernel
theorem dX7_layOf_123 : decode cX7_layOf 123 = .ok (.iload_n 3, 1) := by decide +kernel
theorem dX7_layOf_124 : decode cX7_layOf 124 = .ok (.iconst 1, 1) := by decide +kernel
theorem dX7_layOf_125 : decode cX7_layOf 125 = .ok (.iadd, 1) := by decide +kernel
theorem dX7_layOf_126 : decode cX7_layOf 126 = .ok (.aload_n 0, 1) := by decide +kernel
theorem dX7_layOf_127 : decode cX7_layOf 127 = .ok (.invokevirtual 56, 3) := by decide +kernel
theorem dX7_layOf_130 : decode cX7_layOf 130 = .ok (.irem, 1) := by decide +kernel
theorem dX7_layOf_131 : decode cX7_layOf 131 = .ok (.istore 5, 2) := by decide +kernel
theorem dX7_layOf_133 : decode cX7_layOf 133 = .ok (.aload_n 0, 1) := by decide +kernel
theorem dX7_layOf_134 : decode cX7_layOf 134 = .ok (.iload_n 1, 1) := by decide +kernel
theorem dX7_layOf_135 : decode cX7_layOf 135 = .ok (.aload_n 0, 1) := by decide +kernel
theorem dX7_layOf_136 : decode cX7_layOf 136 = .ok (.iload 5, 2) := by decide +kernel
theorem dX7_layOf_138 : decode cX7_layOf 138 = .ok (.iload_n 2, 1) := by decide +kernel
theorem dX7_layOf_139 : decode cX7_layOf 139 = .ok (.invokevirtual 136, 3) := by decide +kernel
theorem dX7_layOf_142 : decode cX7_layOf 142 = .ok (.aload_n 0, 1) := by decide +kernel
theorem dX7_layOf_143 : decode cX7_layOf 143 = .ok (.iload_n 1, 1) := by decide +kernel
theorem dX7_layOf_144 : decode cX7_layOf 144 = .ok (.iconst 2, 1) := by decide +kernel
theorem dX7_layOf_145 : decode cX7_layOf 145 = .ok (.invokevirtual 94, 3) := by decide +kernel
theorem dX7_layOf_148 : decode cX7_layOf 148 = .ok (.aload_n 0, 1) := by decide +kernel
theorem dX7_layOf_149 : decode cX7_layOf 149 = .ok (.iconst 0, 1) := by decide +kernel
theorem dX7_layOf_150 : decode cX7_layOf 150 = .ok (.iconst 2, 1) := by decide +kernel
theorem dX7_layOf_151 : decode cX7_layOf 151 = .ok (.iload 5, 2) := by decide +kernel
theorem dX7_layOf_153 : decode cX7_layOf 153 = .ok (.imul, 1) := by decide +kernel
theorem dX7_layOf_154 : decode cX7_layOf 154 = .ok (.iadd, 1) := by decide +kernel
theorem dX7_layOf_155 : decode cX7_layOf 155 = .ok (.iload 4, 2) := by decide +kernel
theorem dX7_layOf_157 : decode cX7_layOf 157 = .ok (.invokevirtual 130, 3) := by decide +kernel
theorem dX7_layOf_160 : decode cX7_layOf 160 = .ok (.isub, 1) := by decide +kernel
theorem dX7_layOf_161 : decode cX7_layOf 161 = .ok (.invokevirtual 153, 3) := by decide +kernel
theorem dX7_layOf_164 : decode cX7_layOf 164 = .ok (.return_, 1) := by decide +kernel
theorem dX7_heard_0 : decode cX7_heard 0 = .ok (.aload_n 0, 1) := by decide +kernel
theorem dX7_heard_1 : decode cX7_heard 1 = .ok (.iload_n 1, 1) := by decide +kernel
theorem dX7_heard_2 : decode cX7_heard 2 = .ok (.invokevirtual 133, 3) := by decide +kernel
theorem dX7_heard_5 : decode cX7_heard 5 = .ok (.ifCond .eq 20, 3) := by decide +kernel
theorem dX7_heard_8 : decode cX7_heard 8 = .ok (.iload_n 2, 1) := by decide +kernel
theorem dX7_heard_9 : decode cX7_heard 9 = .ok (.i2l, 1) := by decide +kernel
theorem dX7_heard_10 : decode cX7_heard 10 = .ok (.lconst 0, 1) := by decide +kernel
theorem dX7_heard_11 : decode cX7_heard 11 = .ok (.ldc2_w 157, 3) := by decide +kernel
theorem dX7_heard_14 : decode cX7_heard 14 = .ok (.invokestatic 60, 3) := by decide +kernel
theorem dX7_heard_17 : decode cX7_heard 17 = .ok (.ifCond .eq 8, 3) := by decide +kernel
theorem dX7_heard_20 : decode cX7_heard 20 = .ok (.iload_n 3, 1) := by decide +kernel
theorem dX7_heard_21 : decode cX7_heard 21 = .ok (.iconst (-1), 1) := by decide +kernel
theorem dX7_heard_22 : decode cX7_heard 22 = .ok (.if_icmp .ge 10, 3) := by decide +kernel
theorem dX7_heard_25 : decode cX7_heard 25 = .ok (.aload_n 0, 1) := by decide +kernel
theorem dX7_heard_26 : decode cX7_heard 26 = .ok (.ldc 159, 2) := by decide +kernel
theorem dX7_heard_28 : decode cX7_heard 28 = .ok (.invokevirtual 76, 3) := by decide +kernel
theorem dX7_heard_31 : decode cX7_heard 31 = .ok (.ireturn, 1) := by decide +kernel
theorem dX7_heard_32 : decode cX7_heard 32 = .ok (.aload_n 0, 1) := by decide +kernel
theorem dX7_heard_33 : decode cX7_heard 33 = .ok (.iconst 0, 1) := by decide +kernel
theorem dX7_heard_34 : decode cX7_heard 34 = .ok (.putfield 143, 3) := by decide +kernel
theorem dX7_heard_37 : decode cX7_heard 37 = .ok (.aload_n 0, 1) := by decide +kernel
theorem dX7_heard_38 : decode cX7_heard 38 = .ok (.iload_n 1, 1) := by decide +kernel
theorem dX7_heard_39 : decode cX7_heard 39 = .ok (.invokevirtual 160, 3) := by decide +kernel
theorem dX7_heard_42 : decode cX7_heard 42 = .ok (.iload_n 3, 1) := by decide +kernel
theorem dX7_heard_43 : decode cX7_heard 43 = .ok (.iconst (-1), 1) := by decide +kernel
theorem dX7_heard_44 : decode cX7_heard 44 = .ok (.if_icmp .ne 10, 3) := by decide +kernel
theorem dX7_heard_47 : decode cX7_heard 47 = .ok (.aload_n 0, 1) := by decide +kernel
theorem dX7_heard_48 : decode cX7_heard 48 = .ok (.getfield 139, 3) := by decide +kernel
theorem dX7_heard_51 : decode cX7_heard 51 = .ok (.goto 35, 3) := by decide +kernel
theorem dX7_heard_54 : decode cX7_heard 54 = .ok (.iload_n 3, 1) := by decide +kernel
theorem dX7_heard_55 : decode cX7_heard 55 = .ok (.aload_n 0, 1) := by decide +kernel
theorem dX7_heard_56 : decode cX7_heard 56 = .ok (.getfield 139, 3) := by decide +kernel
theorem dX7_heard_59 : decode cX7_heard 59 = .ok (.if_icmp .ge 25, 3) := by decide +kernel
theorem dX7_heard_62 : decode cX7_heard 62 = .ok (.iload_n 2, 1) := by decide +kernel
theorem dX7_heard_63 : decode cX7_heard 63 = .ok (.aload_n 0, 1) := by decide +kernel
theorem dX7_heard_64 : decode cX7_heard 64 = .ok (.aload_n 0, 1) := by decide +kernel
theorem dX7_heard_65 : decode cX7_heard 65 = .ok (.getfield 23, 3) := by decide +kernel
theorem dX7_heard_68 : decode cX7_heard 68 = .ok (.iload_n 3, 1) := by decide +kernel
theorem dX7_heard_69 : decode cX7_heard 69 = .ok (.iaload, 1) := by decide +kernel
theorem dX7_heard_70 : decode cX7_heard 70 = .ok (.invokevirtual 124, 3) := by decide +kernel
theorem dX7_heard_73 : decode cX7_heard 73 = .ok (.iadd, 1) := by decide +kernel
theorem dX7_heard_74 : decode cX7_heard 74 = .ok (.aload_n 0, 1) := by decide +kernel
theorem dX7_heard_75 : decode cX7_heard 75 = .ok (.getfield 26, 3) := by decide +kernel
theorem dX7_heard_78 : decode cX7_heard 78 = .ok (.iload_n 3, 1) := by decide +kernel
theorem dX7_heard_79 : decode cX7_heard 79 = .ok (.iaload, 1) := by decide +kernel
theorem dX7_heard_80 : decode cX7_heard 80 = .ok (.iadd, 1) := by decide +kernel
theorem dX7_heard_81 : decode cX7_heard 81 = .ok (.goto 5, 3) := by decide +kernel
theorem dX7_heard_84 : decode cX7_heard 84 = .ok (.ldc 164, 2) := by decide +kernel
theorem dX7_heard_86 : decode cX7_heard 86 = .ok (.ireturn, 1) := by decide +kernel
theorem dX7_loud_0 : decode cX7_loud 0 = .ok (.aload_n 0, 1) := by decide +kernel
theorem dX7_loud_1 : decode cX7_loud 1 = .ok (.iload_n 1, 1) := by decide +kernel
theorem dX7_loud_2 : decode cX7_loud 2 = .ok (.invokevirtual 133, 3) := by decide +kernel
theorem dX7_loud_5 : decode cX7_loud 5 = .ok (.ifCond .eq 7, 3) := by decide +kernel
theorem dX7_loud_8 : decode cX7_loud 8 = .ok (.iload_n 2, 1) := by decide +kernel
theorem dX7_loud_9 : decode cX7_loud 9 = .ok (.ifCond .ge 10, 3) := by decide +kernel
theorem dX7_loud_12 : decode cX7_loud 12 = .ok (.aload_n 0, 1) := by decide +kernel
theorem dX7_loud_13 : decode cX7_loud 13 = .ok (.bipush (-10), 2) := by decide +kernel
theorem dX7_loud_15 : decode cX7_loud 15 = .ok (.invokevirtual 76, 3) := by decide +kernel
theorem dX7_loud_18 : decode cX7_loud 18 = .ok (.ireturn, 1) := by decide +kernel
theorem dX7_loud_19 : decode cX7_loud 19 = .ok (.aload_n 0, 1) := by decide +kernel
theorem dX7_loud_20 : decode cX7_loud 20 = .ok (.iconst 0, 1) := by decide +kernel
theorem dX7_loud_21 : decode cX7_loud 21 = .ok (.putfield 143, 3) := by decide +kernel
theorem dX7_loud_24 : decode cX7_loud 24 = .ok (.aload_n 0, 1) := by decide +kernel
theorem dX7_loud_25 : decode cX7_loud 25 = .ok (.iload_n 1, 1) := by decide +kernel
theorem dX7_loud_26 : decode cX7_loud 26 = .ok (.invokevirtual 160, 3) := by decide +kernel
theorem dX7_loud_29 : decode cX7_loud 29 = .ok (.iload_n 2, 1) := by decide +kernel
theorem dX7_loud_30 : decode cX7_loud 30 = .ok (.aload_n 0, 1) := by decide +kernel
theorem dX7_loud_31 : decode cX7_loud 31 = .ok (.getfield 139, 3) := by decide +kernel
theorem dX7_loud_34 : decode cX7_loud 34 = .ok (.if_icmp .ge 12, 3) := by decide +kernel
theorem dX7_loud_37 : decode cX7_loud 37 = .ok (.aload_n 0, 1) := by decide +kernel
theorem dX7_loud_38 : decode cX7_loud 38 = .ok (.getfield 29, 3) := by decide +kernel
theorem dX7_loud_41 : decode cX7_loud 41 = .ok (.iload_n 2, 1) := by decide +kernel
theorem dX7_loud_42 : decode cX7_loud 42 = .ok (.iaload, 1) := by decide +kernel
theorem dX7_loud_43 : decode cX7_loud 43 = .ok (.goto 5, 3) := by decide +kernel
theorem dX7_loud_46 : decode cX7_loud 46 = .ok (.bipush (-5), 2) := by decide +kernel
theorem dX7_loud_48 : decode cX7_loud 48 = .ok (.ireturn, 1) := by decide +kernel
theorem dX7_spreadOf_0 : decode cX7_spreadOf 0 = .ok (.aload_n 0, 1) := by decide +kernel
theorem dX7_spreadOf_1 : decode cX7_spreadOf 1 = .ok (.iload_n 1, 1) := by decide +kernel
theorem dX7_spreadOf_2 : decode cX7_spreadOf 2 = .ok (.invokevirtual 160, 3) := by decide +kernel
theorem dX7_spreadOf_5 : decode cX7_spreadOf 5 = .ok (.ldc 165, 2) := by decide +kernel
theorem dX7_spreadOf_7 : decode cX7_spreadOf 7 = .ok (.istore_n 2, 1) := by decide +kernel
theorem dX7_spreadOf_8 : decode cX7_spreadOf 8 = .ok (.ldc 166, 2) := by decide +kernel
theorem dX7_spreadOf_10 : decode cX7_spreadOf 10 = .ok (.istore_n 3, 1) := by decide +kernel
theorem dX7_spreadOf_11 : decode cX7_spreadOf 11 = .ok (.iconst 0, 1) := by decide +kernel
theorem dX7_spreadOf_12 : decode cX7_spreadOf 12 = .ok (.istore 4, 2) := by decide +kernel
theorem dX7_spreadOf_14 : decode cX7_spreadOf 14 = .ok (.iload 4, 2) := by decide +kernel
theorem dX7_spreadOf_16 : decode cX7_spreadOf 16 = .ok (.aload_n 0, 1) := by decide +kernel
theorem dX7_spreadOf_17 : decode cX7_spreadOf 17 = .ok (.getfield 139, 3) := by decide +kernel
theorem dX7_spreadOf_20 : decode cX7_spreadOf 20 = .ok (.if_icmp .ge 56, 3) := by decide +kernel
theorem dX7_spreadOf_23 : decode cX7_spreadOf 23 = .ok (.aload_n 0, 1) := by decide +kernel
theorem dX7_spreadOf_24 : decode cX7_spreadOf 24 = .ok (.aload_n 0, 1) := by decide +kernel
theorem dX7_spreadOf_25 : decode cX7_spreadOf 25 = .ok (.getfield 23, 3) := by decide +kernel
theorem dX7_spreadOf_28 : decode cX7_spreadOf 28 = .ok (.iload 4, 2) := by decide +kernel
theorem dX7_spreadOf_30 : decode cX7_spreadOf 30 = .ok (.iaload, 1) := by decide +kernel
theorem dX7_spreadOf_31 : decode cX7_spreadOf 31 = .ok (.invokevirtual 124, 3) := by decide +kernel
theorem dX7_spreadOf_34 : decode cX7_spreadOf 34 = .ok (.aload_n 0, 1) := by decide +kernel
theorem dX7_spreadOf_35 : decode cX7_spreadOf 35 = .ok (.getfield 26, 3) := by decide +kernel
theorem dX7_spreadOf_38 : decode cX7_spreadOf 38 = .ok (.iload 4, 2) := by decide +kernel
theorem dX7_spreadOf_40 : decode cX7_spreadOf 40 = .ok (.iaload, 1) := by decide +kernel
theorem dX7_spreadOf_41 : decode cX7_spreadOf 41 = .ok (.iadd, 1) := by decide +kernel
theorem dX7_spreadOf_42 : decode cX7_spreadOf 42 = .ok (.istore 5, 2) := by decide +kernel
theorem dX7_spreadOf_44 : decode cX7_spreadOf 44 = .ok (.iload 5, 2) := by decide +kernel
theorem dX7_spreadOf_46 : decode cX7_spreadOf 46 = .ok (.iload_n 2, 1) := by decide +kernel
theorem dX7_spreadOf_47 : decode cX7_spreadOf 47 = .ok (.if_icmp .ge 8, 3) := by decide +kernel
theorem dX7_spreadOf_50 : decode cX7_spreadOf 50 = .ok (.iload 5, 2) := by decide +kernel
theorem dX7_spreadOf_52 : decode cX7_spreadOf 52 = .ok (.goto 4, 3) := by decide +kernel
theorem dX7_spreadOf_55 : decode cX7_spreadOf 55 = .ok (.iload_n 2, 1) := by decide +kernel
theorem dX7_spreadOf_56 : decode cX7_spreadOf 56 = .ok (.istore_n 2, 1) := by decide +kernel
theorem dX7_spreadOf_57 : decode cX7_spreadOf 57 = .ok (.iload 5, 2) := by decide +kernel
theorem dX7_spreadOf_59 : decode cX7_spreadOf 59 = .ok (.iload_n 3, 1) := by decide +kernel
theorem dX7_spreadOf_60 : decode cX7_spreadOf 60 = .ok (.if_icmp .le 8, 3) := by decide +kernel
theorem dX7_spreadOf_63 : decode cX7_spreadOf 63 = .ok (.iload 5, 2) := by decide +kernel
theorem dX7_spreadOf_65 : decode cX7_spreadOf 65 = .ok (.goto 4, 3) := by decide +kernel
theorem dX7_spreadOf_68 : decode cX7_spreadOf 68 = .ok (.iload_n 3, 1) := by decide +kernel
theorem dX7_spreadOf_69 : decode cX7_spreadOf 69 = .ok (.istore_n 3, 1) := by decide +kernel
theorem dX7_spreadOf_70 : decode cX7_spreadOf 70 = .ok (.iinc 4 1, 3) := by decide +kernel
theorem dX7_spreadOf_73 : decode cX7_spreadOf 73 = .ok (.goto (-59), 3) := by decide +kernel
theorem dX7_spreadOf_76 : decode cX7_spreadOf 76 = .ok (.aload_n 0, 1) := by decide +kernel
theorem dX7_spreadOf_77 : decode cX7_spreadOf 77 = .ok (.getfield 139, 3) := by decide +kernel
theorem dX7_spreadOf_80 : decode cX7_spreadOf 80 = .ok (.ifCond .ne 7, 3) := by decide +kernel
theorem dX7_spreadOf_83 : decode cX7_spreadOf 83 = .ok (.iconst 0, 1) := by decide +kernel
theorem dX7_spreadOf_84 : decode cX7_spreadOf 84 = .ok (.goto 6, 3) := by decide +kernel
theorem dX7_spreadOf_87 : decode cX7_spreadOf 87 = .ok (.iload_n 3, 1) := by decide +kernel
theorem dX7_spreadOf_88 : decode cX7_spreadOf 88 = .ok (.iload_n 2, 1) := by decide +kernel
theorem dX7_spreadOf_89 : decode cX7_spreadOf 89 = .ok (.isub, 1) := by decide +kernel
theorem dX7_spreadOf_90 : decode cX7_spreadOf 90 = .ok (.ireturn, 1) := by decide +kernel
theorem dX7_spread_0 : decode cX7_spread 0 = .ok (.aload_n 0, 1) := by decide +kernel
theorem dX7_spread_1 : decode cX7_spread 1 = .ok (.iload_n 1, 1) := by decide +kernel
theorem dX7_spread_2 : decode cX7_spread 2 = .ok (.invokevirtual 133, 3) := by decide +kernel
theorem dX7_spread_5 : decode cX7_spread 5 = .ok (.ifCond .ne 10, 3) := by decide +kernel
theorem dX7_spread_8 : decode cX7_spread 8 = .ok (.aload_n 0, 1) := by decide +kernel
theorem dX7_spread_9 : decode cX7_spread 9 = .ok (.bipush (-2), 2) := by decide +kernel
theorem dX7_spread_11 : decode cX7_spread 11 = .ok (.invokevirtual 76, 3) := by decide +kernel
theorem dX7_spread_14 : decode cX7_spread 14 = .ok (.ireturn, 1) := by decide +kernel
theorem dX7_spread_15 : decode cX7_spread 15 = .ok (.aload_n 0, 1) := by decide +kernel
theorem dX7_spread_16 : decode cX7_spread 16 = .ok (.iconst 0, 1) := by decide +kernel
theorem dX7_spread_17 : decode cX7_spread 17 = .ok (.putfield 143, 3) := by decide +kernel
theorem dX7_spread_20 : decode cX7_spread 20 = .ok (.aload_n 0, 1) := by decide +kernel
theorem dX7_spread_21 : decode cX7_spread 21 = .ok (.iload_n 1, 1) := by decide +kernel
theorem dX7_spread_22 : decode cX7_spread 22 = .ok (.invokevirtual 167, 3) := by decide +kernel
theorem dX7_spread_25 : decode cX7_spread 25 = .ok (.ireturn, 1) := by decide +kernel
theorem dX7_isTogether_0 : decode cX7_isTogether 0 = .ok (.iconst 1, 1) := by decide +kernel
theorem dX7_isTogether_1 : decode cX7_isTogether 1 = .ok (.istore_n 2, 1) := by decide +kernel
theorem dX7_isTogether_2 : decode cX7_isTogether 2 = .ok (.iconst 0, 1) := by decide +kernel
theorem dX7_isTogether_3 : decode cX7_isTogether 3 = .ok (.istore_n 3, 1) := by decide +kernel
theorem dX7_isTogether_4 : decode cX7_isTogether 4 = .ok (.iload_n 3, 1) := by decide +kernel
theorem dX7_isTogether_5 : decode cX7_isTogether 5 = .ok (.aload_n 0, 1) := by decide +kernel
theorem dX7_isTogether_6 : decode cX7_isTogether 6 = .ok (.invokevirtual 64, 3) := by decide +kernel
theorem dX7_isTogether_9 : decode cX7_isTogether 9 = .ok (.if_icmp .ge 28, 3) := by decide +kernel
theorem dX7_isTogether_12 : decode cX7_isTogether 12 = .ok (.iload_n 2, 1) := by decide +kernel
theorem dX7_isTogether_13 : decode cX7_isTogether 13 = .ok (.ifCond .eq 16, 3) := by decide +kernel
theorem dX7_isTogether_16 : decode cX7_isTogether 16 = .ok (.aload_n 0, 1) := by decide +kernel
theorem dX7_isTogether_17 : decode cX7_isTogether 17 = .ok (.iload_n 3, 1) := by decide +kernel
theorem dX7_isTogether_18 : decode cX7_isTogether 18 = .ok (.invokevirtual 167, 3) := by decide +kernel
theorem dX7_isTogether_21 : decode cX7_isTogether 21 = .ok (.iload_n 1, 1) := by decide +kernel
theorem dX7_isTogether_22 : decode cX7_isTogether 22 = .ok (.if_icmp .gt 7, 3) := by decide +kernel
theorem dX7_isTogether_25 : decode cX7_isTogether 25 = .ok (.iconst 1, 1) := by decide +kernel
theorem dX7_isTogether_26 : decode cX7_isTogether 26 = .ok (.goto 4, 3) := by decide +kernel
theorem dX7_isTogether_29 : decode cX7_isTogether 29 = .ok (.iconst 0, 1) := by decide +kernel
theorem dX7_isTogether_30 : decode cX7_isTogether 30 = .ok (.istore_n 2, 1) := by decide +kernel
theorem dX7_isTogether_31 : decode cX7_isTogether 31 = .ok (.iinc 3 1, 3) := by decide +kernel
theorem dX7_isTogether_34 : decode cX7_isTogether 34 = .ok (.goto (-30), 3) := by decide +kernel
theorem dX7_isTogether_37 : decode cX7_isTogether 37 = .ok (.iload_n 2, 1) := by decide +kernel
theorem dX7_isTogether_38 : decode cX7_isTogether 38 = .ok (.ireturn, 1) := by decide +kernel
theorem dX7_isParts_0 : decode cX7_isParts 0 = .ok (.iload_n 0, 1) := by decide +kernel
theorem dX7_isParts_1 : decode cX7_isParts 1 = .ok (.i2l, 1) := by decide +kernel
theorem dX7_isParts_2 : decode cX7_isParts 2 = .ok (.lconst 0, 1) := by decide +kernel
theorem dX7_isParts_3 : decode cX7_isParts 3 = .ok (.ldc2_w 89, 3) := by decide +kernel
theorem dX7_isParts_6 : decode cX7_isParts 6 = .ok (.invokestatic 60, 3) := by decide +kernel
theorem dX7_isParts_9 : decode cX7_isParts 9 = .ok (.ireturn, 1) := by decide +kernel
theorem dX7_together_0 : decode cX7_together 0 = .ok (.iload_n 1, 1) := by decide +kernel
theorem dX7_together_1 : decode cX7_together 1 = .ok (.invokestatic 170, 3) := by decide +kernel
theorem dX7_together_4 : decode cX7_together 4 = .ok (.ifCond .ne 10, 3) := by decide +kernel
theorem dX7_together_7 : decode cX7_together 7 = .ok (.aload_n 0, 1) := by decide +kernel
theorem dX7_together_8 : decode cX7_together 8 = .ok (.bipush (-2), 2) := by decide +kernel
theorem dX7_together_10 : decode cX7_together 10 = .ok (.invokevirtual 76, 3) := by decide +kernel
theorem dX7_together_13 : decode cX7_together 13 = .ok (.ireturn, 1) := by decide +kernel
theorem dX7_together_14 : decode cX7_together 14 = .ok (.aload_n 0, 1) := by decide +kernel
theorem dX7_together_15 : decode cX7_together 15 = .ok (.iconst 0, 1) := by decide +kernel
theorem dX7_together_16 : decode cX7_together 16 = .ok (.putfield 143, 3) := by decide +kernel
theorem dX7_together_19 : decode cX7_together 19 = .ok (.aload_n 0, 1) := by decide +kernel
theorem dX7_together_20 : decode cX7_together 20 = .ok (.iload_n 1, 1) := by decide +kernel
theorem dX7_together_21 : decode cX7_together 21 = .ok (.invokevirtual 173, 3) := by decide +kernel
theorem dX7_together_24 : decode cX7_together 24 = .ok (.ifCond .eq 7, 3) := by decide +kernel
theorem dX7_together_27 : decode cX7_together 27 = .ok (.iconst 1, 1) := by decide +kernel
theorem dX7_together_28 : decode cX7_together 28 = .ok (.goto 4, 3) := by decide +kernel
theorem dX7_together_31 : decode cX7_together 31 = .ok (.iconst 0, 1) := by decide +kernel
theorem dX7_together_32 : decode cX7_together 32 = .ok (.ireturn, 1) := by decide +kernel
theorem dX7_raiseAt_0 : decode cX7_raiseAt 0 = .ok (.ldc 166, 2) := by decide +kernel
theorem dX7_raiseAt_2 : decode cX7_raiseAt 2 = .ok (.istore_n 2, 1) := by decide +kernel
theorem dX7_raiseAt_3 : decode cX7_raiseAt 3 = .ok (.iconst 0, 1) := by decide +kernel
theorem dX7_raiseAt_4 : decode cX7_raiseAt 4 = .ok (.istore_n 3, 1) := by decide +kernel
theorem dX7_raiseAt_5 : decode cX7_raiseAt 5 = .ok (.iload_n 3, 1) := by decide +kernel
theorem dX7_raiseAt_6 : decode cX7_raiseAt 6 = .ok (.aload_n 0, 1) := by decide +kernel
theorem dX7_raiseAt_7 : decode cX7_raiseAt 7 = .ok (.getfield 139, 3) := by decide +kernel
theorem dX7_raiseAt_10 : decode cX7_raiseAt 10 = .ok (.if_icmp .ge 56, 3) := by decide +kernel
theorem dX7_raiseAt_13 : decode cX7_raiseAt 13 = .ok (.aload_n 0, 1) := by decide +kernel
theorem dX7_raiseAt_14 : decode cX7_raiseAt 14 = .ok (.aload_n 0, 1) := by decide +kernel
theorem dX7_raiseAt_15 : decode cX7_raiseAt 15 = .ok (.getfield 23, 3) := by decide +kernel
theorem dX7_raiseAt_18 : decode cX7_raiseAt 18 = .ok (.iload_n 3, 1) := by decide +kernel
theorem dX7_raiseAt_19 : decode cX7_raiseAt 19 = .ok (.iaload, 1) := by decide +kernel
theorem dX7_raiseAt_20 : decode cX7_raiseAt 20 = .ok (.iconst 0, 1) := by decide +kernel
theorem dX7_raiseAt_21 : decode cX7_raiseAt 21 = .ok (.invokevirtual 94, 3) := by decide +kernel
theorem dX7_raiseAt_24 : decode cX7_raiseAt 24 = .ok (.aload_n 0, 1) := by decide +kernel
theorem dX7_raiseAt_25 : decode cX7_raiseAt 25 = .ok (.getfield 32, 3) := by decide +kernel
theorem dX7_raiseAt_28 : decode cX7_raiseAt 28 = .ok (.aload_n 0, 1) := by decide +kernel
theorem dX7_raiseAt_29 : decode cX7_raiseAt 29 = .ok (.getfield 23, 3) := by decide +kernel
theorem dX7_raiseAt_32 : decode cX7_raiseAt 32 = .ok (.iload_n 3, 1) := by decide +kernel
theorem dX7_raiseAt_33 : decode cX7_raiseAt 33 = .ok (.iaload, 1) := by decide +kernel
theorem dX7_raiseAt_34 : decode cX7_raiseAt 34 = .ok (.iaload, 1) := by decide +kernel
theorem dX7_raiseAt_35 : decode cX7_raiseAt 35 = .ok (.invokestatic 121, 3) := by decide +kernel
theorem dX7_raiseAt_38 : decode cX7_raiseAt 38 = .ok (.aload_n 0, 1) := by decide +kernel
theorem dX7_raiseAt_39 : decode cX7_raiseAt 39 = .ok (.getfield 26, 3) := by decide +kernel
theorem dX7_raiseAt_42 : decode cX7_raiseAt 42 = .ok (.iload_n 3, 1) := by decide +kernel
theorem dX7_raiseAt_43 : decode cX7_raiseAt 43 = .ok (.iaload, 1) := by decide +kernel
theorem dX7_raiseAt_44 : decode cX7_raiseAt 44 = .ok (.iadd, 1) := by decide +kernel
theorem dX7_raiseAt_45 : decode cX7_raiseAt 45 = .ok (.istore 4, 2) := by decide +kernel
theorem dX7_raiseAt_47 : decode cX7_raiseAt 47 = .ok (.iload 4, 2) := by decide +kernel
theorem dX7_raiseAt_49 : decode cX7_raiseAt 49 = .ok (.iload_n 2, 1) := by decide +kernel
theorem dX7_raiseAt_50 : decode cX7_raiseAt 50 = .ok (.if_icmp .le 8, 3) := by decide +kernel
theorem dX7_raiseAt_53 : decode cX7_raiseAt 53 = .ok (.iload 4, 2) := by decide +kernel
theorem dX7_raiseAt_55 : decode cX7_raiseAt 55 = .ok (.goto 4, 3) := by decide +kernel
theorem dX7_raiseAt_58 : decode cX7_raiseAt 58 = .ok (.iload_n 2, 1) := by decide +kernel
theorem dX7_raiseAt_59 : decode cX7_raiseAt 59 = .ok (.istore_n 2, 1) := by decide +kernel
theorem dX7_raiseAt_60 : decode cX7_raiseAt 60 = .ok (.iinc 3 1, 3) := by decide +kernel
theorem dX7_raiseAt_63 : decode cX7_raiseAt 63 = .ok (.goto (-58), 3) := by decide +kernel
theorem dX7_raiseAt_66 : decode cX7_raiseAt 66 = .ok (.iconst 0, 1) := by decide +kernel
theorem dX7_raiseAt_67 : decode cX7_raiseAt 67 = .ok (.istore_n 3, 1) := by decide +kernel
theorem dX7_raiseAt_68 : decode cX7_raiseAt 68 = .ok (.iload_n 3, 1) := by decide +kernel
theorem dX7_raiseAt_69 : decode cX7_raiseAt 69 = .ok (.aload_n 0, 1) := by decide +kernel
theorem dX7_raiseAt_70 : decode cX7_raiseAt 70 = .ok (.getfield 139, 3) := by decide +kernel
theorem dX7_raiseAt_73 : decode cX7_raiseAt 73 = .ok (.if_icmp .ge 123, 3) := by decide +kernel
theorem dX7_raiseAt_76 : decode cX7_raiseAt 76 = .ok (.aload_n 0, 1) := by decide +kernel
theorem dX7_raiseAt_77 : decode cX7_raiseAt 77 = .ok (.getfield 23, 3) := by decide +kernel
theorem dX7_raiseAt_80 : decode cX7_raiseAt 80 = .ok (.iload_n 3, 1) := by decide +kernel
theorem dX7_raiseAt_81 : decode cX7_raiseAt 81 = .ok (.iaload, 1) := by decide +kernel
theorem dX7_raiseAt_82 : decode cX7_raiseAt 82 = .ok (.istore 4, 2) := by decide +kernel
theorem dX7_raiseAt_84 : decode cX7_raiseAt 84 = .ok (.aload_n 0, 1) := by decide +kernel
theorem dX7_raiseAt_85 : decode cX7_raiseAt 85 = .ok (.iload 4, 2) := by decide +kernel
theorem dX7_raiseAt_87 : decode cX7_raiseAt 87 = .ok (.iconst 0, 1) := by decide +kernel
theorem dX7_raiseAt_88 : decode cX7_raiseAt 88 = .ok (.invokevirtual 94, 3) := by decide +kernel
theorem dX7_raiseAt_91 : decode cX7_raiseAt 91 = .ok (.aload_n 0, 1) := by decide +kernel
theorem dX7_raiseAt_92 : decode cX7_raiseAt 92 = .ok (.getfield 32, 3) := by decide +kernel
theorem dX7_raiseAt_95 : decode cX7_raiseAt 95 = .ok (.iload 4, 2) := by decide +kernel
theorem dX7_raiseAt_97 : decode cX7_raiseAt 97 = .ok (.iaload, 1) := by decide +kernel
theorem dX7_raiseAt_98 : decode cX7_raiseAt 98 = .ok (.invokestatic 121, 3) := by decide +kernel
theorem dX7_raiseAt_101 : decode cX7_raiseAt 101 = .ok (.aload_n 0, 1) := by decide +kernel
theorem dX7_raiseAt_102 : decode cX7_raiseAt 102 = .ok (.getfield 26, 3) := by decide +kernel
theorem dX7_raiseAt_105 : decode cX7_raiseAt 105 = .ok (.iload_n 3, 1) := by decide +kernel
theorem dX7_raiseAt_106 : decode cX7_raiseAt 106 = .ok (.iaload, 1) := by decide +kernel
theorem dX7_raiseAt_107 : decode cX7_raiseAt 107 = .ok (.iadd, 1) := by decide +kernel
theorem dX7_raiseAt_108 : decode cX7_raiseAt 108 = .ok (.iload_n 2, 1) := by decide +kernel
theorem dX7_raiseAt_109 : decode cX7_raiseAt 109 = .ok (.iload_n 1, 1) := by decide +kernel
theorem dX7_raiseAt_110 : decode cX7_raiseAt 110 = .ok (.isub, 1) := by decide +kernel
theorem dX7_raiseAt_111 : decode cX7_raiseAt 111 = .ok (.if_icmp .ge 79, 3) := by decide +kernel
theorem dX7_raiseAt_114 : decode cX7_raiseAt 114 = .ok (.aload_n 0, 1) := by decide +kernel
theorem dX7_raiseAt_115 : decode cX7_raiseAt 115 = .ok (.getfield 32, 3) := by decide +kernel
theorem dX7_raiseAt_118 : decode cX7_raiseAt 118 = .ok (.iload 4, 2) := by decide +kernel
theorem dX7_raiseAt_120 : decode cX7_raiseAt 120 = .ok (.iaload, 1) := by decide +kernel
theorem dX7_raiseAt_121 : decode cX7_raiseAt 121 = .ok (.sipush 500, 3) := by decide +kernel
theorem dX7_raiseAt_124 : decode cX7_raiseAt 124 = .ok (.if_icmp .gt 47, 3) := by decide +kernel
theorem dX7_raiseAt_127 : decode cX7_raiseAt 127 = .ok (.aload_n 0, 1) := by decide +kernel
theorem dX7_raiseAt_128 : decode cX7_raiseAt 128 = .ok (.iload 4, 2) := by decide +kernel
theorem dX7_raiseAt_130 : decode cX7_raiseAt 130 = .ok (.iconst 0, 1) := by decide +kernel
theorem dX7_raiseAt_131 : decode cX7_raiseAt 131 = .ok (.invokevirtual 94, 3) := by decide +kernel
theorem dX7_raiseAt_134 : decode cX7_raiseAt 134 = .ok (.aload_n 0, 1) := by decide +kernel
theorem dX7_raiseAt_135 : decode cX7_raiseAt 135 = .ok (.getfield 32, 3) := by decide +kernel
theorem dX7_raiseAt_138 : decode cX7_raiseAt 138 = .ok (.iload 4, 2) := by decide +kernel
theorem dX7_raiseAt_140 : decode cX7_raiseAt 140 = .ok (.iaload, 1) := by decide +kernel
theorem dX7_raiseAt_141 : decode cX7_raiseAt 141 = .ok (.invokestatic 121, 3) := by decide +kernel
theorem dX7_raiseAt_144 : decode cX7_raiseAt 144 = .ok (.aload_n 0, 1) := by decide +kernel
theorem dX7_raiseAt_145 : decode cX7_raiseAt 145 = .ok (.getfield 26, 3) := by decide +kernel
theorem dX7_raiseAt_148 : decode cX7_raiseAt 148 = .ok (.iload_n 3, 1) := by decide +kernel
theorem dX7_raiseAt_149 : decode cX7_raiseAt 149 = .ok (.iaload, 1) := by decide +kernel
theorem dX7_raiseAt_150 : decode cX7_raiseAt 150 = .ok (.iadd, 1) := by decide +kernel
theorem dX7_raiseAt_151 : decode cX7_raiseAt 151 = .ok (.iload_n 2, 1) := by decide +kernel
theorem dX7_raiseAt_152 : decode cX7_raiseAt 152 = .ok (.iload_n 1, 1) := by decide +kernel
theorem dX7_raiseAt_153 : decode cX7_raiseAt 153 = .ok (.isub, 1) := by decide +kernel
theorem dX7_raiseAt_154 : decode cX7_raiseAt 154 = .ok (.if_icmp .ge 17, 3) := by decide +kernel
theorem dX7_raiseAt_157 : decode cX7_raiseAt 157 = .ok (.aload_n 0, 1) := by decide +kernel
theorem dX7_raiseAt_158 : decode cX7_raiseAt 158 = .ok (.getfield 32, 3) := by decide +kernel
theorem dX7_raiseAt_161 : decode cX7_raiseAt 161 = .ok (.iload 4, 2) := by decide +kernel
theorem dX7_raiseAt_163 : decode cX7_raiseAt 163 = .ok (.dup2, 1) := by decide +kernel
theorem dX7_raiseAt_164 : decode cX7_raiseAt 164 = .ok (.iaload, 1) := by decide +kernel
theorem dX7_raiseAt_165 : decode cX7_raiseAt 165 = .ok (.iconst 1, 1) := by decide +kernel
theorem dX7_raiseAt_166 : decode cX7_raiseAt 166 = .ok (.iadd, 1) := by decide +kernel
theorem dX7_raiseAt_167 : decode cX7_raiseAt 167 = .ok (.iastore, 1) := by decide +kernel
theorem dX7_raiseAt_168 : decode cX7_raiseAt 168 = .ok (.goto (-54), 3) := by decide +kernel
theorem dX7_raiseAt_171 : decode cX7_raiseAt 171 = .ok (.aload_n 0, 1) := by decide +kernel
theorem dX7_raiseAt_172 : decode cX7_raiseAt 172 = .ok (.getfield 32, 3) := by decide +kernel
theorem dX7_raiseAt_175 : decode cX7_raiseAt 175 = .ok (.iload 4, 2) := by decide +kernel
theorem dX7_raiseAt_177 : decode cX7_raiseAt 177 = .ok (.iaload, 1) := by decide +kernel
theorem dX7_raiseAt_178 : decode cX7_raiseAt 178 = .ok (.sipush 500, 3) := by decide +kernel
theorem dX7_raiseAt_181 : decode cX7_raiseAt 181 = .ok (.if_icmp .le 7, 3) := by decide +kernel
theorem dX7_raiseAt_184 : decode cX7_raiseAt 184 = .ok (.iconst (-1), 1) := by decide +kernel
theorem dX7_raiseAt_185 : decode cX7_raiseAt 185 = .ok (.goto 4, 3) := by decide +kernel
theorem dX7_raiseAt_188 : decode cX7_raiseAt 188 = .ok (.iconst 1, 1) := by decide +kernel
theorem dX7_raiseAt_189 : decode cX7_raiseAt 189 = .ok (.ireturn, 1) := by decide +kernel
theorem dX7_raiseAt_190 : decode cX7_raiseAt 190 = .ok (.iinc 3 1, 3) := by decide +kernel
theorem dX7_raiseAt_193 : decode cX7_raiseAt 193 = .ok (.goto (-125), 3) := by decide +kernel
theorem dX7_raiseAt_196 : decode cX7_raiseAt 196 = .ok (.iconst 0, 1) := by decide +kernel
theorem dX7_raiseAt_197 : decode cX7_raiseAt 197 = .ok (.ireturn, 1) := by decide +kernel
theorem dX7_canTune_0 : decode cX7_canTune 0 = .ok (.iconst 0, 1) := by decide +kernel
theorem dX7_canTune_1 : decode cX7_canTune 1 = .ok (.istore_n 2, 1) := by decide +kernel
theorem dX7_canTune_2 : decode cX7_canTune 2 = .ok (.iload_n 2, 1) := by decide +kernel
theorem dX7_canTune_3 : decode cX7_canTune 3 = .ok (.bipush 6, 2) := by decide +kernel
theorem dX7_canTune_5 : decode cX7_canTune 5 = .ok (.if_icmp .ge 18, 3) := by decide +kernel
theorem dX7_canTune_8 : decode cX7_canTune 8 = .ok (.aload_n 0, 1) := by decide +kernel
theorem dX7_canTune_9 : decode cX7_canTune 9 = .ok (.getfield 32, 3) := by decide +kernel
theorem dX7_canTune_12 : decode cX7_canTune 12 = .ok (.iload_n 2, 1) := by decide +kernel
theorem dX7_canTune_13 : decode cX7_canTune 13 = .ok (.sipush (-500), 3) := by decide +kernel
theorem dX7_canTune_16 : decode cX7_canTune 16 = .ok (.iastore, 1) := by decide +kernel
theorem dX7_canTune_17 : decode cX7_canTune 17 = .ok (.iinc 2 1, 3) := by decide +kernel
theorem dX7_canTune_20 : decode cX7_canTune 20 = .ok (.goto (-18), 3) := by decide +kernel
theorem dX7_canTune_23 : decode cX7_canTune 23 = .ok (.iconst 1, 1) := by decide +kernel
theorem dX7_canTune_24 : decode cX7_canTune 24 = .ok (.istore_n 2, 1) := by decide +kernel
theorem dX7_canTune_25 : decode cX7_canTune 25 = .ok (.iload_n 2, 1) := by decide +kernel
theorem dX7_canTune_26 : decode cX7_canTune 26 = .ok (.iconst 1, 1) := by decide +kernel
theorem dX7_canTune_27 : decode cX7_canTune 27 = .ok (.if_icmp .ne 39, 3) := by decide +kernel
theorem dX7_canTune_30 : decode cX7_canTune 30 = .ok (.iconst 0, 1) := by decide +kernel
theorem dX7_canTune_31 : decode cX7_canTune 31 = .ok (.istore_n 2, 1) := by decide +kernel
theorem dX7_canTune_32 : decode cX7_canTune 32 = .ok (.iconst 0, 1) := by decide +kernel
theorem dX7_canTune_33 : decode cX7_canTune 33 = .ok (.istore_n 3, 1) := by decide +kernel
theorem dX7_canTune_34 : decode cX7_canTune 34 = .ok (.iload_n 3, 1) := by decide +kernel
theorem dX7_canTune_35 : decode cX7_canTune 35 = .ok (.aload_n 0, 1) := by decide +kernel
theorem dX7_canTune_36 : decode cX7_canTune 36 = .ok (.invokevirtual 64, 3) := by decide +kernel
theorem dX7_canTune_39 : decode cX7_canTune 39 = .ok (.if_icmp .ge 24, 3) := by decide +kernel
theorem dX7_canTune_42 : decode cX7_canTune 42 = .ok (.iload_n 2, 1) := by decide +kernel
theorem dX7_canTune_43 : decode cX7_canTune 43 = .ok (.ifCond .ne 20, 3) := by decide +kernel
theorem dX7_canTune_46 : decode cX7_canTune 46 = .ok (.aload_n 0, 1) := by decide +kernel
theorem dX7_canTune_47 : decode cX7_canTune 47 = .ok (.iload_n 3, 1) := by decide +kernel
theorem dX7_canTune_48 : decode cX7_canTune 48 = .ok (.invokevirtual 160, 3) := by decide +kernel
theorem dX7_canTune_51 : decode cX7_canTune 51 = .ok (.aload_n 0, 1) := by decide +kernel
theorem dX7_canTune_52 : decode cX7_canTune 52 = .ok (.iload_n 1, 1) := by decide +kernel
theorem dX7_canTune_53 : decode cX7_canTune 53 = .ok (.invokevirtual 176, 3) := by decide +kernel
theorem dX7_canTune_56 : decode cX7_canTune 56 = .ok (.istore_n 2, 1) := by decide +kernel
theorem dX7_canTune_57 : decode cX7_canTune 57 = .ok (.iinc 3 1, 3) := by decide +kernel
theorem dX7_canTune_60 : decode cX7_canTune 60 = .ok (.goto (-26), 3) := by decide +kernel
theorem dX7_canTune_63 : decode cX7_canTune 63 = .ok (.goto (-38), 3) := by decide +kernel
theorem dX7_canTune_66 : decode cX7_canTune 66 = .ok (.iload_n 2, 1) := by decide +kernel
theorem dX7_canTune_67 : decode cX7_canTune 67 = .ok (.ifCond .ne 7, 3) := by decide +kernel
theorem dX7_canTune_70 : decode cX7_canTune 70 = .ok (.iconst 1, 1) := by decide +kernel
theorem dX7_canTune_71 : decode cX7_canTune 71 = .ok (.goto 4, 3) := by decide +kernel
theorem dX7_canTune_74 : decode cX7_canTune 74 = .ok (.iconst 0, 1) := by decide +kernel
theorem dX7_canTune_75 : decode cX7_canTune 75 = .ok (.ireturn, 1) := by decide +kernel
theorem dX7_tuned_0 : decode cX7_tuned 0 = .ok (.iload_n 1, 1) := by decide +kernel
theorem dX7_tuned_1 : decode cX7_tuned 1 = .ok (.invokestatic 170, 3) := by decide +kernel
theorem dX7_tuned_4 : decode cX7_tuned 4 = .ok (.ifCond .eq 16, 3) := by decide +kernel
theorem dX7_tuned_7 : decode cX7_tuned 7 = .ok (.iload_n 2, 1) := by decide +kernel
theorem dX7_tuned_8 : decode cX7_tuned 8 = .ok (.iconst (-1), 1) := by decide +kernel
theorem dX7_tuned_9 : decode cX7_tuned 9 = .ok (.if_icmp .eq 19, 3) := by decide +kernel
theorem dX7_tuned_12 : decode cX7_tuned 12 = .ok (.aload_n 0, 1) := by decide +kernel
theorem dX7_tuned_13 : decode cX7_tuned 13 = .ok (.iload_n 2, 1) := by decide +kernel
theorem dX7_tuned_14 : decode cX7_tuned 14 = .ok (.invokevirtual 115, 3) := by decide +kernel
theorem dX7_tuned_17 : decode cX7_tuned 17 = .ok (.ifCond .ne 11, 3) := by decide +kernel
theorem dX7_tuned_20 : decode cX7_tuned 20 = .ok (.aload_n 0, 1) := by decide +kernel
theorem dX7_tuned_21 : decode cX7_tuned 21 = .ok (.sipush (-2000), 3) := by decide +kernel
theorem dX7_tuned_24 : decode cX7_tuned 24 = .ok (.invokevirtual 76, 3) := by decide +kernel
theorem dX7_tuned_27 : decode cX7_tuned 27 = .ok (.ireturn, 1) := by decide +kernel
theorem dX7_tuned_28 : decode cX7_tuned 28 = .ok (.aload_n 0, 1) := by decide +kernel
theorem dX7_tuned_29 : decode cX7_tuned 29 = .ok (.iconst 0, 1) := by decide +kernel
theorem dX7_tuned_30 : decode cX7_tuned 30 = .ok (.putfield 143, 3) := by decide +kernel
theorem dX7_tuned_33 : decode cX7_tuned 33 = .ok (.aload_n 0, 1) := by decide +kernel
theorem dX7_tuned_34 : decode cX7_tuned 34 = .ok (.iload_n 1, 1) := by decide +kernel
theorem dX7_tuned_35 : decode cX7_tuned 35 = .ok (.invokevirtual 179, 3) := by decide +kernel
theorem dX7_tuned_38 : decode cX7_tuned 38 = .ok (.istore_n 3, 1) := by decide +kernel
theorem dX7_tuned_39 : decode cX7_tuned 39 = .ok (.iload_n 2, 1) := by decide +kernel
theorem dX7_tuned_40 : decode cX7_tuned 40 = .ok (.iconst (-1), 1) := by decide +kernel
theorem dX7_tuned_41 : decode cX7_tuned 41 = .ok (.if_icmp .ne 15, 3) := by decide +kernel
theorem dX7_tuned_44 : decode cX7_tuned 44 = .ok (.iload_n 3, 1) := by decide +kernel
theorem dX7_tuned_45 : decode cX7_tuned 45 = .ok (.ifCond .eq 7, 3) := by decide +kernel
theorem dX7_tuned_48 : decode cX7_tuned 48 = .ok (.iconst 1, 1) := by decide +kernel
theorem dX7_tuned_49 : decode cX7_tuned 49 = .ok (.goto 23, 3) := by decide +kernel
theorem dX7_tuned_52 : decode cX7_tuned 52 = .ok (.iconst 0, 1) := by decide +kernel
theorem dX7_tuned_53 : decode cX7_tuned 53 = .ok (.goto 19, 3) := by decide +kernel
theorem dX7_tuned_56 : decode cX7_tuned 56 = .ok (.iload_n 3, 1) := by decide +kernel
theorem dX7_tuned_57 : decode cX7_tuned 57 = .ok (.ifCond .eq 12, 3) := by decide +kernel
theorem dX7_tuned_60 : decode cX7_tuned 60 = .ok (.aload_n 0, 1) := by decide +kernel
theorem dX7_tuned_61 : decode cX7_tuned 61 = .ok (.getfield 32, 3) := by decide +kernel
theorem dX7_tuned_64 : decode cX7_tuned 64 = .ok (.iload_n 2, 1) := by decide +kernel
theorem dX7_tuned_65 : decode cX7_tuned 65 = .ok (.iaload, 1) := by decide +kernel
theorem dX7_tuned_66 : decode cX7_tuned 66 = .ok (.goto 6, 3) := by decide +kernel
theorem dX7_tuned_69 : decode cX7_tuned 69 = .ok (.sipush (-1000), 3) := by decide +kernel
theorem dX7_tuned_72 : decode cX7_tuned 72 = .ok (.ireturn, 1) := by decide +kernel
theorem dX7_all_0 : decode cX7_all 0 = .ok (.iconst 1, 1) := by decide +kernel
theorem dX7_all_1 : decode cX7_all 1 = .ok (.aload_n 0, 1) := by decide +kernel
theorem dX7_all_2 : decode cX7_all 2 = .ok (.invokevirtual 67, 3) := by decide +kernel
theorem dX7_all_5 : decode cX7_all 5 = .ok (.ishl, 1) := by decide +kernel
theorem dX7_all_6 : decode cX7_all 6 = .ok (.iconst 1, 1) := by decide +kernel
theorem dX7_all_7 : decode cX7_all 7 = .ok (.isub, 1) := by decide +kernel
theorem dX7_all_8 : decode cX7_all 8 = .ok (.ireturn, 1) := by decide +kernel
theorem dX7_manyIn_0 : decode cX7_manyIn 0 = .ok (.iconst 0, 1) := by decide +kernel
theorem dX7_manyIn_1 : decode cX7_manyIn 1 = .ok (.istore_n 1, 1) := by decide +kernel
theorem dX7_manyIn_2 : decode cX7_manyIn 2 = .ok (.iconst 0, 1) := by decide +kernel
theorem dX7_manyIn_3 : decode cX7_manyIn 3 = .ok (.istore_n 2, 1) := by decide +kernel
theorem dX7_manyIn_4 : decode cX7_manyIn 4 = .ok (.iload_n 2, 1) := by decide +kernel
theorem dX7_manyIn_5 : decode cX7_manyIn 5 = .ok (.bipush 6, 2) := by decide +kernel
theorem dX7_manyIn_7 : decode cX7_manyIn 7 = .ok (.if_icmp .ge 17, 3) := by decide +kernel
theorem dX7_manyIn_10 : decode cX7_manyIn 10 = .ok (.iload_n 1, 1) := by decide +kernel
theorem dX7_manyIn_11 : decode cX7_manyIn 11 = .ok (.iload_n 0, 1) := by decide +kernel
theorem dX7_manyIn_12 : decode cX7_manyIn 12 = .ok (.iload_n 2, 1) := by decide +kernel
theorem dX7_manyIn_13 : decode cX7_manyIn 13 = .ok (.ishr, 1) := by decide +kernel
theorem dX7_manyIn_14 : decode cX7_manyIn 14 = .ok (.iconst 1, 1) := by decide +kernel
theorem dX7_manyIn_15 : decode cX7_manyIn 15 = .ok (.iand, 1) := by decide +kernel
theorem dX7_manyIn_16 : decode cX7_manyIn 16 = .ok (.iadd, 1) := by decide +kernel
theorem dX7_manyIn_17 : decode cX7_manyIn 17 = .ok (.istore_n 1, 1) := by decide +kernel
theorem dX7_manyIn_18 : decode cX7_manyIn 18 = .ok (.iinc 2 1, 3) := by decide +kernel
theorem dX7_manyIn_21 : decode cX7_manyIn 21 = .ok (.goto (-17), 3) := by decide +kernel
theorem dX7_manyIn_24 : decode cX7_manyIn 24 = .ok (.iload_n 1, 1) := by decide +kernel
theorem dX7_manyIn_25 : decode cX7_manyIn 25 = .ok (.ireturn, 1) := by decide +kernel
theorem dX7_clash_0 : decode cX7_clash 0 = .ok (.iload_n 1, 1) := by decide +kernel
theorem dX7_clash_1 : decode cX7_clash 1 = .ok (.invokestatic 170, 3) := by decide +kernel
theorem dX7_clash_4 : decode cX7_clash 4 = .ok (.ifCond .ne 10, 3) := by decide +kernel
theorem dX7_clash_7 : decode cX7_clash 7 = .ok (.aload_n 0, 1) := by decide +kernel
theorem dX7_clash_8 : decode cX7_clash 8 = .ok (.bipush (-2), 2) := by decide +kernel
theorem dX7_clash_10 : decode cX7_clash 10 = .ok (.invokevirtual 76, 3) := by decide +kernel
theorem dX7_clash_13 : decode cX7_clash 13 = .ok (.ireturn, 1) := by decide +kernel
theorem dX7_clash_14 : decode cX7_clash 14 = .ok (.iconst (-1), 1) := by decide +kernel
theorem dX7_clash_15 : decode cX7_clash 15 = .ok (.istore_n 2, 1) := by decide +kernel
theorem dX7_clash_16 : decode cX7_clash 16 = .ok (.iconst 0, 1) := by decide +kernel
theorem dX7_clash_17 : decode cX7_clash 17 = .ok (.istore_n 3, 1) := by decide +kernel
theorem dX7_clash_18 : decode cX7_clash 18 = .ok (.iload_n 3, 1) := by decide +kernel
theorem dX7_clash_19 : decode cX7_clash 19 = .ok (.aload_n 0, 1) := by decide +kernel
theorem dX7_clash_20 : decode cX7_clash 20 = .ok (.invokevirtual 182, 3) := by decide +kernel
theorem dX7_clash_23 : decode cX7_clash 23 = .ok (.if_icmp .gt 63, 3) := by decide +kernel
theorem dX7_clash_26 : decode cX7_clash 26 = .ok (.aload_n 0, 1) := by decide +kernel
theorem dX7_clash_27 : decode cX7_clash 27 = .ok (.aload_n 0, 1) := by decide +kernel
theorem dX7_clash_28 : decode cX7_clash 28 = .ok (.invokevirtual 182, 3) := by decide +kernel
theorem dX7_clash_31 : decode cX7_clash 31 = .ok (.iload_n 3, 1) := by decide +kernel
theorem dX7_clash_32 : decode cX7_clash 32 = .ok (.iconst (-1), 1) := by decide +kernel
theorem dX7_clash_33 : decode cX7_clash 33 = .ok (.ixor, 1) := by decide +kernel
theorem dX7_clash_34 : decode cX7_clash 34 = .ok (.iand, 1) := by decide +kernel
theorem dX7_clash_35 : decode cX7_clash 35 = .ok (.putfield 143, 3) := by decide +kernel
theorem dX7_clash_38 : decode cX7_clash 38 = .ok (.iload_n 2, 1) := by decide +kernel
theorem dX7_clash_39 : decode cX7_clash 39 = .ok (.iconst (-1), 1) := by decide +kernel
theorem dX7_clash_40 : decode cX7_clash 40 = .ok (.if_icmp .eq 14, 3) := by decide +kernel
theorem dX7_clash_43 : decode cX7_clash 43 = .ok (.iload_n 3, 1) := by decide +kernel
theorem dX7_clash_44 : decode cX7_clash 44 = .ok (.invokestatic 185, 3) := by decide +kernel
theorem dX7_clash_47 : decode cX7_clash 47 = .ok (.iload_n 2, 1) := by decide +kernel
theorem dX7_clash_48 : decode cX7_clash 48 = .ok (.invokestatic 185, 3) := by decide +kernel
theorem dX7_clash_51 : decode cX7_clash 51 = .ok (.if_icmp .ge 7, 3) := by decide +kernel
theorem dX7_clash_54 : decode cX7_clash 54 = .ok (.iconst 1, 1) := by decide +kernel
theorem dX7_clash_55 : decode cX7_clash 55 = .ok (.goto 4, 3) := by decide +kernel
theorem dX7_clash_58 : decode cX7_clash 58 = .ok (.iconst 0, 1) := by decide +kernel
theorem dX7_clash_59 : decode cX7_clash 59 = .ok (.istore 4, 2) := by decide +kernel
theorem dX7_clash_61 : decode cX7_clash 61 = .ok (.iload 4, 2) := by decide +kernel
theorem dX7_clash_63 : decode cX7_clash 63 = .ok (.ifCond .eq 15, 3) := by decide +kernel
theorem dX7_clash_66 : decode cX7_clash 66 = .ok (.aload_n 0, 1) := by decide +kernel
theorem dX7_clash_67 : decode cX7_clash 67 = .ok (.iload_n 1, 1) := by decide +kernel
theorem dX7_clash_68 : decode cX7_clash 68 = .ok (.invokevirtual 179, 3) := by decide +kernel
theorem dX7_clash_71 : decode cX7_clash 71 = .ok (.ifCond .ne 7, 3) := by decide +kernel
theorem dX7_clash_74 : decode cX7_clash 74 = .ok (.iload_n 3, 1) := by decide +kernel
theorem dX7_clash_75 : decode cX7_clash 75 = .ok (.goto 4, 3) := by decide +kernel
theorem dX7_clash_78 : decode cX7_clash 78 = .ok (.iload_n 2, 1) := by decide +kernel
theorem dX7_clash_79 : decode cX7_clash 79 = .ok (.istore_n 2, 1) := by decide +kernel
theorem dX7_clash_80 : decode cX7_clash 80 = .ok (.iinc 3 1, 3) := by decide +kernel
theorem dX7_clash_83 : decode cX7_clash 83 = .ok (.goto (-65), 3) := by decide +kernel
theorem dX7_clash_86 : decode cX7_clash 86 = .ok (.iload_n 2, 1) := by decide +kernel
theorem dX7_clash_87 : decode cX7_clash 87 = .ok (.ireturn, 1) := by decide +kernel
theorem dX7_leftOut_0 : decode cX7_leftOut 0 = .ok (.iload_n 1, 1) := by decide +kernel
theorem dX7_leftOut_1 : decode cX7_leftOut 1 = .ok (.invokestatic 170, 3) := by decide +kernel
theorem dX7_leftOut_4 : decode cX7_leftOut 4 = .ok (.ifCond .ne 10, 3) := by decide +kernel
theorem dX7_leftOut_7 : decode cX7_leftOut 7 = .ok (.aload_n 0, 1) := by decide +kernel
theorem dX7_leftOut_8 : decode cX7_leftOut 8 = .ok (.bipush (-2), 2) := by decide +kernel
theorem dX7_leftOut_10 : decode cX7_leftOut 10 = .ok (.invokevirtual 76, 3) := by decide +kernel
theorem dX7_leftOut_13 : decode cX7_leftOut 13 = .ok (.ireturn, 1) := by decide +kernel
theorem dX7_leftOut_14 : decode cX7_leftOut 14 = .ok (.aload_n 0, 1) := by decide +kernel
theorem dX7_leftOut_15 : decode cX7_leftOut 15 = .ok (.invokevirtual 182, 3) := by decide +kernel
theorem dX7_leftOut_18 : decode cX7_leftOut 18 = .ok (.istore_n 2, 1) := by decide +kernel
theorem dX7_leftOut_19 : decode cX7_leftOut 19 = .ok (.iconst 0, 1) := by decide +kernel
theorem dX7_leftOut_20 : decode cX7_leftOut 20 = .ok (.istore_n 3, 1) := by decide +kernel
theorem dX7_leftOut_21 : decode cX7_leftOut 21 = .ok (.iload_n 3, 1) := by decide +kernel
theorem dX7_leftOut_22 : decode cX7_leftOut 22 = .ok (.aload_n 0, 1) := by decide +kernel
theorem dX7_leftOut_23 : decode cX7_leftOut 23 = .ok (.invokevirtual 182, 3) := by decide +kernel
theorem dX7_leftOut_26 : decode cX7_leftOut 26 = .ok (.if_icmp .gt 54, 3) := by decide +kernel
theorem dX7_leftOut_29 : decode cX7_leftOut 29 = .ok (.aload_n 0, 1) := by decide +kernel
theorem dX7_leftOut_30 : decode cX7_leftOut 30 = .ok (.iload_n 3, 1) := by decide +kernel
theorem dX7_leftOut_31 : decode cX7_leftOut 31 = .ok (.putfield 143, 3) := by decide +kernel
theorem dX7_leftOut_34 : decode cX7_leftOut 34 = .ok (.iload_n 2, 1) := by decide +kernel
theorem dX7_leftOut_35 : decode cX7_leftOut 35 = .ok (.invokestatic 185, 3) := by decide +kernel
theorem dX7_leftOut_38 : decode cX7_leftOut 38 = .ok (.iload_n 3, 1) := by decide +kernel
theorem dX7_leftOut_39 : decode cX7_leftOut 39 = .ok (.invokestatic 185, 3) := by decide +kernel
theorem dX7_leftOut_42 : decode cX7_leftOut 42 = .ok (.isub, 1) := by decide +kernel
theorem dX7_leftOut_43 : decode cX7_leftOut 43 = .ok (.istore 4, 2) := by decide +kernel
theorem dX7_leftOut_45 : decode cX7_leftOut 45 = .ok (.iload 4, 2) := by decide +kernel
theorem dX7_leftOut_47 : decode cX7_leftOut 47 = .ok (.ifCond .gt 13, 3) := by decide +kernel
theorem dX7_leftOut_50 : decode cX7_leftOut 50 = .ok (.iload 4, 2) := by decide +kernel
theorem dX7_leftOut_52 : decode cX7_leftOut 52 = .ok (.ifCond .ne 20, 3) := by decide +kernel
theorem dX7_leftOut_55 : decode cX7_leftOut 55 = .ok (.iload_n 3, 1) := by decide +kernel
theorem dX7_leftOut_56 : decode cX7_leftOut 56 = .ok (.iload_n 2, 1) := by decide +kernel
theorem dX7_leftOut_57 : decode cX7_leftOut 57 = .ok (.if_icmp .ge 15, 3) := by decide +kernel
theorem dX7_leftOut_60 : decode cX7_leftOut 60 = .ok (.aload_n 0, 1) := by decide +kernel
theorem dX7_leftOut_61 : decode cX7_leftOut 61 = .ok (.iload_n 1, 1) := by decide +kernel
theorem dX7_leftOut_62 : decode cX7_leftOut 62 = .ok (.invokevirtual 179, 3) := by decide +kernel
theorem dX7_leftOut_65 : decode cX7_leftOut 65 = .ok (.ifCond .eq 7, 3) := by decide +kernel
theorem dX7_leftOut_68 : decode cX7_leftOut 68 = .ok (.iload_n 3, 1) := by decide +kernel
theorem dX7_leftOut_69 : decode cX7_leftOut 69 = .ok (.goto 4, 3) := by decide +kernel
theorem dX7_leftOut_72 : decode cX7_leftOut 72 = .ok (.iload_n 2, 1) := by decide +kernel
theorem dX7_leftOut_73 : decode cX7_leftOut 73 = .ok (.istore_n 2, 1) := by decide +kernel
theorem dX7_leftOut_74 : decode cX7_leftOut 74 = .ok (.iinc 3 1, 3) := by decide +kernel
theorem dX7_leftOut_77 : decode cX7_leftOut 77 = .ok (.goto (-56), 3) := by decide +kernel
theorem dX7_leftOut_80 : decode cX7_leftOut 80 = .ok (.iload_n 2, 1) := by decide +kernel
theorem dX7_leftOut_81 : decode cX7_leftOut 81 = .ok (.ireturn, 1) := by decide +kernel
theorem dX7_follow_0 : decode cX7_follow 0 = .ok (.aload_n 0, 1) := by decide +kernel
theorem dX7_follow_1 : decode cX7_follow 1 = .ok (.iload_n 1, 1) := by decide +kernel
theorem dX7_follow_2 : decode cX7_follow 2 = .ok (.invokevirtual 115, 3) := by decide +kernel
theorem dX7_follow_5 : decode cX7_follow 5 = .ok (.ifCond .eq 11, 3) := by decide +kernel
theorem dX7_follow_8 : decode cX7_follow 8 = .ok (.aload_n 0, 1) := by decide +kernel
theorem dX7_follow_9 : decode cX7_follow 9 = .ok (.iload_n 2, 1) := by decide +kernel
theorem dX7_follow_10 : decode cX7_follow 10 = .ok (.invokevirtual 115, 3) := by decide +kernel
theorem dX7_follow_13 : decode cX7_follow 13 = .ok (.ifCond .ne 10, 3) := by decide +kernel
theorem dX7_follow_16 : decode cX7_follow 16 = .ok (.aload_n 0, 1) := by decide +kernel
theorem dX7_follow_17 : decode cX7_follow 17 = .ok (.bipush (-2), 2) := by decide +kernel
theorem dX7_follow_19 : decode cX7_follow 19 = .ok (.invokevirtual 76, 3) := by decide +kernel
theorem dX7_follow_22 : decode cX7_follow 22 = .ok (.ireturn, 1) := by decide +kernel
theorem dX7_follow_23 : decode cX7_follow 23 = .ok (.aload_n 0, 1) := by decide +kernel
theorem dX7_follow_24 : decode cX7_follow 24 = .ok (.iload_n 1, 1) := by decide +kernel
theorem dX7_follow_25 : decode cX7_follow 25 = .ok (.iconst 4, 1) := by decide +kernel
theorem dX7_follow_26 : decode cX7_follow 26 = .ok (.invokevirtual 94, 3) := by decide +kernel
theorem dX7_follow_29 : decode cX7_follow 29 = .ok (.istore_n 3, 1) := by decide +kernel
theorem dX7_follow_30 : decode cX7_follow 30 = .ok (.aload_n 0, 1) := by decide +kernel
theorem dX7_follow_31 : decode cX7_follow 31 = .ok (.getfield 7, 3) := by decide +kernel
theorem dX7_follow_34 : decode cX7_follow 34 = .ok (.bipush 24, 2) := by decide +kernel
theorem dX7_follow_36 : decode cX7_follow 36 = .ok (.iconst 5, 1) := by decide +kernel
theorem dX7_follow_37 : decode cX7_follow 37 = .ok (.iload_n 1, 1) := by decide +kernel
theorem dX7_follow_38 : decode cX7_follow 38 = .ok (.imul, 1) := by decide +kernel
theorem dX7_follow_39 : decode cX7_follow 39 = .ok (.iadd, 1) := by decide +kernel
theorem dX7_follow_40 : decode cX7_follow 40 = .ok (.iconst 4, 1) := by decide +kernel
theorem dX7_follow_41 : decode cX7_follow 41 = .ok (.iadd, 1) := by decide +kernel
theorem dX7_follow_42 : decode cX7_follow 42 = .ok (.iload_n 2, 1) := by decide +kernel
theorem dX7_follow_43 : decode cX7_follow 43 = .ok (.iastore, 1) := by decide +kernel
theorem dX7_follow_44 : decode cX7_follow 44 = .ok (.iload_n 3, 1) := by decide +kernel
theorem dX7_follow_45 : decode cX7_follow 45 = .ok (.ireturn, 1) := by decide +kernel
theorem dX7_hold_0 : decode cX7_hold 0 = .ok (.iload_n 0, 1) := by decide +kernel
theorem dX7_hold_1 : decode cX7_hold 1 = .ok (.sipush (-500), 3) := by decide +kernel
theorem dX7_hold_4 : decode cX7_hold 4 = .ok (.if_icmp .ge 9, 3) := by decide +kernel
theorem dX7_hold_7 : decode cX7_hold 7 = .ok (.sipush (-500), 3) := by decide +kernel
theorem dX7_hold_10 : decode cX7_hold 10 = .ok (.goto 17, 3) := by decide +kernel
theorem dX7_hold_13 : decode cX7_hold 13 = .ok (.iload_n 0, 1) := by decide +kernel
theorem dX7_hold_14 : decode cX7_hold 14 = .ok (.sipush 500, 3) := by decide +kernel
theorem dX7_hold_17 : decode cX7_hold 17 = .ok (.if_icmp .le 9, 3) := by decide +kernel
theorem dX7_hold_20 : decode cX7_hold 20 = .ok (.sipush 500, 3) := by decide +kernel
theorem dX7_hold_23 : decode cX7_hold 23 = .ok (.goto 4, 3) := by decide +kernel
theorem dX7_hold_26 : decode cX7_hold 26 = .ok (.iload_n 0, 1) := by decide +kernel
theorem dX7_hold_27 : decode cX7_hold 27 = .ok (.ireturn, 1) := by decide +kernel
theorem dX7_takeOffsets_0 : decode cX7_takeOffsets 0 = .ok (.iconst 0, 1) := by decide +kernel
theorem dX7_takeOffsets_1 : decode cX7_takeOffsets 1 = .ok (.istore_n 2, 1) := by decide +kernel
theorem dX7_takeOffsets_2 : decode cX7_takeOffsets 2 = .ok (.iload_n 2, 1) := by decide +kernel
theorem dX7_takeOffsets_3 : decode cX7_takeOffsets 3 = .ok (.aload_n 0, 1) := by decide +kernel
theorem dX7_takeOffsets_4 : decode cX7_takeOffsets 4 = .ok (.invokevirtual 67, 3) := by decide +kernel
theorem dX7_takeOffsets_7 : decode cX7_takeOffsets 7 = .ok (.if_icmp .ge 18, 3) := by decide +kernel
theorem dX7_takeOffsets_10 : decode cX7_takeOffsets 10 = .ok (.aload_n 1, 1) := by decide +kernel
theorem dX7_takeOffsets_11 : decode cX7_takeOffsets 11 = .ok (.iload_n 2, 1) := by decide +kernel
theorem dX7_takeOffsets_12 : decode cX7_takeOffsets 12 = .ok (.aload_n 0, 1) := by decide +kernel
theorem dX7_takeOffsets_13 : decode cX7_takeOffsets 13 = .ok (.iload_n 2, 1) := by decide +kernel
theorem dX7_takeOffsets_14 : decode cX7_takeOffsets 14 = .ok (.iconst 3, 1) := by decide +kernel
theorem dX7_takeOffsets_15 : decode cX7_takeOffsets 15 = .ok (.invokevirtual 94, 3) := by decide +kernel
theorem dX7_takeOffsets_18 : decode cX7_takeOffsets 18 = .ok (.iastore, 1) := by decide +kernel
theorem dX7_takeOffsets_19 : decode cX7_takeOffsets 19 = .ok (.iinc 2 1, 3) := by decide +kernel
theorem dX7_takeOffsets_22 : decode cX7_takeOffsets 22 = .ok (.goto (-20), 3) := by decide +kernel
theorem dX7_takeOffsets_25 : decode cX7_takeOffsets 25 = .ok (.return_, 1) := by decide +kernel
theorem dX7_makeRound_0 : decode cX7_makeRound 0 = .ok (.iconst 0, 1) := by decide +kernel
theorem dX7_makeRound_1 : decode cX7_makeRound 1 = .ok (.istore_n 2, 1) := by decide +kernel
theorem dX7_makeRound_2 : decode cX7_makeRound 2 = .ok (.iload_n 2, 1) := by decide +kernel
theorem dX7_makeRound_3 : decode cX7_makeRound 3 = .ok (.aload_n 0, 1) := by decide +kernel
theorem dX7_makeRound_4 : decode cX7_makeRound 4 = .ok (.invokevirtual 67, 3) := by decide +kernel
theorem dX7_makeRound_7 : decode cX7_makeRound 7 = .ok (.if_icmp .ge 84, 3) := by decide +kernel
theorem dX7_makeRound_10 : decode cX7_makeRound 10 = .ok (.aload_n 0, 1) := by decide +kernel
theorem dX7_makeRound_11 : decode cX7_makeRound 11 = .ok (.iload_n 2, 1) := by decide +kernel
theorem dX7_makeRound_12 : decode cX7_makeRound 12 = .ok (.iconst 4, 1) := by decide +kernel
theorem dX7_makeRound_13 : decode cX7_makeRound 13 = .ok (.invokevirtual 94, 3) := by decide +kernel
theorem dX7_makeRound_16 : decode cX7_makeRound 16 = .ok (.istore_n 3, 1) := by decide +kernel
theorem dX7_makeRound_17 : decode cX7_makeRound 17 = .ok (.aload_n 0, 1) := by decide +kernel
theorem dX7_makeRound_18 : decode cX7_makeRound 18 = .ok (.iconst 0, 1) := by decide +kernel
theorem dX7_makeRound_19 : decode cX7_makeRound 19 = .ok (.iconst 2, 1) := by decide +kernel
theorem dX7_makeRound_20 : decode cX7_makeRound 20 = .ok (.aload_n 0, 1) := by decide +kernel
theorem dX7_makeRound_21 : decode cX7_makeRound 21 = .ok (.iload_n 2, 1) := by decide +kernel
theorem dX7_makeRound_22 : decode cX7_makeRound 22 = .ok (.iconst 1, 1) := by decide +kernel
theorem dX7_makeRound_23 : decode cX7_makeRound 23 = .ok (.invokevirtual 94, 3) := by decide +kernel
theorem dX7_makeRound_26 : decode cX7_makeRound 26 = .ok (.imul, 1) := by decide +kernel
theorem dX7_makeRound_27 : decode cX7_makeRound 27 = .ok (.iadd, 1) := by decide +kernel
theorem dX7_makeRound_28 : decode cX7_makeRound 28 = .ok (.iconst 0, 1) := by decide +kernel
theorem dX7_makeRound_29 : decode cX7_makeRound 29 = .ok (.iconst 2, 1) := by decide +kernel
theorem dX7_makeRound_30 : decode cX7_makeRound 30 = .ok (.aload_n 0, 1) := by decide +kernel
theorem dX7_makeRound_31 : decode cX7_makeRound 31 = .ok (.iload_n 3, 1) := by decide +kernel
theorem dX7_makeRound_32 : decode cX7_makeRound 32 = .ok (.iconst 1, 1) := by decide +kernel
theorem dX7_makeRound_33 : decode cX7_makeRound 33 = .ok (.invokevirtual 94, 3) := by decide +kernel
theorem dX7_makeRound_36 : decode cX7_makeRound 36 = .ok (.imul, 1) := by decide +kernel
theorem dX7_makeRound_37 : decode cX7_makeRound 37 = .ok (.iadd, 1) := by decide +kernel
theorem dX7_makeRound_38 : decode cX7_makeRound 38 = .ok (.invokevirtual 130, 3) := by decide +kernel
theorem dX7_makeRound_41 : decode cX7_makeRound 41 = .ok (.aload_n 0, 1) := by decide +kernel
theorem dX7_makeRound_42 : decode cX7_makeRound 42 = .ok (.getfield 7, 3) := by decide +kernel
theorem dX7_makeRound_45 : decode cX7_makeRound 45 = .ok (.bipush 20, 2) := by decide +kernel
theorem dX7_makeRound_47 : decode cX7_makeRound 47 = .ok (.iaload, 1) := by decide +kernel
theorem dX7_makeRound_48 : decode cX7_makeRound 48 = .ok (.imul, 1) := by decide +kernel
theorem dX7_makeRound_49 : decode cX7_makeRound 49 = .ok (.istore 4, 2) := by decide +kernel
theorem dX7_makeRound_51 : decode cX7_makeRound 51 = .ok (.aload_n 0, 1) := by decide +kernel
theorem dX7_makeRound_52 : decode cX7_makeRound 52 = .ok (.getfield 38, 3) := by decide +kernel
theorem dX7_makeRound_55 : decode cX7_makeRound 55 = .ok (.iload_n 2, 1) := by decide +kernel
theorem dX7_makeRound_56 : decode cX7_makeRound 56 = .ok (.iload_n 3, 1) := by decide +kernel
theorem dX7_makeRound_57 : decode cX7_makeRound 57 = .ok (.iload_n 2, 1) := by decide +kernel
theorem dX7_makeRound_58 : decode cX7_makeRound 58 = .ok (.if_icmp .ne 9, 3) := by decide +kernel
theorem dX7_makeRound_61 : decode cX7_makeRound 61 = .ok (.aload_n 1, 1) := by decide +kernel
theorem dX7_makeRound_62 : decode cX7_makeRound 62 = .ok (.iload_n 2, 1) := by decide +kernel
theorem dX7_makeRound_63 : decode cX7_makeRound 63 = .ok (.iaload, 1) := by decide +kernel
theorem dX7_makeRound_64 : decode cX7_makeRound 64 = .ok (.goto 20, 3) := by decide +kernel
theorem dX7_makeRound_67 : decode cX7_makeRound 67 = .ok (.aload_n 1, 1) := by decide +kernel
theorem dX7_makeRound_68 : decode cX7_makeRound 68 = .ok (.iload_n 3, 1) := by decide +kernel
theorem dX7_makeRound_69 : decode cX7_makeRound 69 = .ok (.iaload, 1) := by decide +kernel
theorem dX7_makeRound_70 : decode cX7_makeRound 70 = .ok (.iload 4, 2) := by decide +kernel
theorem dX7_makeRound_72 : decode cX7_makeRound 72 = .ok (.iadd, 1) := by decide +kernel
theorem dX7_makeRound_73 : decode cX7_makeRound 73 = .ok (.aload_n 0, 1) := by decide +kernel
theorem dX7_makeRound_74 : decode cX7_makeRound 74 = .ok (.getfield 7, 3) := by decide +kernel
theorem dX7_makeRound_77 : decode cX7_makeRound 77 = .ok (.bipush 23, 2) := by decide +kernel
theorem dX7_makeRound_79 : decode cX7_makeRound 79 = .ok (.iaload, 1) := by decide +kernel
theorem dX7_makeRound_80 : decode cX7_makeRound 80 = .ok (.isub, 1) := by decide +kernel
theorem dX7_makeRound_81 : decode cX7_makeRound 81 = .ok (.invokestatic 188, 3) := by decide +kernel
theorem dX7_makeRound_84 : decode cX7_makeRound 84 = .ok (.iastore, 1) := by decide +kernel
theorem dX7_makeRound_85 : decode cX7_makeRound 85 = .ok (.iinc 2 1, 3) := by decide +kernel
theorem dX7_makeRound_88 : decode cX7_makeRound 88 = .ok (.goto (-86), 3) := by decide +kernel
theorem dX7_makeRound_91 : decode cX7_makeRound 91 = .ok (.iconst 0, 1) := by decide +kernel
theorem dX7_makeRound_92 : decode cX7_makeRound 92 = .ok (.istore_n 2, 1) := by decide +kernel
theorem dX7_makeRound_93 : decode cX7_makeRound 93 = .ok (.iconst 0, 1) := by decide +kernel
theorem dX7_makeRound_94 : decode cX7_makeRound 94 = .ok (.istore_n 3, 1) := by decide +kernel
theorem dX7_makeRound_95 : decode cX7_makeRound 95 = .ok (.iload_n 3, 1) := by decide +kernel
theorem dX7_makeRound_96 : decode cX7_makeRound 96 = .ok (.aload_n 0, 1) := by decide +kernel
theorem dX7_makeRound_97 : decode cX7_makeRound 97 = .ok (.invokevirtual 67, 3) := by decide +kernel
theorem dX7_makeRound_100 : decode cX7_makeRound 100 = .ok (.if_icmp .ge 38, 3) := by decide +kernel
theorem dX7_makeRound_103 : decode cX7_makeRound 103 = .ok (.iload_n 2, 1) := by decide +kernel
theorem dX7_makeRound_104 : decode cX7_makeRound 104 = .ok (.aload_n 0, 1) := by decide +kernel
theorem dX7_makeRound_105 : decode cX7_makeRound 105 = .ok (.getfield 38, 3) := by decide +kernel
theorem dX7_makeRound_108 : decode cX7_makeRound 108 = .ok (.iload_n 3, 1) := by decide +kernel
theorem dX7_makeRound_109 : decode cX7_makeRound 109 = .ok (.iaload, 1) := by decide +kernel
theorem dX7_makeRound_110 : decode cX7_makeRound 110 = .ok (.aload_n 1, 1) := by decide +kernel
theorem dX7_makeRound_111 : decode cX7_makeRound 111 = .ok (.iload_n 3, 1) := by decide +kernel
theorem dX7_makeRound_112 : decode cX7_makeRound 112 = .ok (.iaload, 1) := by decide +kernel
theorem dX7_makeRound_113 : decode cX7_makeRound 113 = .ok (.if_icmp .eq 7, 3) := by decide +kernel
theorem dX7_makeRound_116 : decode cX7_makeRound 116 = .ok (.iconst 1, 1) := by decide +kernel
theorem dX7_makeRound_117 : decode cX7_makeRound 117 = .ok (.goto 4, 3) := by decide +kernel
theorem dX7_makeRound_120 : decode cX7_makeRound 120 = .ok (.iconst 0, 1) := by decide +kernel
theorem dX7_makeRound_121 : decode cX7_makeRound 121 = .ok (.iadd, 1) := by decide +kernel
theorem dX7_makeRound_122 : decode cX7_makeRound 122 = .ok (.istore_n 2, 1) := by decide +kernel
theorem dX7_makeRound_123 : decode cX7_makeRound 123 = .ok (.aload_n 1, 1) := by decide +kernel
theorem dX7_makeRound_124 : decode cX7_makeRound 124 = .ok (.iload_n 3, 1) := by decide +kernel
theorem dX7_makeRound_125 : decode cX7_makeRound 125 = .ok (.aload_n 0, 1) := by decide +kernel
theorem dX7_makeRound_126 : decode cX7_makeRound 126 = .ok (.getfield 38, 3) := by decide +kernel
theorem dX7_makeRound_129 : decode cX7_makeRound 129 = .ok (.iload_n 3, 1) := by decide +kernel
theorem dX7_makeRound_130 : decode cX7_makeRound 130 = .ok (.iaload, 1) := by decide +kernel
theorem dX7_makeRound_131 : decode cX7_makeRound 131 = .ok (.iastore, 1) := by decide +kernel
theorem dX7_makeRound_132 : decode cX7_makeRound 132 = .ok (.iinc 3 1, 3) := by decide +kernel
theorem dX7_makeRound_135 : decode cX7_makeRound 135 = .ok (.goto (-40), 3) := by decide +kernel
theorem dX7_makeRound_138 : decode cX7_makeRound 138 = .ok (.iload_n 2, 1) := by decide +kernel
theorem dX7_makeRound_139 : decode cX7_makeRound 139 = .ok (.ireturn, 1) := by decide +kernel
theorem dX7_round_0 : decode cX7_round 0 = .ok (.aload_n 0, 1) := by decide +kernel
theorem dX7_round_1 : decode cX7_round 1 = .ok (.getfield 7, 3) := by decide +kernel
theorem dX7_round_4 : decode cX7_round 4 = .ok (.bipush 57, 2) := by decide +kernel
theorem dX7_round_6 : decode cX7_round 6 = .ok (.iaload, 1) := by decide +kernel
theorem dX7_round_7 : decode cX7_round 7 = .ok (.bipush 8, 2) := by decide +kernel
theorem dX7_round_9 : decode cX7_round 9 = .ok (.if_icmp .ne 44, 3) := by decide +kernel
theorem dX7_round_12 : decode cX7_round 12 = .ok (.iconst 0, 1) := by decide +kernel
theorem dX7_round_13 : decode cX7_round 13 = .ok (.istore_n 1, 1) := by decide +kernel
theorem dX7_round_14 : decode cX7_round 14 = .ok (.iload_n 1, 1) := by decide +kernel
theorem dX7_round_15 : decode cX7_round 15 = .ok (.bipush 42, 2) := by decide +kernel
theorem dX7_round_17 : decode cX7_round 17 = .ok (.if_icmp .ge 27, 3) := by decide +kernel
theorem dX7_round_20 : decode cX7_round 20 = .ok (.aload_n 0, 1) := by decide +kernel
theorem dX7_round_21 : decode cX7_round 21 = .ok (.getfield 7, 3) := by decide +kernel
theorem dX7_round_24 : decode cX7_round 24 = .ok (.bipush 58, 2) := by decide +kernel
theorem dX7_round_26 : decode cX7_round 26 = .ok (.iload_n 1, 1) := by decide +kernel
theorem dX7_round_27 : decode cX7_round 27 = .ok (.iadd, 1) := by decide +kernel
theorem dX7_round_28 : decode cX7_round 28 = .ok (.aload_n 0, 1) := by decide +kernel
theorem dX7_round_29 : decode cX7_round 29 = .ok (.getfield 7, 3) := by decide +kernel
theorem dX7_round_32 : decode cX7_round 32 = .ok (.bipush 64, 2) := by decide +kernel
theorem dX7_round_34 : decode cX7_round 34 = .ok (.iload_n 1, 1) := by decide +kernel
theorem dX7_round_35 : decode cX7_round 35 = .ok (.iadd, 1) := by decide +kernel
theorem dX7_round_36 : decode cX7_round 36 = .ok (.iaload, 1) := by decide +kernel
theorem dX7_round_37 : decode cX7_round 37 = .ok (.iastore, 1) := by decide +kernel
theorem dX7_round_38 : decode cX7_round 38 = .ok (.iinc 1 1, 3) := by decide +kernel
theorem dX7_round_41 : decode cX7_round 41 = .ok (.goto (-27), 3) := by decide +kernel
theorem dX7_round_44 : decode cX7_round 44 = .ok (.aload_n 0, 1) := by decide +kernel
theorem dX7_round_45 : decode cX7_round 45 = .ok (.getfield 7, 3) := by decide +kernel
theorem dX7_round_48 : decode cX7_round 48 = .ok (.bipush 57, 2) := by decide +kernel
theorem dX7_round_50 : decode cX7_round 50 = .ok (.bipush 7, 2) := by decide +kernel
theorem dX7_round_52 : decode cX7_round 52 = .ok (.iastore, 1) := by decide +kernel
theorem dX7_round_53 : decode cX7_round 53 = .ok (.aload_n 0, 1) := by decide +kernel
theorem dX7_round_54 : decode cX7_round 54 = .ok (.aload_n 0, 1) := by decide +kernel
theorem dX7_round_55 : decode cX7_round 55 = .ok (.getfield 35, 3) := by decide +kernel
theorem dX7_round_58 : decode cX7_round 58 = .ok (.invokevirtual 191, 3) := by decide +kernel
theorem dX7_round_61 : decode cX7_round 61 = .ok (.iconst 0, 1) := by decide +kernel
theorem dX7_round_62 : decode cX7_round 62 = .ok (.istore_n 1, 1) := by decide +kernel
theorem dX7_round_63 : decode cX7_round 63 = .ok (.iload_n 1, 1) := by decide +kernel
theorem dX7_round_64 : decode cX7_round 64 = .ok (.bipush 6, 2) := by decide +kernel
theorem dX7_round_66 : decode cX7_round 66 = .ok (.if_icmp .ge 35, 3) := by decide +kernel
theorem dX7_round_69 : decode cX7_round 69 = .ok (.aload_n 0, 1) := by decide +kernel
theorem dX7_round_70 : decode cX7_round 70 = .ok (.getfield 7, 3) := by decide +kernel
theorem dX7_round_73 : decode cX7_round 73 = .ok (.bipush 58, 2) := by decide +kernel
theorem dX7_round_75 : decode cX7_round 75 = .ok (.bipush 6, 2) := by decide +kernel
theorem dX7_round_77 : decode cX7_round 77 = .ok (.aload_n 0, 1) := by decide +kernel
theorem dX7_round_78 : decode cX7_round 78 = .ok (.getfield 7, 3) := by decide +kernel
theorem dX7_round_81 : decode cX7_round 81 = .ok (.bipush 57, 2) := by decide +kernel
theorem dX7_round_83 : decode cX7_round 83 = .ok (.iaload, 1) := by decide +kernel
theorem dX7_round_84 : decode cX7_round 84 = .ok (.imul, 1) := by decide +kernel
theorem dX7_round_85 : decode cX7_round 85 = .ok (.iadd, 1) := by decide +kernel
theorem dX7_round_86 : decode cX7_round 86 = .ok (.iload_n 1, 1) := by decide +kernel
theorem dX7_round_87 : decode cX7_round 87 = .ok (.iadd, 1) := by decide +kernel
theorem dX7_round_88 : decode cX7_round 88 = .ok (.aload_n 0, 1) := by decide +kernel
theorem dX7_round_89 : decode cX7_round 89 = .ok (.getfield 35, 3) := by decide +kernel
theorem dX7_round_92 : decode cX7_round 92 = .ok (.iload_n 1, 1) := by decide +kernel
theorem dX7_round_93 : decode cX7_round 93 = .ok (.iaload, 1) := by decide +kernel
theorem dX7_round_94 : decode cX7_round 94 = .ok (.iastore, 1) := by decide +kernel
theorem dX7_round_95 : decode cX7_round 95 = .ok (.iinc 1 1, 3) := by decide +kernel
theorem dX7_round_98 : decode cX7_round 98 = .ok (.goto (-35), 3) := by decide +kernel
theorem dX7_round_101 : decode cX7_round 101 = .ok (.aload_n 0, 1) := by decide +kernel
theorem dX7_round_102 : decode cX7_round 102 = .ok (.getfield 7, 3) := by decide +kernel
theorem dX7_round_105 : decode cX7_round 105 = .ok (.bipush 57, 2) := by decide +kernel
theorem dX7_round_107 : decode cX7_round 107 = .ok (.dup2, 1) := by decide +kernel
theorem dX7_round_108 : decode cX7_round 108 = .ok (.iaload, 1) := by decide +kernel
theorem dX7_round_109 : decode cX7_round 109 = .ok (.iconst 1, 1) := by decide +kernel
theorem dX7_round_110 : decode cX7_round 110 = .ok (.iadd, 1) := by decide +kernel
theorem dX7_round_111 : decode cX7_round 111 = .ok (.iastore, 1) := by decide +kernel
theorem dX7_round_112 : decode cX7_round 112 = .ok (.aload_n 0, 1) := by decide +kernel
theorem dX7_round_113 : decode cX7_round 113 = .ok (.aload_n 0, 1) := by decide +kernel
theorem dX7_round_114 : decode cX7_round 114 = .ok (.getfield 35, 3) := by decide +kernel
theorem dX7_round_117 : decode cX7_round 117 = .ok (.invokevirtual 195, 3) := by decide +kernel
theorem dX7_round_120 : decode cX7_round 120 = .ok (.istore_n 1, 1) := by decide +kernel
theorem dX7_round_121 : decode cX7_round 121 = .ok (.iconst 0, 1) := by decide +kernel
theorem dX7_round_122 : decode cX7_round 122 = .ok (.istore_n 2, 1) := by decide +kernel
theorem dX7_round_123 : decode cX7_round 123 = .ok (.iload_n 2, 1) := by decide +kernel
theorem dX7_round_124 : decode cX7_round 124 = .ok (.aload_n 0, 1) := by decide +kernel
theorem dX7_round_125 : decode cX7_round 125 = .ok (.invokevirtual 67, 3) := by decide +kernel
theorem dX7_round_128 : decode cX7_round 128 = .ok (.if_icmp .ge 28, 3) := by decide +kernel
theorem dX7_round_131 : decode cX7_round 131 = .ok (.aload_n 0, 1) := by decide +kernel
theorem dX7_round_132 : decode cX7_round 132 = .ok (.getfield 7, 3) := by decide +kernel
theorem dX7_round_135 : decode cX7_round 135 = .ok (.bipush 24, 2) := by decide +kernel
theorem dX7_round_137 : decode cX7_round 137 = .ok (.iconst 5, 1) := by decide +kernel
theorem dX7_round_138 : decode cX7_round 138 = .ok (.iload_n 2, 1) := by decide +kernel
theorem dX7_round_139 : decode cX7_round 139 = .ok (.imul, 1) := by decide +kernel
theorem dX7_round_140 : decode cX7_round 140 = .ok (.iadd, 1) := by decide +kernel
theorem dX7_round_141 : decode cX7_round 141 = .ok (.iconst 3, 1) := by decide +kernel
theorem dX7_round_142 : decode cX7_round 142 = .ok (.iadd, 1) := by decide +kernel
theorem dX7_round_143 : decode cX7_round 143 = .ok (.aload_n 0, 1) := by decide +kernel
theorem dX7_round_144 : decode cX7_round 144 = .ok (.getfield 35, 3) := by decide +kernel
theorem dX7_round_147 : decode cX7_round 147 = .ok (.iload_n 2, 1) := by decide +kernel
theorem dX7_round_148 : decode cX7_round 148 = .ok (.iaload, 1) := by decide +kernel
theorem dX7_round_149 : decode cX7_round 149 = .ok (.iastore, 1) := by decide +kernel
theorem dX7_round_150 : decode cX7_round 150 = .ok (.iinc 2 1, 3) := by decide +kernel
theorem dX7_round_153 : decode cX7_round 153 = .ok (.goto (-30), 3) := by decide +kernel
theorem dX7_round_156 : decode cX7_round 156 = .ok (.iload_n 1, 1) := by decide +kernel
theorem dX7_round_157 : decode cX7_round 157 = .ok (.ireturn, 1) := by decide +kernel
theorem dX7_undo_0 : decode cX7_undo 0 = .ok (.aload_n 0, 1) := by decide +kernel
theorem dX7_undo_1 : decode cX7_undo 1 = .ok (.getfield 7, 3) := by decide +kernel
theorem dX7_undo_4 : decode cX7_undo 4 = .ok (.bipush 57, 2) := by decide +kernel
theorem dX7_undo_6 : decode cX7_undo 6 = .ok (.iaload, 1) := by decide +kernel
theorem dX7_undo_7 : decode cX7_undo 7 = .ok (.ifCond .ne 8, 3) := by decide +kernel
theorem dX7_undo_10 : decode cX7_undo 10 = .ok (.aload_n 0, 1) := by decide +kernel
theorem dX7_undo_11 : decode cX7_undo 11 = .ok (.invokevirtual 199, 3) := by decide +kernel
theorem dX7_undo_14 : decode cX7_undo 14 = .ok (.ireturn, 1) := by decide +kernel
theorem dX7_undo_15 : decode cX7_undo 15 = .ok (.aload_n 0, 1) := by decide +kernel
theorem dX7_undo_16 : decode cX7_undo 16 = .ok (.getfield 7, 3) := by decide +kernel
theorem dX7_undo_19 : decode cX7_undo 19 = .ok (.bipush 57, 2) := by decide +kernel
theorem dX7_undo_21 : decode cX7_undo 21 = .ok (.dup2, 1) := by decide +kernel
theorem dX7_undo_22 : decode cX7_undo 22 = .ok (.iaload, 1) := by decide +kernel
theorem dX7_undo_23 : decode cX7_undo 23 = .ok (.iconst 1, 1) := by decide +kernel
theorem dX7_undo_24 : decode cX7_undo 24 = .ok (.isub, 1) := by decide +kernel
theorem dX7_undo_25 : decode cX7_undo 25 = .ok (.iastore, 1) := by decide +kernel
theorem dX7_undo_26 : decode cX7_undo 26 = .ok (.iconst 0, 1) := by decide +kernel
theorem dX7_undo_27 : decode cX7_undo 27 = .ok (.istore_n 1, 1) := by decide +kernel
theorem dX7_undo_28 : decode cX7_undo 28 = .ok (.iload_n 1, 1) := by decide +kernel
theorem dX7_undo_29 : decode cX7_undo 29 = .ok (.aload_n 0, 1) := by decide +kernel
theorem dX7_undo_30 : decode cX7_undo 30 = .ok (.invokevirtual 67, 3) := by decide +kernel
theorem dX7_undo_33 : decode cX7_undo 33 = .ok (.if_icmp .ge 42, 3) := by decide +kernel
theorem dX7_undo_36 : decode cX7_undo 36 = .ok (.aload_n 0, 1) := by decide +kernel
theorem dX7_undo_37 : decode cX7_undo 37 = .ok (.getfield 7, 3) := by decide +kernel
theorem dX7_undo_40 : decode cX7_undo 40 = .ok (.bipush 24, 2) := by decide +kernel
theorem dX7_undo_42 : decode cX7_undo 42 = .ok (.iconst 5, 1) := by decide +kernel
theorem dX7_undo_43 : decode cX7_undo 43 = .ok (.iload_n 1, 1) := by decide +kernel
theorem dX7_undo_44 : decode cX7_undo 44 = .ok (.imul, 1) := by decide +kernel
theorem dX7_undo_45 : decode cX7_undo 45 = .ok (.iadd, 1) := by decide +kernel
theorem dX7_undo_46 : decode cX7_undo 46 = .ok (.iconst 3, 1) := by decide +kernel
theorem dX7_undo_47 : decode cX7_undo 47 = .ok (.iadd, 1) := by decide +kernel
theorem dX7_undo_48 : decode cX7_undo 48 = .ok (.aload_n 0, 1) := by decide +kernel
theorem dX7_undo_49 : decode cX7_undo 49 = .ok (.getfield 7, 3) := by decide +kernel
theorem dX7_undo_52 : decode cX7_undo 52 = .ok (.bipush 58, 2) := by decide +kernel
theorem dX7_undo_54 : decode cX7_undo 54 = .ok (.bipush 6, 2) := by decide +kernel
theorem dX7_undo_56 : decode cX7_undo 56 = .ok (.aload_n 0, 1) := by decide +kernel
theorem dX7_undo_57 : decode cX7_undo 57 = .ok (.getfield 7, 3) := by decide +kernel
theorem dX7_undo_60 : decode cX7_undo 60 = .ok (.bipush 57, 2) := by decide +kernel
theorem dX7_undo_62 : decode cX7_undo 62 = .ok (.iaload, 1) := by decide +kernel
theorem dX7_undo_63 : decode cX7_undo 63 = .ok (.imul, 1) := by decide +kernel
theorem dX7_undo_64 : decode cX7_undo 64 = .ok (.iadd, 1) := by decide +kernel
theorem dX7_undo_65 : decode cX7_undo 65 = .ok (.iload_n 1, 1) := by decide +kernel
theorem dX7_undo_66 : decode cX7_undo 66 = .ok (.iadd, 1) := by decide +kernel
theorem dX7_undo_67 : decode cX7_undo 67 = .ok (.iaload, 1) := by decide +kernel
theorem dX7_undo_68 : decode cX7_undo 68 = .ok (.iastore, 1) := by decide +kernel
theorem dX7_undo_69 : decode cX7_undo 69 = .ok (.iinc 1 1, 3) := by decide +kernel
theorem dX7_undo_72 : decode cX7_undo 72 = .ok (.goto (-44), 3) := by decide +kernel
theorem dX7_undo_75 : decode cX7_undo 75 = .ok (.iconst 1, 1) := by decide +kernel
theorem dX7_undo_76 : decode cX7_undo 76 = .ok (.ireturn, 1) := by decide +kernel
theorem dX7_settles_0 : decode cX7_settles 0 = .ok (.aload_n 0, 1) := by decide +kernel
theorem dX7_settles_1 : decode cX7_settles 1 = .ok (.aload_n 0, 1) := by decide +kernel
theorem dX7_settles_2 : decode cX7_settles 2 = .ok (.getfield 35, 3) := by decide +kernel
theorem dX7_settles_5 : decode cX7_settles 5 = .ok (.invokevirtual 191, 3) := by decide +kernel
theorem dX7_settles_8 : decode cX7_settles 8 = .ok (.iconst 0, 1) := by decide +kernel
theorem dX7_settles_9 : decode cX7_settles 9 = .ok (.istore_n 1, 1) := by decide +kernel
theorem dX7_settles_10 : decode cX7_settles 10 = .ok (.iload_n 1, 1) := by decide +kernel
theorem dX7_settles_11 : decode cX7_settles 11 = .ok (.bipush 20, 2) := by decide +kernel
theorem dX7_settles_13 : decode cX7_settles 13 = .ok (.if_icmp .gt 22, 3) := by decide +kernel
theorem dX7_settles_16 : decode cX7_settles 16 = .ok (.aload_n 0, 1) := by decide +kernel
theorem dX7_settles_17 : decode cX7_settles 17 = .ok (.aload_n 0, 1) := by decide +kernel
theorem dX7_settles_18 : decode cX7_settles 18 = .ok (.getfield 35, 3) := by decide +kernel
theorem dX7_settles_21 : decode cX7_settles 21 = .ok (.invokevirtual 195, 3) := by decide +kernel
theorem dX7_settles_24 : decode cX7_settles 24 = .ok (.ifCond .ne 5, 3) := by decide +kernel
theorem dX7_settles_27 : decode cX7_settles 27 = .ok (.iload_n 1, 1) := by decide +kernel
theorem dX7_settles_28 : decode cX7_settles 28 = .ok (.ireturn, 1) := by decide +kernel
theorem dX7_settles_29 : decode cX7_settles 29 = .ok (.iinc 1 1, 3) := by decide +kernel
theorem dX7_settles_32 : decode cX7_settles 32 = .ok (.goto (-22), 3) := by decide +kernel
theorem dX7_settles_35 : decode cX7_settles 35 = .ok (.iconst (-1), 1) := by decide +kernel
theorem dX7_settles_36 : decode cX7_settles 36 = .ok (.ireturn, 1) := by decide +kernel
theorem dX7_slip_0 : decode cX7_slip 0 = .ok (.aload_n 0, 1) := by decide +kernel
theorem dX7_slip_1 : decode cX7_slip 1 = .ok (.iload_n 1, 1) := by decide +kernel
theorem dX7_slip_2 : decode cX7_slip 2 = .ok (.invokevirtual 115, 3) := by decide +kernel
theorem dX7_slip_5 : decode cX7_slip 5 = .ok (.ifCond .eq 29, 3) := by decide +kernel
theorem dX7_slip_8 : decode cX7_slip 8 = .ok (.iload_n 2, 1) := by decide +kernel
theorem dX7_slip_9 : decode cX7_slip 9 = .ok (.i2l, 1) := by decide +kernel
theorem dX7_slip_10 : decode cX7_slip 10 = .ok (.ldc2_w 202, 3) := by decide +kernel
theorem dX7_slip_13 : decode cX7_slip 13 = .ok (.ldc2_w 70, 3) := by decide +kernel
theorem dX7_slip_16 : decode cX7_slip 16 = .ok (.invokestatic 60, 3) := by decide +kernel
theorem dX7_slip_19 : decode cX7_slip 19 = .ok (.ifCond .eq 15, 3) := by decide +kernel
theorem dX7_slip_22 : decode cX7_slip 22 = .ok (.iload_n 3, 1) := by decide +kernel
theorem dX7_slip_23 : decode cX7_slip 23 = .ok (.i2l, 1) := by decide +kernel
theorem dX7_slip_24 : decode cX7_slip 24 = .ok (.lconst 0, 1) := by decide +kernel
theorem dX7_slip_25 : decode cX7_slip 25 = .ok (.ldc2_w 204, 3) := by decide +kernel
theorem dX7_slip_28 : decode cX7_slip 28 = .ok (.invokestatic 60, 3) := by decide +kernel
theorem dX7_slip_31 : decode cX7_slip 31 = .ok (.ifCond .ne 10, 3) := by decide +kernel
theorem dX7_slip_34 : decode cX7_slip 34 = .ok (.aload_n 0, 1) := by decide +kernel
theorem dX7_slip_35 : decode cX7_slip 35 = .ok (.bipush (-2), 2) := by decide +kernel
theorem dX7_slip_37 : decode cX7_slip 37 = .ok (.invokevirtual 76, 3) := by decide +kernel
theorem dX7_slip_40 : decode cX7_slip 40 = .ok (.ireturn, 1) := by decide +kernel
theorem dX7_slip_41 : decode cX7_slip 41 = .ok (.aload_n 0, 1) := by decide +kernel
theorem dX7_slip_42 : decode cX7_slip 42 = .ok (.aload_n 0, 1) := by decide +kernel
theorem dX7_slip_43 : decode cX7_slip 43 = .ok (.getfield 35, 3) := by decide +kernel
theorem dX7_slip_46 : decode cX7_slip 46 = .ok (.invokevirtual 191, 3) := by decide +kernel
theorem dX7_slip_49 : decode cX7_slip 49 = .ok (.aload_n 0, 1) := by decide +kernel
theorem dX7_slip_50 : decode cX7_slip 50 = .ok (.aload_n 0, 1) := by decide +kernel
theorem dX7_slip_51 : decode cX7_slip 51 = .ok (.getfield 41, 3) := by decide +kernel
theorem dX7_slip_54 : decode cX7_slip 54 = .ok (.invokevirtual 191, 3) := by decide +kernel
theorem dX7_slip_57 : decode cX7_slip 57 = .ok (.aload_n 0, 1) := by decide +kernel
theorem dX7_slip_58 : decode cX7_slip 58 = .ok (.getfield 41, 3) := by decide +kernel
theorem dX7_slip_61 : decode cX7_slip 61 = .ok (.iload_n 1, 1) := by decide +kernel
theorem dX7_slip_62 : decode cX7_slip 62 = .ok (.aload_n 0, 1) := by decide +kernel
theorem dX7_slip_63 : decode cX7_slip 63 = .ok (.getfield 41, 3) := by decide +kernel
theorem dX7_slip_66 : decode cX7_slip 66 = .ok (.iload_n 1, 1) := by decide +kernel
theorem dX7_slip_67 : decode cX7_slip 67 = .ok (.iaload, 1) := by decide +kernel
theorem dX7_slip_68 : decode cX7_slip 68 = .ok (.iload_n 2, 1) := by decide +kernel
theorem dX7_slip_69 : decode cX7_slip 69 = .ok (.iadd, 1) := by decide +kernel
theorem dX7_slip_70 : decode cX7_slip 70 = .ok (.invokestatic 188, 3) := by decide +kernel
theorem dX7_slip_73 : decode cX7_slip 73 = .ok (.iastore, 1) := by decide +kernel
theorem dX7_slip_74 : decode cX7_slip 74 = .ok (.iconst 0, 1) := by decide +kernel
theorem dX7_slip_75 : decode cX7_slip 75 = .ok (.istore 4, 2) := by decide +kernel
theorem dX7_slip_77 : decode cX7_slip 77 = .ok (.iload 4, 2) := by decide +kernel
theorem dX7_slip_79 : decode cX7_slip 79 = .ok (.iload_n 3, 1) := by decide +kernel
theorem dX7_slip_80 : decode cX7_slip 80 = .ok (.if_icmp .ge 29, 3) := by decide +kernel
theorem dX7_slip_83 : decode cX7_slip 83 = .ok (.aload_n 0, 1) := by decide +kernel
theorem dX7_slip_84 : decode cX7_slip 84 = .ok (.aload_n 0, 1) := by decide +kernel
theorem dX7_slip_85 : decode cX7_slip 85 = .ok (.getfield 35, 3) := by decide +kernel
theorem dX7_slip_88 : decode cX7_slip 88 = .ok (.invokevirtual 195, 3) := by decide +kernel
theorem dX7_slip_91 : decode cX7_slip 91 = .ok (.istore 5, 2) := by decide +kernel
theorem dX7_slip_93 : decode cX7_slip 93 = .ok (.aload_n 0, 1) := by decide +kernel
theorem dX7_slip_94 : decode cX7_slip 94 = .ok (.aload_n 0, 1) := by decide +kernel
theorem dX7_slip_95 : decode cX7_slip 95 = .ok (.getfield 41, 3) := by decide +kernel
theorem dX7_slip_98 : decode cX7_slip 98 = .ok (.invokevirtual 195, 3) := by decide +kernel
theorem dX7_slip_101 : decode cX7_slip 101 = .ok (.istore 5, 2) := by decide +kernel
theorem dX7_slip_103 : decode cX7_slip 103 = .ok (.iinc 4 1, 3) := by decide +kernel
theorem dX7_slip_106 : decode cX7_slip 106 = .ok (.goto (-29), 3) := by decide +kernel
theorem dX7_slip_109 : decode cX7_slip 109 = .ok (.iconst 0, 1) := by decide +kernel
theorem dX7_slip_110 : decode cX7_slip 110 = .ok (.istore 4, 2) := by decide +kernel
theorem dX7_slip_112 : decode cX7_slip 112 = .ok (.iconst 0, 1) := by decide +kernel
theorem dX7_slip_113 : decode cX7_slip 113 = .ok (.istore 5, 2) := by decide +kernel
theorem dX7_slip_115 : decode cX7_slip 115 = .ok (.iload 5, 2) := by decide +kernel
theorem dX7_slip_117 : decode cX7_slip 117 = .ok (.aload_n 0, 1) := by decide +kernel
theorem dX7_slip_118 : decode cX7_slip 118 = .ok (.invokevirtual 67, 3) := by decide +kernel
theorem dX7_slip_121 : decode cX7_slip 121 = .ok (.if_icmp .ge 39, 3) := by decide +kernel
theorem dX7_slip_124 : decode cX7_slip 124 = .ok (.iload 4, 2) := by decide +kernel
theorem dX7_slip_126 : decode cX7_slip 126 = .ok (.aload_n 0, 1) := by decide +kernel
theorem dX7_slip_127 : decode cX7_slip 127 = .ok (.getfield 35, 3) := by decide +kernel
theorem dX7_slip_130 : decode cX7_slip 130 = .ok (.iload 5, 2) := by decide +kernel
theorem dX7_slip_132 : decode cX7_slip 132 = .ok (.iaload, 1) := by decide +kernel
theorem dX7_slip_133 : decode cX7_slip 133 = .ok (.aload_n 0, 1) := by decide +kernel
theorem dX7_slip_134 : decode cX7_slip 134 = .ok (.getfield 41, 3) := by decide +kernel
theorem dX7_slip_137 : decode cX7_slip 137 = .ok (.iload 5, 2) := by decide +kernel
theorem dX7_slip_139 : decode cX7_slip 139 = .ok (.iaload, 1) := by decide +kernel
theorem dX7_slip_140 : decode cX7_slip 140 = .ok (.if_icmp .eq 10, 3) := by decide +kernel
theorem dX7_slip_143 : decode cX7_slip 143 = .ok (.iconst 1, 1) := by decide +kernel
theorem dX7_slip_144 : decode cX7_slip 144 = .ok (.iload 5, 2) := by decide +kernel
theorem dX7_slip_146 : decode cX7_slip 146 = .ok (.ishl, 1) := by decide +kernel
theorem dX7_slip_147 : decode cX7_slip 147 = .ok (.goto 4, 3) := by decide +kernel
theorem dX7_slip_150 : decode cX7_slip 150 = .ok (.iconst 0, 1) := by decide +kernel
theorem dX7_slip_151 : decode cX7_slip 151 = .ok (.ior, 1) := by decide +kernel
theorem dX7_slip_152 : decode cX7_slip 152 = .ok (.istore 4, 2) := by decide +kernel
theorem dX7_slip_154 : decode cX7_slip 154 = .ok (.iinc 5 1, 3) := by decide +kernel
theorem dX7_slip_157 : decode cX7_slip 157 = .ok (.goto (-42), 3) := by decide +kernel
theorem dX7_slip_160 : decode cX7_slip 160 = .ok (.iload 4, 2) := by decide +kernel
theorem dX7_slip_162 : decode cX7_slip 162 = .ok (.ireturn, 1) := by decide +kernel
theorem dX7_putAll_0 : decode cX7_putAll 0 = .ok (.iload_n 1, 1) := by decide +kernel
theorem dX7_putAll_1 : decode cX7_putAll 1 = .ok (.istore_n 2, 1) := by decide +kernel
theorem dX7_putAll_2 : decode cX7_putAll 2 = .ok (.iconst 1, 1) := by decide +kernel
theorem dX7_putAll_3 : decode cX7_putAll 3 = .ok (.istore_n 3, 1) := by decide +kernel
theorem dX7_putAll_4 : decode cX7_putAll 4 = .ok (.aload_n 0, 1) := by decide +kernel
theorem dX7_putAll_5 : decode cX7_putAll 5 = .ok (.invokevirtual 67, 3) := by decide +kernel
theorem dX7_putAll_8 : decode cX7_putAll 8 = .ok (.iconst 1, 1) := by decide +kernel
theorem dX7_putAll_9 : decode cX7_putAll 9 = .ok (.isub, 1) := by decide +kernel
theorem dX7_putAll_10 : decode cX7_putAll 10 = .ok (.istore 4, 2) := by decide +kernel
theorem dX7_putAll_12 : decode cX7_putAll 12 = .ok (.iload 4, 2) := by decide +kernel
theorem dX7_putAll_14 : decode cX7_putAll 14 = .ok (.ifCond .lt 84, 3) := by decide +kernel
theorem dX7_putAll_17 : decode cX7_putAll 17 = .ok (.aload_n 0, 1) := by decide +kernel
theorem dX7_putAll_18 : decode cX7_putAll 18 = .ok (.getfield 7, 3) := by decide +kernel
theorem dX7_putAll_21 : decode cX7_putAll 21 = .ok (.bipush 24, 2) := by decide +kernel
theorem dX7_putAll_23 : decode cX7_putAll 23 = .ok (.iconst 5, 1) := by decide +kernel
theorem dX7_putAll_24 : decode cX7_putAll 24 = .ok (.iload 4, 2) := by decide +kernel
theorem dX7_putAll_26 : decode cX7_putAll 26 = .ok (.imul, 1) := by decide +kernel
theorem dX7_putAll_27 : decode cX7_putAll 27 = .ok (.iadd, 1) := by decide +kernel
theorem dX7_putAll_28 : decode cX7_putAll 28 = .ok (.iconst 1, 1) := by decide +kernel
theorem dX7_putAll_29 : decode cX7_putAll 29 = .ok (.iadd, 1) := by decide +kernel
theorem dX7_putAll_30 : decode cX7_putAll 30 = .ok (.iload_n 2, 1) := by decide +kernel
theorem dX7_putAll_31 : decode cX7_putAll 31 = .ok (.aload_n 0, 1) := by decide +kernel
theorem dX7_putAll_32 : decode cX7_putAll 32 = .ok (.invokevirtual 56, 3) := by decide +kernel
theorem dX7_putAll_35 : decode cX7_putAll 35 = .ok (.irem, 1) := by decide +kernel
theorem dX7_putAll_36 : decode cX7_putAll 36 = .ok (.iastore, 1) := by decide +kernel
theorem dX7_putAll_37 : decode cX7_putAll 37 = .ok (.iload_n 2, 1) := by decide +kernel
theorem dX7_putAll_38 : decode cX7_putAll 38 = .ok (.aload_n 0, 1) := by decide +kernel
theorem dX7_putAll_39 : decode cX7_putAll 39 = .ok (.invokevirtual 56, 3) := by decide +kernel
theorem dX7_putAll_42 : decode cX7_putAll 42 = .ok (.idiv, 1) := by decide +kernel
theorem dX7_putAll_43 : decode cX7_putAll 43 = .ok (.istore_n 2, 1) := by decide +kernel
theorem dX7_putAll_44 : decode cX7_putAll 44 = .ok (.iload 4, 2) := by decide +kernel
theorem dX7_putAll_46 : decode cX7_putAll 46 = .ok (.iconst 1, 1) := by decide +kernel
theorem dX7_putAll_47 : decode cX7_putAll 47 = .ok (.iadd, 1) := by decide +kernel
theorem dX7_putAll_48 : decode cX7_putAll 48 = .ok (.istore 5, 2) := by decide +kernel
theorem dX7_putAll_50 : decode cX7_putAll 50 = .ok (.iload 5, 2) := by decide +kernel
theorem dX7_putAll_52 : decode cX7_putAll 52 = .ok (.aload_n 0, 1) := by decide +kernel
theorem dX7_putAll_53 : decode cX7_putAll 53 = .ok (.invokevirtual 67, 3) := by decide +kernel
theorem dX7_putAll_56 : decode cX7_putAll 56 = .ok (.if_icmp .ge 36, 3) := by decide +kernel
theorem dX7_putAll_59 : decode cX7_putAll 59 = .ok (.iload_n 3, 1) := by decide +kernel
theorem dX7_putAll_60 : decode cX7_putAll 60 = .ok (.ifCond .eq 24, 3) := by decide +kernel
theorem dX7_putAll_63 : decode cX7_putAll 63 = .ok (.aload_n 0, 1) := by decide +kernel
theorem dX7_putAll_64 : decode cX7_putAll 64 = .ok (.iload 4, 2) := by decide +kernel
theorem dX7_putAll_66 : decode cX7_putAll 66 = .ok (.iconst 1, 1) := by decide +kernel
theorem dX7_putAll_67 : decode cX7_putAll 67 = .ok (.invokevirtual 94, 3) := by decide +kernel
theorem dX7_putAll_70 : decode cX7_putAll 70 = .ok (.aload_n 0, 1) := by decide +kernel
theorem dX7_putAll_71 : decode cX7_putAll 71 = .ok (.iload 5, 2) := by decide +kernel
theorem dX7_putAll_73 : decode cX7_putAll 73 = .ok (.iconst 1, 1) := by decide +kernel
theorem dX7_putAll_74 : decode cX7_putAll 74 = .ok (.invokevirtual 94, 3) := by decide +kernel
theorem dX7_putAll_77 : decode cX7_putAll 77 = .ok (.if_icmp .eq 7, 3) := by decide +kernel
theorem dX7_putAll_80 : decode cX7_putAll 80 = .ok (.iconst 1, 1) := by decide +kernel
theorem dX7_putAll_81 : decode cX7_putAll 81 = .ok (.goto 4, 3) := by decide +kernel
theorem dX7_putAll_84 : decode cX7_putAll 84 = .ok (.iconst 0, 1) := by decide +kernel
theorem dX7_putAll_85 : decode cX7_putAll 85 = .ok (.istore_n 3, 1) := by decide +kernel
theorem dX7_putAll_86 : decode cX7_putAll 86 = .ok (.iinc 5 1, 3) := by decide +kernel
theorem dX7_putAll_89 : decode cX7_putAll 89 = .ok (.goto (-39), 3) := by decide +kernel
theorem dX7_putAll_92 : decode cX7_putAll 92 = .ok (.iinc 4 (-1), 3) := by decide +kernel
theorem dX7_putAll_95 : decode cX7_putAll 95 = .ok (.goto (-83), 3) := by decide +kernel
theorem dX7_putAll_98 : decode cX7_putAll 98 = .ok (.iload_n 3, 1) := by decide +kernel
theorem dX7_putAll_99 : decode cX7_putAll 99 = .ok (.ireturn, 1) := by decide +kernel
theorem dX7_leastLoud_0 : decode cX7_leastLoud 0 = .ok (.ldc 165, 2) := by decide +kernel
theorem dX7_leastLoud_2 : decode cX7_leastLoud 2 = .ok (.istore_n 1, 1) := by decide +kernel
theorem dX7_leastLoud_3 : decode cX7_leastLoud 3 = .ok (.iconst 0, 1) := by decide +kernel
theorem dX7_leastLoud_4 : decode cX7_leastLoud 4 = .ok (.istore_n 2, 1) := by decide +kernel
theorem dX7_leastLoud_5 : decode cX7_leastLoud 5 = .ok (.iload_n 2, 1) := by decide +kernel
theorem dX7_leastLoud_6 : decode cX7_leastLoud 6 = .ok (.aload_n 0, 1) := by decide +kernel
theorem dX7_leastLoud_7 : decode cX7_leastLoud 7 = .ok (.invokevirtual 67, 3) := by decide +kernel
theorem dX7_leastLoud_10 : decode cX7_leastLoud 10 = .ok (.if_icmp .ge 90, 3) := by decide +kernel
theorem dX7_leastLoud_13 : decode cX7_leastLoud 13 = .ok (.iconst 0, 1) := by decide +kernel
theorem dX7_leastLoud_14 : decode cX7_leastLoud 14 = .ok (.istore_n 3, 1) := by decide +kernel
theorem dX7_leastLoud_15 : decode cX7_leastLoud 15 = .ok (.iload_n 3, 1) := by decide +kernel
theorem dX7_leastLoud_16 : decode cX7_leastLoud 16 = .ok (.aload_n 0, 1) := by decide +kernel
theorem dX7_leastLoud_17 : decode cX7_leastLoud 17 = .ok (.invokevirtual 64, 3) := by decide +kernel
theorem dX7_leastLoud_20 : decode cX7_leastLoud 20 = .ok (.if_icmp .ge 74, 3) := by decide +kernel
theorem dX7_leastLoud_23 : decode cX7_leastLoud 23 = .ok (.aload_n 0, 1) := by decide +kernel
theorem dX7_leastLoud_24 : decode cX7_leastLoud 24 = .ok (.iload_n 2, 1) := by decide +kernel
theorem dX7_leastLoud_25 : decode cX7_leastLoud 25 = .ok (.iconst 0, 1) := by decide +kernel
theorem dX7_leastLoud_26 : decode cX7_leastLoud 26 = .ok (.invokevirtual 94, 3) := by decide +kernel
theorem dX7_leastLoud_29 : decode cX7_leastLoud 29 = .ok (.iconst 5, 1) := by decide +kernel
theorem dX7_leastLoud_30 : decode cX7_leastLoud 30 = .ok (.if_icmp .eq 64, 3) := by decide +kernel
theorem dX7_leastLoud_33 : decode cX7_leastLoud 33 = .ok (.aload_n 0, 1) := by decide +kernel
theorem dX7_leastLoud_34 : decode cX7_leastLoud 34 = .ok (.iload_n 2, 1) := by decide +kernel
theorem dX7_leastLoud_35 : decode cX7_leastLoud 35 = .ok (.iconst 2, 1) := by decide +kernel
theorem dX7_leastLoud_36 : decode cX7_leastLoud 36 = .ok (.invokevirtual 94, 3) := by decide +kernel
theorem dX7_leastLoud_39 : decode cX7_leastLoud 39 = .ok (.aload_n 0, 1) := by decide +kernel
theorem dX7_leastLoud_40 : decode cX7_leastLoud 40 = .ok (.iconst 0, 1) := by decide +kernel
theorem dX7_leastLoud_41 : decode cX7_leastLoud 41 = .ok (.iconst 2, 1) := by decide +kernel
theorem dX7_leastLoud_42 : decode cX7_leastLoud 42 = .ok (.aload_n 0, 1) := by decide +kernel
theorem dX7_leastLoud_43 : decode cX7_leastLoud 43 = .ok (.iload_n 2, 1) := by decide +kernel
theorem dX7_leastLoud_44 : decode cX7_leastLoud 44 = .ok (.iconst 1, 1) := by decide +kernel
theorem dX7_leastLoud_45 : decode cX7_leastLoud 45 = .ok (.invokevirtual 94, 3) := by decide +kernel
theorem dX7_leastLoud_48 : decode cX7_leastLoud 48 = .ok (.imul, 1) := by decide +kernel
theorem dX7_leastLoud_49 : decode cX7_leastLoud 49 = .ok (.iadd, 1) := by decide +kernel
theorem dX7_leastLoud_50 : decode cX7_leastLoud 50 = .ok (.bipush 12, 2) := by decide +kernel
theorem dX7_leastLoud_52 : decode cX7_leastLoud 52 = .ok (.iconst 2, 1) := by decide +kernel
theorem dX7_leastLoud_53 : decode cX7_leastLoud 53 = .ok (.iload_n 3, 1) := by decide +kernel
theorem dX7_leastLoud_54 : decode cX7_leastLoud 54 = .ok (.imul, 1) := by decide +kernel
theorem dX7_leastLoud_55 : decode cX7_leastLoud 55 = .ok (.iadd, 1) := by decide +kernel
theorem dX7_leastLoud_56 : decode cX7_leastLoud 56 = .ok (.invokevirtual 130, 3) := by decide +kernel
theorem dX7_leastLoud_59 : decode cX7_leastLoud 59 = .ok (.isub, 1) := by decide +kernel
theorem dX7_leastLoud_60 : decode cX7_leastLoud 60 = .ok (.istore 4, 2) := by decide +kernel
theorem dX7_leastLoud_62 : decode cX7_leastLoud 62 = .ok (.iload 4, 2) := by decide +kernel
theorem dX7_leastLoud_64 : decode cX7_leastLoud 64 = .ok (.ifCond .ge 7, 3) := by decide +kernel
theorem dX7_leastLoud_67 : decode cX7_leastLoud 67 = .ok (.iconst 0, 1) := by decide +kernel
theorem dX7_leastLoud_68 : decode cX7_leastLoud 68 = .ok (.goto 5, 3) := by decide +kernel
theorem dX7_leastLoud_71 : decode cX7_leastLoud 71 = .ok (.iload 4, 2) := by decide +kernel
theorem dX7_leastLoud_73 : decode cX7_leastLoud 73 = .ok (.istore 4, 2) := by decide +kernel
theorem dX7_leastLoud_75 : decode cX7_leastLoud 75 = .ok (.iload 4, 2) := by decide +kernel
theorem dX7_leastLoud_77 : decode cX7_leastLoud 77 = .ok (.iload_n 1, 1) := by decide +kernel
theorem dX7_leastLoud_78 : decode cX7_leastLoud 78 = .ok (.if_icmp .ge 8, 3) := by decide +kernel
theorem dX7_leastLoud_81 : decode cX7_leastLoud 81 = .ok (.iload 4, 2) := by decide +kernel
theorem dX7_leastLoud_83 : decode cX7_leastLoud 83 = .ok (.goto 4, 3) := by decide +kernel
theorem dX7_leastLoud_86 : decode cX7_leastLoud 86 = .ok (.iload_n 1, 1) := by decide +kernel
theorem dX7_leastLoud_87 : decode cX7_leastLoud 87 = .ok (.istore_n 1, 1) := by decide +kernel
theorem dX7_leastLoud_88 : decode cX7_leastLoud 88 = .ok (.iinc 3 1, 3) := by decide +kernel
theorem dX7_leastLoud_91 : decode cX7_leastLoud 91 = .ok (.goto (-76), 3) := by decide +kernel
theorem dX7_leastLoud_94 : decode cX7_leastLoud 94 = .ok (.iinc 2 1, 3) := by decide +kernel
theorem dX7_leastLoud_97 : decode cX7_leastLoud 97 = .ok (.goto (-92), 3) := by decide +kernel
theorem dX7_leastLoud_100 : decode cX7_leastLoud 100 = .ok (.iload_n 1, 1) := by decide +kernel
theorem dX7_leastLoud_101 : decode cX7_leastLoud 101 = .ok (.ireturn, 1) := by decide +kernel
theorem dX7_findBest_0 : decode cX7_findBest 0 = .ok (.iconst 0, 1) := by decide +kernel
theorem dX7_findBest_1 : decode cX7_findBest 1 = .ok (.istore_n 1, 1) := by decide +kernel
theorem dX7_findBest_2 : decode cX7_findBest 2 = .ok (.iload_n 1, 1) := by decide +kernel
theorem dX7_findBest_3 : decode cX7_findBest 3 = .ok (.aload_n 0, 1) := by decide +kernel
theorem dX7_findBest_4 : decode cX7_findBest 4 = .ok (.invokevirtual 67, 3) := by decide +kernel
theorem dX7_findBest_7 : decode cX7_findBest 7 = .ok (.if_icmp .ge 21, 3) := by decide +kernel
theorem dX7_findBest_10 : decode cX7_findBest 10 = .ok (.aload_n 0, 1) := by decide +kernel
theorem dX7_findBest_11 : decode cX7_findBest 11 = .ok (.getfield 44, 3) := by decide +kernel
theorem dX7_findBest_14 : decode cX7_findBest 14 = .ok (.iload_n 1, 1) := by decide +kernel
theorem dX7_findBest_15 : decode cX7_findBest 15 = .ok (.aload_n 0, 1) := by decide +kernel
theorem dX7_findBest_16 : decode cX7_findBest 16 = .ok (.iload_n 1, 1) := by decide +kernel
theorem dX7_findBest_17 : decode cX7_findBest 17 = .ok (.iconst 1, 1) := by decide +kernel
theorem dX7_findBest_18 : decode cX7_findBest 18 = .ok (.invokevirtual 94, 3) := by decide +kernel
theorem dX7_findBest_21 : decode cX7_findBest 21 = .ok (.iastore, 1) := by decide +kernel
theorem dX7_findBest_22 : decode cX7_findBest 22 = .ok (.iinc 1 1, 3) := by decide +kernel
theorem dX7_findBest_25 : decode cX7_findBest 25 = .ok (.goto (-23), 3) := by decide +kernel
theorem dX7_findBest_28 : decode cX7_findBest 28 = .ok (.iconst 1, 1) := by decide +kernel
theorem dX7_findBest_29 : decode cX7_findBest 29 = .ok (.istore_n 1, 1) := by decide +kernel
theorem dX7_findBest_30 : decode cX7_findBest 30 = .ok (.iconst 0, 1) := by decide +kernel
theorem dX7_findBest_31 : decode cX7_findBest 31 = .ok (.istore_n 2, 1) := by decide +kernel
theorem dX7_findBest_32 : decode cX7_findBest 32 = .ok (.iload_n 2, 1) := by decide +kernel
theorem dX7_findBest_33 : decode cX7_findBest 33 = .ok (.aload_n 0, 1) := by decide +kernel
theorem dX7_findBest_34 : decode cX7_findBest 34 = .ok (.invokevirtual 67, 3) := by decide +kernel
theorem dX7_findBest_37 : decode cX7_findBest 37 = .ok (.if_icmp .ge 16, 3) := by decide +kernel
theorem dX7_findBest_40 : decode cX7_findBest 40 = .ok (.iload_n 1, 1) := by decide +kernel
theorem dX7_findBest_41 : decode cX7_findBest 41 = .ok (.aload_n 0, 1) := by decide +kernel
theorem dX7_findBest_42 : decode cX7_findBest 42 = .ok (.invokevirtual 56, 3) := by decide +kernel
theorem dX7_findBest_45 : decode cX7_findBest 45 = .ok (.imul, 1) := by decide +kernel
theorem dX7_findBest_46 : decode cX7_findBest 46 = .ok (.istore_n 1, 1) := by decide +kernel
theorem dX7_findBest_47 : decode cX7_findBest 47 = .ok (.iinc 2 1, 3) := by decide +kernel
theorem dX7_findBest_50 : decode cX7_findBest 50 = .ok (.goto (-18), 3) := by decide +kernel
theorem dX7_findBest_53 : decode cX7_findBest 53 = .ok (.iconst (-1), 1) := by decide +kernel
theorem dX7_findBest_54 : decode cX7_findBest 54 = .ok (.istore_n 2, 1) := by decide +kernel
theorem dX7_findBest_55 : decode cX7_findBest 55 = .ok (.iconst 0, 1) := by decide +kernel
theorem dX7_findBest_56 : decode cX7_findBest 56 = .ok (.istore_n 3, 1) := by decide +kernel
theorem dX7_findBest_57 : decode cX7_findBest 57 = .ok (.iconst 0, 1) := by decide +kernel
theorem dX7_findBest_58 : decode cX7_findBest 58 = .ok (.istore 4, 2) := by decide +kernel
theorem dX7_findBest_60 : decode cX7_findBest 60 = .ok (.iload 4, 2) := by decide +kernel
theorem dX7_findBest_62 : decode cX7_findBest 62 = .ok (.iload_n 1, 1) := by decide +kernel
theorem dX7_findBest_63 : decode cX7_findBest 63 = .ok (.if_icmp .ge 112, 3) := by decide +kernel
theorem dX7_findBest_66 : decode cX7_findBest 66 = .ok (.aload_n 0, 1) := by decide +kernel
theorem dX7_findBest_67 : decode cX7_findBest 67 = .ok (.iload 4, 2) := by decide +kernel
theorem dX7_findBest_69 : decode cX7_findBest 69 = .ok (.invokevirtual 206, 3) := by decide +kernel
theorem dX7_findBest_72 : decode cX7_findBest 72 = .ok (.ifCond .eq 97, 3) := by decide +kernel
theorem dX7_findBest_75 : decode cX7_findBest 75 = .ok (.aload_n 0, 1) := by decide +kernel
theorem dX7_findBest_76 : decode cX7_findBest 76 = .ok (.invokevirtual 209, 3) := by decide +kernel
theorem dX7_findBest_79 : decode cX7_findBest 79 = .ok (.istore 5, 2) := by decide +kernel
theorem dX7_findBest_81 : decode cX7_findBest 81 = .ok (.iconst 0, 1) := by decide +kernel
theorem dX7_findBest_82 : decode cX7_findBest 82 = .ok (.istore 6, 2) := by decide +kernel
theorem dX7_findBest_84 : decode cX7_findBest 84 = .ok (.iconst 0, 1) := by decide +kernel
theorem dX7_findBest_85 : decode cX7_findBest 85 = .ok (.istore 7, 2) := by decide +kernel
theorem dX7_findBest_87 : decode cX7_findBest 87 = .ok (.iload 7, 2) := by decide +kernel
theorem dX7_findBest_89 : decode cX7_findBest 89 = .ok (.aload_n 0, 1) := by decide +kernel
theorem dX7_findBest_90 : decode cX7_findBest 90 = .ok (.invokevirtual 64, 3) := by decide +kernel
theorem dX7_findBest_93 : decode cX7_findBest 93 = .ok (.if_icmp .ge 20, 3) := by decide +kernel
theorem dX7_findBest_96 : decode cX7_findBest 96 = .ok (.iload 6, 2) := by decide +kernel
theorem dX7_findBest_98 : decode cX7_findBest 98 = .ok (.aload_n 0, 1) := by decide +kernel
theorem dX7_findBest_99 : decode cX7_findBest 99 = .ok (.iload 7, 2) := by decide +kernel
theorem dX7_findBest_101 : decode cX7_findBest 101 = .ok (.invokevirtual 167, 3) := by decide +kernel
theorem dX7_findBest_104 : decode cX7_findBest 104 = .ok (.iadd, 1) := by decide +kernel
theorem dX7_findBest_105 : decode cX7_findBest 105 = .ok (.istore 6, 2) := by decide +kernel
theorem dX7_findBest_107 : decode cX7_findBest 107 = .ok (.iinc 7 1, 3) := by decide +kernel
theorem dX7_findBest_110 : decode cX7_findBest 110 = .ok (.goto (-23), 3) := by decide +kernel
theorem dX7_findBest_113 : decode cX7_findBest 113 = .ok (.iload 5, 2) := by decide +kernel
theorem dX7_findBest_115 : decode cX7_findBest 115 = .ok (.iload_n 2, 1) := by decide +kernel
theorem dX7_findBest_116 : decode cX7_findBest 116 = .ok (.if_icmp .gt 15, 3) := by decide +kernel
theorem dX7_findBest_119 : decode cX7_findBest 119 = .ok (.iload 5, 2) := by decide +kernel
theorem dX7_findBest_121 : decode cX7_findBest 121 = .ok (.iload_n 2, 1) := by decide +kernel
theorem dX7_findBest_122 : decode cX7_findBest 122 = .ok (.if_icmp .ne 47, 3) := by decide +kernel
theorem dX7_findBest_125 : decode cX7_findBest 125 = .ok (.iload 6, 2) := by decide +kernel
theorem dX7_findBest_127 : decode cX7_findBest 127 = .ok (.iload_n 3, 1) := by decide +kernel
theorem dX7_findBest_128 : decode cX7_findBest 128 = .ok (.if_icmp .ge 41, 3) := by decide +kernel
theorem dX7_findBest_131 : decode cX7_findBest 131 = .ok (.iload 5, 2) := by decide +kernel
theorem dX7_findBest_133 : decode cX7_findBest 133 = .ok (.istore_n 2, 1) := by decide +kernel
theorem dX7_findBest_134 : decode cX7_findBest 134 = .ok (.iload 6, 2) := by decide +kernel
theorem dX7_findBest_136 : decode cX7_findBest 136 = .ok (.istore_n 3, 1) := by decide +kernel
theorem dX7_findBest_137 : decode cX7_findBest 137 = .ok (.iconst 0, 1) := by decide +kernel
theorem dX7_findBest_138 : decode cX7_findBest 138 = .ok (.istore 7, 2) := by decide +kernel
theorem dX7_findBest_140 : decode cX7_findBest 140 = .ok (.iload 7, 2) := by decide +kernel
theorem dX7_findBest_142 : decode cX7_findBest 142 = .ok (.aload_n 0, 1) := by decide +kernel
theorem dX7_findBest_143 : decode cX7_findBest 143 = .ok (.invokevirtual 67, 3) := by decide +kernel
theorem dX7_findBest_146 : decode cX7_findBest 146 = .ok (.if_icmp .ge 23, 3) := by decide +kernel
theorem dX7_findBest_149 : decode cX7_findBest 149 = .ok (.aload_n 0, 1) := by decide +kernel
theorem dX7_findBest_150 : decode cX7_findBest 150 = .ok (.getfield 47, 3) := by decide +kernel
theorem dX7_findBest_153 : decode cX7_findBest 153 = .ok (.iload 7, 2) := by decide +kernel
theorem dX7_findBest_155 : decode cX7_findBest 155 = .ok (.aload_n 0, 1) := by decide +kernel
theorem dX7_findBest_156 : decode cX7_findBest 156 = .ok (.iload 7, 2) := by decide +kernel
theorem dX7_findBest_158 : decode cX7_findBest 158 = .ok (.iconst 1, 1) := by decide +kernel
theorem dX7_findBest_159 : decode cX7_findBest 159 = .ok (.invokevirtual 94, 3) := by decide +kernel
theorem dX7_findBest_162 : decode cX7_findBest 162 = .ok (.iastore, 1) := by decide +kernel
theorem dX7_findBest_163 : decode cX7_findBest 163 = .ok (.iinc 7 1, 3) := by decide +kernel
theorem dX7_findBest_166 : decode cX7_findBest 166 = .ok (.goto (-26), 3) := by decide +kernel
theorem dX7_findBest_169 : decode cX7_findBest 169 = .ok (.iinc 4 1, 3) := by decide +kernel
theorem dX7_findBest_172 : decode cX7_findBest 172 = .ok (.goto (-112), 3) := by decide +kernel
theorem dX7_findBest_175 : decode cX7_findBest 175 = .ok (.iconst 0, 1) := by decide +kernel
theorem dX7_findBest_176 : decode cX7_findBest 176 = .ok (.istore 4, 2) := by decide +kernel
theorem dX7_findBest_178 : decode cX7_findBest 178 = .ok (.iload 4, 2) := by decide +kernel
theorem dX7_findBest_180 : decode cX7_findBest 180 = .ok (.aload_n 0, 1) := by decide +kernel
theorem dX7_findBest_181 : decode cX7_findBest 181 = .ok (.invokevirtual 67, 3) := by decide +kernel
theorem dX7_findBest_184 : decode cX7_findBest 184 = .ok (.if_icmp .ge 30, 3) := by decide +kernel
theorem dX7_findBest_187 : decode cX7_findBest 187 = .ok (.aload_n 0, 1) := by decide +kernel
theorem dX7_findBest_188 : decode cX7_findBest 188 = .ok (.getfield 7, 3) := by decide +kernel
theorem dX7_findBest_191 : decode cX7_findBest 191 = .ok (.bipush 24, 2) := by decide +kernel
theorem dX7_findBest_193 : decode cX7_findBest 193 = .ok (.iconst 5, 1) := by decide +kernel
theorem dX7_findBest_194 : decode cX7_findBest 194 = .ok (.iload 4, 2) := by decide +kernel
theorem dX7_findBest_196 : decode cX7_findBest 196 = .ok (.imul, 1) := by decide +kernel
theorem dX7_findBest_197 : decode cX7_findBest 197 = .ok (.iadd, 1) := by decide +kernel
theorem dX7_findBest_198 : decode cX7_findBest 198 = .ok (.iconst 1, 1) := by decide +kernel
theorem dX7_findBest_199 : decode cX7_findBest 199 = .ok (.iadd, 1) := by decide +kernel
theorem dX7_findBest_200 : decode cX7_findBest 200 = .ok (.aload_n 0, 1) := by decide +kernel
theorem dX7_findBest_201 : decode cX7_findBest 201 = .ok (.getfield 44, 3) := by decide +kernel
theorem dX7_findBest_204 : decode cX7_findBest 204 = .ok (.iload 4, 2) := by decide +kernel
theorem dX7_findBest_206 : decode cX7_findBest 206 = .ok (.iaload, 1) := by decide +kernel
theorem dX7_findBest_207 : decode cX7_findBest 207 = .ok (.iastore, 1) := by decide +kernel
theorem dX7_findBest_208 : decode cX7_findBest 208 = .ok (.iinc 4 1, 3) := by decide +kernel
theorem dX7_findBest_211 : decode cX7_findBest 211 = .ok (.goto (-33), 3) := by decide +kernel
theorem dX7_findBest_214 : decode cX7_findBest 214 = .ok (.return_, 1) := by decide +kernel
theorem dX7_best_0 : decode cX7_best 0 = .ok (.aload_n 0, 1) := by decide +kernel
theorem dX7_best_1 : decode cX7_best 1 = .ok (.iload_n 1, 1) := by decide +kernel
theorem dX7_best_2 : decode cX7_best 2 = .ok (.invokevirtual 115, 3) := by decide +kernel
theorem dX7_best_5 : decode cX7_best 5 = .ok (.ifCond .ne 10, 3) := by decide +kernel
theorem dX7_best_8 : decode cX7_best 8 = .ok (.aload_n 0, 1) := by decide +kernel
theorem dX7_best_9 : decode cX7_best 9 = .ok (.bipush (-2), 2) := by decide +kernel
theorem dX7_best_11 : decode cX7_best 11 = .ok (.invokevirtual 76, 3) := by decide +kernel
theorem dX7_best_14 : decode cX7_best 14 = .ok (.ireturn, 1) := by decide +kernel
theorem dX7_best_15 : decode cX7_best 15 = .ok (.aload_n 0, 1) := by decide +kernel
theorem dX7_best_16 : decode cX7_best 16 = .ok (.invokevirtual 56, 3) := by decide +kernel
theorem dX7_best_19 : decode cX7_best 19 = .ok (.aload_n 0, 1) := by decide +kernel
theorem dX7_best_20 : decode cX7_best 20 = .ok (.invokevirtual 67, 3) := by decide +kernel
theorem dX7_best_23 : decode cX7_best 23 = .ok (.if_icmp .lt 10, 3) := by decide +kernel
theorem dX7_best_26 : decode cX7_best 26 = .ok (.aload_n 0, 1) := by decide +kernel
theorem dX7_best_27 : decode cX7_best 27 = .ok (.invokevirtual 64, 3) := by decide +kernel
theorem dX7_best_30 : decode cX7_best 30 = .ok (.ifCond .ne 5, 3) := by decide +kernel
theorem dX7_best_33 : decode cX7_best 33 = .ok (.iconst (-1), 1) := by decide +kernel
theorem dX7_best_34 : decode cX7_best 34 = .ok (.ireturn, 1) := by decide +kernel
theorem dX7_best_35 : decode cX7_best 35 = .ok (.aload_n 0, 1) := by decide +kernel
theorem dX7_best_36 : decode cX7_best 36 = .ok (.iconst 0, 1) := by decide +kernel
theorem dX7_best_37 : decode cX7_best 37 = .ok (.putfield 143, 3) := by decide +kernel
theorem dX7_best_40 : decode cX7_best 40 = .ok (.aload_n 0, 1) := by decide +kernel
theorem dX7_best_41 : decode cX7_best 41 = .ok (.invokevirtual 212, 3) := by decide +kernel
theorem dX7_best_44 : decode cX7_best 44 = .ok (.aload_n 0, 1) := by decide +kernel
theorem dX7_best_45 : decode cX7_best 45 = .ok (.getfield 47, 3) := by decide +kernel
theorem dX7_best_48 : decode cX7_best 48 = .ok (.iload_n 1, 1) := by decide +kernel
theorem dX7_best_49 : decode cX7_best 49 = .ok (.iaload, 1) := by decide +kernel
theorem dX7_best_50 : decode cX7_best 50 = .ok (.ireturn, 1) := by decide +kernel
theorem dX7_wrong_0 : decode cX7_wrong 0 = .ok (.iload_n 1, 1) := by decide +kernel
theorem dX7_wrong_1 : decode cX7_wrong 1 = .ok (.i2l, 1) := by decide +kernel
theorem dX7_wrong_2 : decode cX7_wrong 2 = .ok (.lconst 1, 1) := by decide +kernel
theorem dX7_wrong_3 : decode cX7_wrong 3 = .ok (.iconst 1, 1) := by decide +kernel
theorem dX7_wrong_4 : decode cX7_wrong 4 = .ok (.aload_n 0, 1) := by decide +kernel
theorem dX7_wrong_5 : decode cX7_wrong 5 = .ok (.invokevirtual 64, 3) := by decide +kernel
theorem dX7_wrong_8 : decode cX7_wrong 8 = .ok (.ishl, 1) := by decide +kernel
theorem dX7_wrong_9 : decode cX7_wrong 9 = .ok (.iconst 1, 1) := by decide +kernel
theorem dX7_wrong_10 : decode cX7_wrong 10 = .ok (.isub, 1) := by decide +kernel
theorem dX7_wrong_11 : decode cX7_wrong 11 = .ok (.i2l, 1) := by decide +kernel
theorem dX7_wrong_12 : decode cX7_wrong 12 = .ok (.invokestatic 60, 3) := by decide +kernel
theorem dX7_wrong_15 : decode cX7_wrong 15 = .ok (.ifCond .eq 40, 3) := by decide +kernel
theorem dX7_wrong_18 : decode cX7_wrong 18 = .ok (.iload_n 2, 1) := by decide +kernel
theorem dX7_wrong_19 : decode cX7_wrong 19 = .ok (.i2l, 1) := by decide +kernel
theorem dX7_wrong_20 : decode cX7_wrong 20 = .ok (.lconst 0, 1) := by decide +kernel
theorem dX7_wrong_21 : decode cX7_wrong 21 = .ok (.ldc2_w 157, 3) := by decide +kernel
theorem dX7_wrong_24 : decode cX7_wrong 24 = .ok (.invokestatic 60, 3) := by decide +kernel
theorem dX7_wrong_27 : decode cX7_wrong 27 = .ok (.ifCond .eq 28, 3) := by decide +kernel
theorem dX7_wrong_30 : decode cX7_wrong 30 = .ok (.iload_n 3, 1) := by decide +kernel
theorem dX7_wrong_31 : decode cX7_wrong 31 = .ok (.i2l, 1) := by decide +kernel
theorem dX7_wrong_32 : decode cX7_wrong 32 = .ok (.lconst 0, 1) := by decide +kernel
theorem dX7_wrong_33 : decode cX7_wrong 33 = .ok (.ldc2_w 157, 3) := by decide +kernel
theorem dX7_wrong_36 : decode cX7_wrong 36 = .ok (.invokestatic 60, 3) := by decide +kernel
theorem dX7_wrong_39 : decode cX7_wrong 39 = .ok (.ifCond .eq 16, 3) := by decide +kernel
theorem dX7_wrong_42 : decode cX7_wrong 42 = .ok (.iload 4, 2) := by decide +kernel
theorem dX7_wrong_44 : decode cX7_wrong 44 = .ok (.i2l, 1) := by decide +kernel
theorem dX7_wrong_45 : decode cX7_wrong 45 = .ok (.lconst 0, 1) := by decide +kernel
theorem dX7_wrong_46 : decode cX7_wrong 46 = .ok (.ldc2_w 157, 3) := by decide +kernel
theorem dX7_wrong_49 : decode cX7_wrong 49 = .ok (.invokestatic 60, 3) := by decide +kernel
theorem dX7_wrong_52 : decode cX7_wrong 52 = .ok (.ifCond .ne 10, 3) := by decide +kernel
theorem dX7_wrong_55 : decode cX7_wrong 55 = .ok (.aload_n 0, 1) := by decide +kernel
theorem dX7_wrong_56 : decode cX7_wrong 56 = .ok (.bipush (-2), 2) := by decide +kernel
theorem dX7_wrong_58 : decode cX7_wrong 58 = .ok (.invokevirtual 76, 3) := by decide +kernel
theorem dX7_wrong_61 : decode cX7_wrong 61 = .ok (.ireturn, 1) := by decide +kernel
theorem dX7_wrong_62 : decode cX7_wrong 62 = .ok (.iconst 0, 1) := by decide +kernel
theorem dX7_wrong_63 : decode cX7_wrong 63 = .ok (.istore 5, 2) := by decide +kernel
theorem dX7_wrong_65 : decode cX7_wrong 65 = .ok (.iconst 0, 1) := by decide +kernel
theorem dX7_wrong_66 : decode cX7_wrong 66 = .ok (.istore 6, 2) := by decide +kernel
theorem dX7_wrong_68 : decode cX7_wrong 68 = .ok (.iload 6, 2) := by decide +kernel
theorem dX7_wrong_70 : decode cX7_wrong 70 = .ok (.aload_n 0, 1) := by decide +kernel
theorem dX7_wrong_71 : decode cX7_wrong 71 = .ok (.invokevirtual 56, 3) := by decide +kernel
theorem dX7_wrong_74 : decode cX7_wrong 74 = .ok (.if_icmp .ge 124, 3) := by decide +kernel
theorem dX7_wrong_77 : decode cX7_wrong 77 = .ok (.ldc 165, 2) := by decide +kernel
theorem dX7_wrong_79 : decode cX7_wrong 79 = .ok (.istore 7, 2) := by decide +kernel
theorem dX7_wrong_81 : decode cX7_wrong 81 = .ok (.iconst 1, 1) := by decide +kernel
theorem dX7_wrong_82 : decode cX7_wrong 82 = .ok (.istore 8, 2) := by decide +kernel
theorem dX7_wrong_84 : decode cX7_wrong 84 = .ok (.iconst 0, 1) := by decide +kernel
theorem dX7_wrong_85 : decode cX7_wrong 85 = .ok (.istore 9, 2) := by decide +kernel
theorem dX7_wrong_87 : decode cX7_wrong 87 = .ok (.iload 9, 2) := by decide +kernel
theorem dX7_wrong_89 : decode cX7_wrong 89 = .ok (.aload_n 0, 1) := by decide +kernel
theorem dX7_wrong_90 : decode cX7_wrong 90 = .ok (.invokevirtual 64, 3) := by decide +kernel
theorem dX7_wrong_93 : decode cX7_wrong 93 = .ok (.if_icmp .ge 81, 3) := by decide +kernel
theorem dX7_wrong_96 : decode cX7_wrong 96 = .ok (.iload_n 1, 1) := by decide +kernel
theorem dX7_wrong_97 : decode cX7_wrong 97 = .ok (.iload 9, 2) := by decide +kernel
theorem dX7_wrong_99 : decode cX7_wrong 99 = .ok (.ishr, 1) := by decide +kernel
theorem dX7_wrong_100 : decode cX7_wrong 100 = .ok (.iconst 1, 1) := by decide +kernel
theorem dX7_wrong_101 : decode cX7_wrong 101 = .ok (.iand, 1) := by decide +kernel
theorem dX7_wrong_102 : decode cX7_wrong 102 = .ok (.iconst 1, 1) := by decide +kernel
theorem dX7_wrong_103 : decode cX7_wrong 103 = .ok (.if_icmp .ne 65, 3) := by decide +kernel
theorem dX7_wrong_106 : decode cX7_wrong 106 = .ok (.iload 9, 2) := by decide +kernel
theorem dX7_wrong_108 : decode cX7_wrong 108 = .ok (.ifCond .ne 7, 3) := by decide +kernel
theorem dX7_wrong_111 : decode cX7_wrong 111 = .ok (.iload_n 2, 1) := by decide +kernel
theorem dX7_wrong_112 : decode cX7_wrong 112 = .ok (.goto 15, 3) := by decide +kernel
theorem dX7_wrong_115 : decode cX7_wrong 115 = .ok (.iload 9, 2) := by decide +kernel
theorem dX7_wrong_117 : decode cX7_wrong 117 = .ok (.iconst 1, 1) := by decide +kernel
theorem dX7_wrong_118 : decode cX7_wrong 118 = .ok (.if_icmp .ne 7, 3) := by decide +kernel
theorem dX7_wrong_121 : decode cX7_wrong 121 = .ok (.iload_n 3, 1) := by decide +kernel
theorem dX7_wrong_122 : decode cX7_wrong 122 = .ok (.goto 5, 3) := by decide +kernel
theorem dX7_wrong_125 : decode cX7_wrong 125 = .ok (.iload 4, 2) := by decide +kernel
theorem dX7_wrong_127 : decode cX7_wrong 127 = .ok (.aload_n 0, 1) := by decide +kernel
theorem dX7_wrong_128 : decode cX7_wrong 128 = .ok (.iload 6, 2) := by decide +kernel
theorem dX7_wrong_130 : decode cX7_wrong 130 = .ok (.iload 9, 2) := by decide +kernel
theorem dX7_wrong_132 : decode cX7_wrong 132 = .ok (.invokevirtual 136, 3) := by decide +kernel
theorem dX7_wrong_135 : decode cX7_wrong 135 = .ok (.isub, 1) := by decide +kernel
theorem dX7_wrong_136 : decode cX7_wrong 136 = .ok (.istore 10, 2) := by decide +kernel
theorem dX7_wrong_138 : decode cX7_wrong 138 = .ok (.iload 8, 2) := by decide +kernel
theorem dX7_wrong_140 : decode cX7_wrong 140 = .ok (.ifCond .eq 21, 3) := by decide +kernel
theorem dX7_wrong_143 : decode cX7_wrong 143 = .ok (.iload 7, 2) := by decide +kernel
theorem dX7_wrong_145 : decode cX7_wrong 145 = .ok (.ldc 165, 2) := by decide +kernel
theorem dX7_wrong_147 : decode cX7_wrong 147 = .ok (.if_icmp .eq 10, 3) := by decide +kernel
theorem dX7_wrong_150 : decode cX7_wrong 150 = .ok (.iload 7, 2) := by decide +kernel
theorem dX7_wrong_152 : decode cX7_wrong 152 = .ok (.iload 10, 2) := by decide +kernel
theorem dX7_wrong_154 : decode cX7_wrong 154 = .ok (.if_icmp .ne 7, 3) := by decide +kernel
theorem dX7_wrong_157 : decode cX7_wrong 157 = .ok (.iconst 1, 1) := by decide +kernel
theorem dX7_wrong_158 : decode cX7_wrong 158 = .ok (.goto 4, 3) := by decide +kernel
theorem dX7_wrong_161 : decode cX7_wrong 161 = .ok (.iconst 0, 1) := by decide +kernel
theorem dX7_wrong_162 : decode cX7_wrong 162 = .ok (.istore 8, 2) := by decide +kernel
theorem dX7_wrong_164 : decode cX7_wrong 164 = .ok (.iload 10, 2) := by decide +kernel
theorem dX7_wrong_166 : decode cX7_wrong 166 = .ok (.istore 7, 2) := by decide +kernel
theorem dX7_wrong_168 : decode cX7_wrong 168 = .ok (.iinc 9 1, 3) := by decide +kernel
theorem dX7_wrong_171 : decode cX7_wrong 171 = .ok (.goto (-84), 3) := by decide +kernel
theorem dX7_wrong_174 : decode cX7_wrong 174 = .ok (.iload 5, 2) := by decide +kernel
theorem dX7_wrong_176 : decode cX7_wrong 176 = .ok (.iload 8, 2) := by decide +kernel
theorem dX7_wrong_178 : decode cX7_wrong 178 = .ok (.ifCond .eq 10, 3) := by decide +kernel
theorem dX7_wrong_181 : decode cX7_wrong 181 = .ok (.iconst 1, 1) := by decide +kernel
theorem dX7_wrong_182 : decode cX7_wrong 182 = .ok (.iload 6, 2) := by decide +kernel
theorem dX7_wrong_184 : decode cX7_wrong 184 = .ok (.ishl, 1) := by decide +kernel
theorem dX7_wrong_185 : decode cX7_wrong 185 = .ok (.goto 4, 3) := by decide +kernel
theorem dX7_wrong_188 : decode cX7_wrong 188 = .ok (.iconst 0, 1) := by decide +kernel
theorem dX7_wrong_189 : decode cX7_wrong 189 = .ok (.ior, 1) := by decide +kernel
theorem dX7_wrong_190 : decode cX7_wrong 190 = .ok (.istore 5, 2) := by decide +kernel
theorem dX7_wrong_192 : decode cX7_wrong 192 = .ok (.iinc 6 1, 3) := by decide +kernel
theorem dX7_wrong_195 : decode cX7_wrong 195 = .ok (.goto (-127), 3) := by decide +kernel
theorem dX7_wrong_198 : decode cX7_wrong 198 = .ok (.iload 5, 2) := by decide +kernel
theorem dX7_wrong_200 : decode cX7_wrong 200 = .ok (.ifCond .ne 7, 3) := by decide +kernel
theorem dX7_wrong_203 : decode cX7_wrong 203 = .ok (.iconst (-1), 1) := by decide +kernel
theorem dX7_wrong_204 : decode cX7_wrong 204 = .ok (.goto 5, 3) := by decide +kernel
theorem dX7_wrong_207 : decode cX7_wrong 207 = .ok (.iload 5, 2) := by decide +kernel
theorem dX7_wrong_209 : decode cX7_wrong 209 = .ok (.ireturn, 1) := by decide +kernel
theorem dX7_nextEar_0 : decode cX7_nextEar 0 = .ok (.iload_n 1, 1) := by decide +kernel
theorem dX7_nextEar_1 : decode cX7_nextEar 1 = .ok (.i2l, 1) := by decide +kernel
theorem dX7_nextEar_2 : decode cX7_nextEar 2 = .ok (.lconst 0, 1) := by decide +kernel
theorem dX7_nextEar_3 : decode cX7_nextEar 3 = .ok (.iconst 1, 1) := by decide +kernel
theorem dX7_nextEar_4 : decode cX7_nextEar 4 = .ok (.aload_n 0, 1) := by decide +kernel
theorem dX7_nextEar_5 : decode cX7_nextEar 5 = .ok (.invokevirtual 56, 3) := by decide +kernel
theorem dX7_nextEar_8 : decode cX7_nextEar 8 = .ok (.ishl, 1) := by decide +kernel
theorem dX7_nextEar_9 : decode cX7_nextEar 9 = .ok (.iconst 1, 1) := by decide +kernel
theorem dX7_nextEar_10 : decode cX7_nextEar 10 = .ok (.isub, 1) := by decide +kernel
theorem dX7_nextEar_11 : decode cX7_nextEar 11 = .ok (.i2l, 1) := by decide +kernel
theorem dX7_nextEar_12 : decode cX7_nextEar 12 = .ok (.invokestatic 60, 3) := by decide +kernel
theorem dX7_nextEar_15 : decode cX7_nextEar 15 = .ok (.ifCond .ne 10, 3) := by decide +kernel
theorem dX7_nextEar_18 : decode cX7_nextEar 18 = .ok (.aload_n 0, 1) := by decide +kernel
theorem dX7_nextEar_19 : decode cX7_nextEar 19 = .ok (.bipush (-2), 2) := by decide +kernel
theorem dX7_nextEar_21 : decode cX7_nextEar 21 = .ok (.invokevirtual 76, 3) := by decide +kernel
theorem dX7_nextEar_24 : decode cX7_nextEar 24 = .ok (.ireturn, 1) := by decide +kernel
theorem dX7_nextEar_25 : decode cX7_nextEar 25 = .ok (.iconst (-1), 1) := by decide +kernel
theorem dX7_nextEar_26 : decode cX7_nextEar 26 = .ok (.istore_n 2, 1) := by decide +kernel
theorem dX7_nextEar_27 : decode cX7_nextEar 27 = .ok (.iconst 0, 1) := by decide +kernel
theorem dX7_nextEar_28 : decode cX7_nextEar 28 = .ok (.istore_n 3, 1) := by decide +kernel
theorem dX7_nextEar_29 : decode cX7_nextEar 29 = .ok (.iconst 0, 1) := by decide +kernel
theorem dX7_nextEar_30 : decode cX7_nextEar 30 = .ok (.istore 4, 2) := by decide +kernel
theorem dX7_nextEar_32 : decode cX7_nextEar 32 = .ok (.iload 4, 2) := by decide +kernel
theorem dX7_nextEar_34 : decode cX7_nextEar 34 = .ok (.aload_n 0, 1) := by decide +kernel
theorem dX7_nextEar_35 : decode cX7_nextEar 35 = .ok (.invokevirtual 64, 3) := by decide +kernel
theorem dX7_nextEar_38 : decode cX7_nextEar 38 = .ok (.if_icmp .ge 150, 3) := by decide +kernel
theorem dX7_nextEar_41 : decode cX7_nextEar 41 = .ok (.iconst 0, 1) := by decide +kernel
theorem dX7_nextEar_42 : decode cX7_nextEar 42 = .ok (.istore 5, 2) := by decide +kernel
theorem dX7_nextEar_44 : decode cX7_nextEar 44 = .ok (.iconst 0, 1) := by decide +kernel
theorem dX7_nextEar_45 : decode cX7_nextEar 45 = .ok (.istore 6, 2) := by decide +kernel
theorem dX7_nextEar_47 : decode cX7_nextEar 47 = .ok (.iload 6, 2) := by decide +kernel
theorem dX7_nextEar_49 : decode cX7_nextEar 49 = .ok (.bipush 6, 2) := by decide +kernel
theorem dX7_nextEar_51 : decode cX7_nextEar 51 = .ok (.if_icmp .ge 105, 3) := by decide +kernel
theorem dX7_nextEar_54 : decode cX7_nextEar 54 = .ok (.iload 6, 2) := by decide +kernel
theorem dX7_nextEar_56 : decode cX7_nextEar 56 = .ok (.iconst 1, 1) := by decide +kernel
theorem dX7_nextEar_57 : decode cX7_nextEar 57 = .ok (.iadd, 1) := by decide +kernel
theorem dX7_nextEar_58 : decode cX7_nextEar 58 = .ok (.istore 7, 2) := by decide +kernel
theorem dX7_nextEar_60 : decode cX7_nextEar 60 = .ok (.iload 7, 2) := by decide +kernel
theorem dX7_nextEar_62 : decode cX7_nextEar 62 = .ok (.bipush 6, 2) := by decide +kernel
theorem dX7_nextEar_64 : decode cX7_nextEar 64 = .ok (.if_icmp .ge 86, 3) := by decide +kernel
theorem dX7_nextEar_67 : decode cX7_nextEar 67 = .ok (.iload_n 1, 1) := by decide +kernel
theorem dX7_nextEar_68 : decode cX7_nextEar 68 = .ok (.iload 6, 2) := by decide +kernel
theorem dX7_nextEar_70 : decode cX7_nextEar 70 = .ok (.ishr, 1) := by decide +kernel
theorem dX7_nextEar_71 : decode cX7_nextEar 71 = .ok (.iconst 1, 1) := by decide +kernel
theorem dX7_nextEar_72 : decode cX7_nextEar 72 = .ok (.iand, 1) := by decide +kernel
theorem dX7_nextEar_73 : decode cX7_nextEar 73 = .ok (.iconst 1, 1) := by decide +kernel
theorem dX7_nextEar_74 : decode cX7_nextEar 74 = .ok (.if_icmp .ne 17, 3) := by decide +kernel
theorem dX7_nextEar_77 : decode cX7_nextEar 77 = .ok (.iload_n 1, 1) := by decide +kernel
theorem dX7_nextEar_78 : decode cX7_nextEar 78 = .ok (.iload 7, 2) := by decide +kernel
theorem dX7_nextEar_80 : decode cX7_nextEar 80 = .ok (.ishr, 1) := by decide +kernel
theorem dX7_nextEar_81 : decode cX7_nextEar 81 = .ok (.iconst 1, 1) := by decide +kernel
theorem dX7_nextEar_82 : decode cX7_nextEar 82 = .ok (.iand, 1) := by decide +kernel
theorem dX7_nextEar_83 : decode cX7_nextEar 83 = .ok (.iconst 1, 1) := by decide +kernel
theorem dX7_nextEar_84 : decode cX7_nextEar 84 = .ok (.if_icmp .ne 7, 3) := by decide +kernel
theorem dX7_nextEar_87 : decode cX7_nextEar 87 = .ok (.iconst 1, 1) := by decide +kernel
theorem dX7_nextEar_88 : decode cX7_nextEar 88 = .ok (.goto 4, 3) := by decide +kernel
theorem dX7_nextEar_91 : decode cX7_nextEar 91 = .ok (.iconst 0, 1) := by decide +kernel
theorem dX7_nextEar_92 : decode cX7_nextEar 92 = .ok (.istore 8, 2) := by decide +kernel
theorem dX7_nextEar_94 : decode cX7_nextEar 94 = .ok (.iload 5, 2) := by decide +kernel
theorem dX7_nextEar_96 : decode cX7_nextEar 96 = .ok (.iload 8, 2) := by decide +kernel
theorem dX7_nextEar_98 : decode cX7_nextEar 98 = .ok (.ifCond .eq 42, 3) := by decide +kernel
theorem dX7_nextEar_101 : decode cX7_nextEar 101 = .ok (.aload_n 0, 1) := by decide +kernel
theorem dX7_nextEar_102 : decode cX7_nextEar 102 = .ok (.iload 6, 2) := by decide +kernel
theorem dX7_nextEar_104 : decode cX7_nextEar 104 = .ok (.iload 4, 2) := by decide +kernel
theorem dX7_nextEar_106 : decode cX7_nextEar 106 = .ok (.invokevirtual 136, 3) := by decide +kernel
theorem dX7_nextEar_109 : decode cX7_nextEar 109 = .ok (.aload_n 0, 1) := by decide +kernel
theorem dX7_nextEar_110 : decode cX7_nextEar 110 = .ok (.iload 6, 2) := by decide +kernel
theorem dX7_nextEar_112 : decode cX7_nextEar 112 = .ok (.iconst 0, 1) := by decide +kernel
theorem dX7_nextEar_113 : decode cX7_nextEar 113 = .ok (.invokevirtual 136, 3) := by decide +kernel
theorem dX7_nextEar_116 : decode cX7_nextEar 116 = .ok (.isub, 1) := by decide +kernel
theorem dX7_nextEar_117 : decode cX7_nextEar 117 = .ok (.aload_n 0, 1) := by decide +kernel
theorem dX7_nextEar_118 : decode cX7_nextEar 118 = .ok (.iload 7, 2) := by decide +kernel
theorem dX7_nextEar_120 : decode cX7_nextEar 120 = .ok (.iload 4, 2) := by decide +kernel
theorem dX7_nextEar_122 : decode cX7_nextEar 122 = .ok (.invokevirtual 136, 3) := by decide +kernel
theorem dX7_nextEar_125 : decode cX7_nextEar 125 = .ok (.aload_n 0, 1) := by decide +kernel
theorem dX7_nextEar_126 : decode cX7_nextEar 126 = .ok (.iload 7, 2) := by decide +kernel
theorem dX7_nextEar_128 : decode cX7_nextEar 128 = .ok (.iconst 0, 1) := by decide +kernel
theorem dX7_nextEar_129 : decode cX7_nextEar 129 = .ok (.invokevirtual 136, 3) := by decide +kernel
theorem dX7_nextEar_132 : decode cX7_nextEar 132 = .ok (.isub, 1) := by decide +kernel
theorem dX7_nextEar_133 : decode cX7_nextEar 133 = .ok (.if_icmp .eq 7, 3) := by decide +kernel
theorem dX7_nextEar_136 : decode cX7_nextEar 136 = .ok (.iconst 1, 1) := by decide +kernel
theorem dX7_nextEar_137 : decode cX7_nextEar 137 = .ok (.goto 4, 3) := by decide +kernel
theorem dX7_nextEar_140 : decode cX7_nextEar 140 = .ok (.iconst 0, 1) := by decide +kernel
theorem dX7_nextEar_141 : decode cX7_nextEar 141 = .ok (.iadd, 1) := by decide +kernel
theorem dX7_nextEar_142 : decode cX7_nextEar 142 = .ok (.istore 5, 2) := by decide +kernel
theorem dX7_nextEar_144 : decode cX7_nextEar 144 = .ok (.iinc 7 1, 3) := by decide +kernel
theorem dX7_nextEar_147 : decode cX7_nextEar 147 = .ok (.goto (-87), 3) := by decide +kernel
theorem dX7_nextEar_150 : decode cX7_nextEar 150 = .ok (.iinc 6 1, 3) := by decide +kernel
theorem dX7_nextEar_153 : decode cX7_nextEar 153 = .ok (.goto (-106), 3) := by decide +kernel
theorem dX7_nextEar_156 : decode cX7_nextEar 156 = .ok (.iload 5, 2) := by decide +kernel
theorem dX7_nextEar_158 : decode cX7_nextEar 158 = .ok (.iload_n 3, 1) := by decide +kernel
theorem dX7_nextEar_159 : decode cX7_nextEar 159 = .ok (.if_icmp .le 8, 3) := by decide +kernel
theorem dX7_nextEar_162 : decode cX7_nextEar 162 = .ok (.iload 4, 2) := by decide +kernel
theorem dX7_nextEar_164 : decode cX7_nextEar 164 = .ok (.goto 4, 3) := by decide +kernel
theorem dX7_nextEar_167 : decode cX7_nextEar 167 = .ok (.iload_n 2, 1) := by decide +kernel
theorem dX7_nextEar_168 : decode cX7_nextEar 168 = .ok (.istore_n 2, 1) := by decide +kernel
theorem dX7_nextEar_169 : decode cX7_nextEar 169 = .ok (.iload 5, 2) := by decide +kernel
theorem dX7_nextEar_171 : decode cX7_nextEar 171 = .ok (.iload_n 3, 1) := by decide +kernel
theorem dX7_nextEar_172 : decode cX7_nextEar 172 = .ok (.if_icmp .le 8, 3) := by decide +kernel
theorem dX7_nextEar_175 : decode cX7_nextEar 175 = .ok (.iload 5, 2) := by decide +kernel
theorem dX7_nextEar_177 : decode cX7_nextEar 177 = .ok (.goto 4, 3) := by decide +kernel
theorem dX7_nextEar_180 : decode cX7_nextEar 180 = .ok (.iload_n 3, 1) := by decide +kernel
theorem dX7_nextEar_181 : decode cX7_nextEar 181 = .ok (.istore_n 3, 1) := by decide +kernel
theorem dX7_nextEar_182 : decode cX7_nextEar 182 = .ok (.iinc 4 1, 3) := by decide +kernel
theorem dX7_nextEar_185 : decode cX7_nextEar 185 = .ok (.goto (-153), 3) := by decide +kernel
theorem dX7_nextEar_188 : decode cX7_nextEar 188 = .ok (.iload_n 2, 1) := by decide +kernel
theorem dX7_nextEar_189 : decode cX7_nextEar 189 = .ok (.ireturn, 1) := by decide +kernel
theorem dX7_drawn_0 : decode cX7_drawn 0 = .ok (.iload_n 1, 1) := by decide +kernel
theorem dX7_drawn_1 : decode cX7_drawn 1 = .ok (.invokestatic 170, 3) := by decide +kernel
theorem dX7_drawn_4 : decode cX7_drawn 4 = .ok (.ifCond .ne 10, 3) := by decide +kernel
theorem dX7_drawn_7 : decode cX7_drawn 7 = .ok (.aload_n 0, 1) := by decide +kernel
theorem dX7_drawn_8 : decode cX7_drawn 8 = .ok (.bipush (-2), 2) := by decide +kernel
theorem dX7_drawn_10 : decode cX7_drawn 10 = .ok (.invokevirtual 76, 3) := by decide +kernel
theorem dX7_drawn_13 : decode cX7_drawn 13 = .ok (.ireturn, 1) := by decide +kernel
theorem dX7_drawn_14 : decode cX7_drawn 14 = .ok (.aload_n 0, 1) := by decide +kernel
theorem dX7_drawn_15 : decode cX7_drawn 15 = .ok (.iconst 0, 1) := by decide +kernel
theorem dX7_drawn_16 : decode cX7_drawn 16 = .ok (.putfield 143, 3) := by decide +kernel
theorem dX7_drawn_19 : decode cX7_drawn 19 = .ok (.aload_n 0, 1) := by decide +kernel
theorem dX7_drawn_20 : decode cX7_drawn 20 = .ok (.getfield 7, 3) := by decide +kernel
theorem dX7_drawn_23 : decode cX7_drawn 23 = .ok (.bipush 21, 2) := by decide +kernel
theorem dX7_drawn_25 : decode cX7_drawn 25 = .ok (.iaload, 1) := by decide +kernel
theorem dX7_drawn_26 : decode cX7_drawn 26 = .ok (.istore_n 2, 1) := by decide +kernel
theorem dX7_drawn_27 : decode cX7_drawn 27 = .ok (.iconst 0, 1) := by decide +kernel
theorem dX7_drawn_28 : decode cX7_drawn 28 = .ok (.istore_n 3, 1) := by decide +kernel
theorem dX7_drawn_29 : decode cX7_drawn 29 = .ok (.bipush (-2), 2) := by decide +kernel
theorem dX7_drawn_31 : decode cX7_drawn 31 = .ok (.istore 4, 2) := by decide +kernel
theorem dX7_drawn_33 : decode cX7_drawn 33 = .ok (.iload 4, 2) := by decide +kernel
theorem dX7_drawn_35 : decode cX7_drawn 35 = .ok (.iconst 2, 1) := by decide +kernel
theorem dX7_drawn_36 : decode cX7_drawn 36 = .ok (.if_icmp .gt 34, 3) := by decide +kernel
theorem dX7_drawn_39 : decode cX7_drawn 39 = .ok (.aload_n 0, 1) := by decide +kernel
theorem dX7_drawn_40 : decode cX7_drawn 40 = .ok (.getfield 7, 3) := by decide +kernel
theorem dX7_drawn_43 : decode cX7_drawn 43 = .ok (.bipush 21, 2) := by decide +kernel
theorem dX7_drawn_45 : decode cX7_drawn 45 = .ok (.iload 4, 2) := by decide +kernel
theorem dX7_drawn_47 : decode cX7_drawn 47 = .ok (.iastore, 1) := by decide +kernel
theorem dX7_drawn_48 : decode cX7_drawn 48 = .ok (.iload_n 3, 1) := by decide +kernel
theorem dX7_drawn_49 : decode cX7_drawn 49 = .ok (.aload_n 0, 1) := by decide +kernel
theorem dX7_drawn_50 : decode cX7_drawn 50 = .ok (.iload_n 1, 1) := by decide +kernel
theorem dX7_drawn_51 : decode cX7_drawn 51 = .ok (.invokevirtual 173, 3) := by decide +kernel
theorem dX7_drawn_54 : decode cX7_drawn 54 = .ok (.ifCond .eq 7, 3) := by decide +kernel
theorem dX7_drawn_57 : decode cX7_drawn 57 = .ok (.iconst 1, 1) := by decide +kernel
theorem dX7_drawn_58 : decode cX7_drawn 58 = .ok (.goto 4, 3) := by decide +kernel
theorem dX7_drawn_61 : decode cX7_drawn 61 = .ok (.iconst 0, 1) := by decide +kernel
theorem dX7_drawn_62 : decode cX7_drawn 62 = .ok (.iadd, 1) := by decide +kernel
theorem dX7_drawn_63 : decode cX7_drawn 63 = .ok (.istore_n 3, 1) := by decide +kernel
theorem dX7_drawn_64 : decode cX7_drawn 64 = .ok (.iinc 4 1, 3) := by decide +kernel
theorem dX7_drawn_67 : decode cX7_drawn 67 = .ok (.goto (-34), 3) := by decide +kernel
theorem dX7_drawn_70 : decode cX7_drawn 70 = .ok (.aload_n 0, 1) := by decide +kernel
theorem dX7_drawn_71 : decode cX7_drawn 71 = .ok (.getfield 7, 3) := by decide +kernel
theorem dX7_drawn_74 : decode cX7_drawn 74 = .ok (.bipush 21, 2) := by decide +kernel
theorem dX7_drawn_76 : decode cX7_drawn 76 = .ok (.iload_n 2, 1) := by decide +kernel
theorem dX7_drawn_77 : decode cX7_drawn 77 = .ok (.iastore, 1) := by decide +kernel
theorem dX7_drawn_78 : decode cX7_drawn 78 = .ok (.iload_n 3, 1) := by decide +kernel
theorem dX7_drawn_79 : decode cX7_drawn 79 = .ok (.ireturn, 1) := by decide +kernel
theorem dX7_type_0 : decode cX7_type 0 = .ok (.iload_n 3, 1) := by decide +kernel
theorem dX7_type_1 : decode cX7_type 1 = .ok (.i2l, 1) := by decide +kernel
theorem dX7_type_2 : decode cX7_type 2 = .ok (.lconst 1, 1) := by decide +kernel
theorem dX7_type_3 : decode cX7_type 3 = .ok (.ldc2_w 215, 3) := by decide +kernel
theorem dX7_type_6 : decode cX7_type 6 = .ok (.invokestatic 60, 3) := by decide +kernel
theorem dX7_type_9 : decode cX7_type 9 = .ok (.ifCond .ne 10, 3) := by decide +kernel
theorem dX7_type_12 : decode cX7_type 12 = .ok (.aload_n 0, 1) := by decide +kernel
theorem dX7_type_13 : decode cX7_type 13 = .ok (.bipush (-2), 2) := by decide +kernel
theorem dX7_type_15 : decode cX7_type 15 = .ok (.invokevirtual 76, 3) := by decide +kernel
theorem dX7_type_18 : decode cX7_type 18 = .ok (.ireturn, 1) := by decide +kernel
theorem dX7_type_19 : decode cX7_type 19 = .ok (.aload_n 0, 1) := by decide +kernel
theorem dX7_type_20 : decode cX7_type 20 = .ok (.getfield 217, 3) := by decide +kernel
theorem dX7_type_23 : decode cX7_type 23 = .ok (.iload_n 3, 1) := by decide +kernel
theorem dX7_type_24 : decode cX7_type 24 = .ok (.iadd, 1) := by decide +kernel
theorem dX7_type_25 : decode cX7_type 25 = .ok (.sipush 250, 3) := by decide +kernel
theorem dX7_type_28 : decode cX7_type 28 = .ok (.if_icmp .le 8, 3) := by decide +kernel
theorem dX7_type_31 : decode cX7_type 31 = .ok (.aload_n 0, 1) := by decide +kernel
theorem dX7_type_32 : decode cX7_type 32 = .ok (.invokevirtual 80, 3) := by decide +kernel
theorem dX7_type_35 : decode cX7_type 35 = .ok (.ireturn, 1) := by decide +kernel
theorem dX7_type_36 : decode cX7_type 36 = .ok (.iload_n 3, 1) := by decide +kernel
theorem dX7_type_37 : decode cX7_type 37 = .ok (.iconst 1, 1) := by decide +kernel
theorem dX7_type_38 : decode cX7_type 38 = .ok (.isub, 1) := by decide +kernel
theorem dX7_type_39 : decode cX7_type 39 = .ok (.istore 4, 2) := by decide +kernel
theorem dX7_type_41 : decode cX7_type 41 = .ok (.iload 4, 2) := by decide +kernel
theorem dX7_type_43 : decode cX7_type 43 = .ok (.ifCond .lt 40, 3) := by decide +kernel
theorem dX7_type_46 : decode cX7_type 46 = .ok (.aload_n 0, 1) := by decide +kernel
theorem dX7_type_47 : decode cX7_type 47 = .ok (.getfield 50, 3) := by decide +kernel
theorem dX7_type_50 : decode cX7_type 50 = .ok (.aload_n 0, 1) := by decide +kernel
theorem dX7_type_51 : decode cX7_type 51 = .ok (.getfield 217, 3) := by decide +kernel
theorem dX7_type_54 : decode cX7_type 54 = .ok (.lload_n 1, 1) := by decide +kernel
theorem dX7_type_55 : decode cX7_type 55 = .ok (.bipush 8, 2) := by decide +kernel
theorem dX7_type_57 : decode cX7_type 57 = .ok (.iload 4, 2) := by decide +kernel
theorem dX7_type_59 : decode cX7_type 59 = .ok (.imul, 1) := by decide +kernel
theorem dX7_type_60 : decode cX7_type 60 = .ok (.lushr, 1) := by decide +kernel
theorem dX7_type_61 : decode cX7_type 61 = .ok (.ldc2_w 220, 3) := by decide +kernel
theorem dX7_type_64 : decode cX7_type 64 = .ok (.land, 1) := by decide +kernel
theorem dX7_type_65 : decode cX7_type 65 = .ok (.l2i, 1) := by decide +kernel
theorem dX7_type_66 : decode cX7_type 66 = .ok (.iastore, 1) := by decide +kernel
theorem dX7_type_67 : decode cX7_type 67 = .ok (.aload_n 0, 1) := by decide +kernel
theorem dX7_type_68 : decode cX7_type 68 = .ok (.dup, 1) := by decide +kernel
theorem dX7_type_69 : decode cX7_type 69 = .ok (.getfield 217, 3) := by decide +kernel
theorem dX7_type_72 : decode cX7_type 72 = .ok (.iconst 1, 1) := by decide +kernel
theorem dX7_type_73 : decode cX7_type 73 = .ok (.iadd, 1) := by decide +kernel
theorem dX7_type_74 : decode cX7_type 74 = .ok (.putfield 217, 3) := by decide +kernel
theorem dX7_type_77 : decode cX7_type 77 = .ok (.iinc 4 (-1), 3) := by decide +kernel
theorem dX7_type_80 : decode cX7_type 80 = .ok (.goto (-39), 3) := by decide +kernel
theorem dX7_type_83 : decode cX7_type 83 = .ok (.aload_n 0, 1) := by decide +kernel
theorem dX7_type_84 : decode cX7_type 84 = .ok (.getfield 217, 3) := by decide +kernel
theorem dX7_type_87 : decode cX7_type 87 = .ok (.ireturn, 1) := by decide +kernel
theorem dX7_clear_0 : decode cX7_clear 0 = .ok (.aload_n 0, 1) := by decide +kernel
theorem dX7_clear_1 : decode cX7_clear 1 = .ok (.getfield 217, 3) := by decide +kernel
theorem dX7_clear_4 : decode cX7_clear 4 = .ok (.istore_n 1, 1) := by decide +kernel
theorem dX7_clear_5 : decode cX7_clear 5 = .ok (.aload_n 0, 1) := by decide +kernel
theorem dX7_clear_6 : decode cX7_clear 6 = .ok (.iconst 0, 1) := by decide +kernel
theorem dX7_clear_7 : decode cX7_clear 7 = .ok (.putfield 217, 3) := by decide +kernel
theorem dX7_clear_10 : decode cX7_clear 10 = .ok (.iload_n 1, 1) := by decide +kernel
theorem dX7_clear_11 : decode cX7_clear 11 = .ok (.ireturn, 1) := by decide +kernel
theorem dX7_isSmall_0 : decode cX7_isSmall 0 = .ok (.iload_n 0, 1) := by decide +kernel
theorem dX7_isSmall_1 : decode cX7_isSmall 1 = .ok (.i2l, 1) := by decide +kernel
theorem dX7_isSmall_2 : decode cX7_isSmall 2 = .ok (.ldc2_w 222, 3) := by decide +kernel
theorem dX7_isSmall_5 : decode cX7_isSmall 5 = .ok (.ldc2_w 224, 3) := by decide +kernel
theorem dX7_isSmall_8 : decode cX7_isSmall 8 = .ok (.invokestatic 60, 3) := by decide +kernel
theorem dX7_isSmall_11 : decode cX7_isSmall 11 = .ok (.ireturn, 1) := by decide +kernel
theorem dX7_isFigure_0 : decode cX7_isFigure 0 = .ok (.iload_n 0, 1) := by decide +kernel
theorem dX7_isFigure_1 : decode cX7_isFigure 1 = .ok (.i2l, 1) := by decide +kernel
theorem dX7_isFigure_2 : decode cX7_isFigure 2 = .ok (.ldc2_w 226, 3) := by decide +kernel
theorem dX7_isFigure_5 : decode cX7_isFigure 5 = .ok (.ldc2_w 228, 3) := by decide +kernel
theorem dX7_isFigure_8 : decode cX7_isFigure 8 = .ok (.invokestatic 60, 3) := by decide +kernel
theorem dX7_isFigure_11 : decode cX7_isFigure 11 = .ok (.ireturn, 1) := by decide +kernel
theorem dX7_look_0 : decode cX7_look 0 = .ok (.aload_n 0, 1) := by decide +kernel
theorem dX7_look_1 : decode cX7_look 1 = .ok (.iload_n 1, 1) := by decide +kernel
theorem dX7_look_2 : decode cX7_look 2 = .ok (.putfield 230, 3) := by decide +kernel
theorem dX7_look_5 : decode cX7_look 5 = .ok (.aload_n 0, 1) := by decide +kernel
theorem dX7_look_6 : decode cX7_look 6 = .ok (.getfield 230, 3) := by decide +kernel
theorem dX7_look_9 : decode cX7_look 9 = .ok (.aload_n 0, 1) := by decide +kernel
theorem dX7_look_10 : decode cX7_look 10 = .ok (.getfield 217, 3) := by decide +kernel
theorem dX7_look_13 : decode cX7_look 13 = .ok (.if_icmp .ge 30, 3) := by decide +kernel
theorem dX7_look_16 : decode cX7_look 16 = .ok (.aload_n 0, 1) := by decide +kernel
theorem dX7_look_17 : decode cX7_look 17 = .ok (.getfield 50, 3) := by decide +kernel
theorem dX7_look_20 : decode cX7_look 20 = .ok (.aload_n 0, 1) := by decide +kernel
theorem dX7_look_21 : decode cX7_look 21 = .ok (.getfield 230, 3) := by decide +kernel
theorem dX7_look_24 : decode cX7_look 24 = .ok (.iaload, 1) := by decide +kernel
theorem dX7_look_25 : decode cX7_look 25 = .ok (.bipush 32, 2) := by decide +kernel
theorem dX7_look_27 : decode cX7_look 27 = .ok (.if_icmp .ne 16, 3) := by decide +kernel
theorem dX7_look_30 : decode cX7_look 30 = .ok (.aload_n 0, 1) := by decide +kernel
theorem dX7_look_31 : decode cX7_look 31 = .ok (.dup, 1) := by decide +kernel
theorem dX7_look_32 : decode cX7_look 32 = .ok (.getfield 230, 3) := by decide +kernel
theorem dX7_look_35 : decode cX7_look 35 = .ok (.iconst 1, 1) := by decide +kernel
theorem dX7_look_36 : decode cX7_look 36 = .ok (.iadd, 1) := by decide +kernel
theorem dX7_look_37 : decode cX7_look 37 = .ok (.putfield 230, 3) := by decide +kernel
theorem dX7_look_40 : decode cX7_look 40 = .ok (.goto (-35), 3) := by decide +kernel
theorem dX7_look_43 : decode cX7_look 43 = .ok (.aload_n 0, 1) := by decide +kernel
theorem dX7_look_44 : decode cX7_look 44 = .ok (.iconst 0, 1) := by decide +kernel
theorem dX7_look_45 : decode cX7_look 45 = .ok (.putfield 233, 3) := by decide +kernel
theorem dX7_look_48 : decode cX7_look 48 = .ok (.aload_n 0, 1) := by decide +kernel
theorem dX7_look_49 : decode cX7_look 49 = .ok (.iconst 0, 1) := by decide +kernel
theorem dX7_look_50 : decode cX7_look 50 = .ok (.putfield 236, 3) := by decide +kernel
theorem dX7_look_53 : decode cX7_look 53 = .ok (.aload_n 0, 1) := by decide +kernel
theorem dX7_look_54 : decode cX7_look 54 = .ok (.iconst 0, 1) := by decide +kernel
theorem dX7_look_55 : decode cX7_look 55 = .ok (.putfield 239, 3) := by decide +kernel
theorem dX7_look_58 : decode cX7_look 58 = .ok (.aload_n 0, 1) := by decide +kernel
theorem dX7_look_59 : decode cX7_look 59 = .ok (.getfield 230, 3) := by decide +kernel
theorem dX7_look_62 : decode cX7_look 62 = .ok (.aload_n 0, 1) := by decide +kernel
theorem dX7_look_63 : decode cX7_look 63 = .ok (.getfield 217, 3) := by decide +kernel
theorem dX7_look_66 : decode cX7_look 66 = .ok (.if_icmp .ne 4, 3) := by decide +kernel
theorem dX7_look_69 : decode cX7_look 69 = .ok (.return_, 1) := by decide +kernel
theorem dX7_look_70 : decode cX7_look 70 = .ok (.aload_n 0, 1) := by decide +kernel
theorem dX7_look_71 : decode cX7_look 71 = .ok (.getfield 50, 3) := by decide +kernel
theorem dX7_look_74 : decode cX7_look 74 = .ok (.aload_n 0, 1) := by decide +kernel
theorem dX7_look_75 : decode cX7_look 75 = .ok (.getfield 230, 3) := by decide +kernel
theorem dX7_look_78 : decode cX7_look 78 = .ok (.iaload, 1) := by decide +kernel
theorem dX7_look_79 : decode cX7_look 79 = .ok (.istore_n 2, 1) := by decide +kernel
theorem dX7_look_80 : decode cX7_look 80 = .ok (.aload_n 0, 1) := by decide +kernel
theorem dX7_look_81 : decode cX7_look 81 = .ok (.iload_n 2, 1) := by decide +kernel
theorem dX7_look_82 : decode cX7_look 82 = .ok (.invokestatic 242, 3) := by decide +kernel
theorem dX7_look_85 : decode cX7_look 85 = .ok (.ifCond .eq 7, 3) := by decide +kernel
theorem dX7_look_88 : decode cX7_look 88 = .ok (.iconst 1, 1) := by decide +kernel
theorem dX7_look_89 : decode cX7_look 89 = .ok (.goto 35, 3) := by decide +kernel
theorem dX7_look_92 : decode cX7_look 92 = .ok (.iload_n 2, 1) := by decide +kernel
theorem dX7_look_93 : decode cX7_look 93 = .ok (.invokestatic 245, 3) := by decide +kernel
theorem dX7_look_96 : decode cX7_look 96 = .ok (.ifCond .eq 7, 3) := by decide +kernel
theorem dX7_look_99 : decode cX7_look 99 = .ok (.iconst 2, 1) := by decide +kernel
theorem dX7_look_100 : decode cX7_look 100 = .ok (.goto 24, 3) := by decide +kernel
theorem dX7_look_103 : decode cX7_look 103 = .ok (.iload_n 2, 1) := by decide +kernel
theorem dX7_look_104 : decode cX7_look 104 = .ok (.bipush 59, 2) := by decide +kernel
theorem dX7_look_106 : decode cX7_look 106 = .ok (.if_icmp .ne 7, 3) := by decide +kernel
theorem dX7_look_109 : decode cX7_look 109 = .ok (.iconst 3, 1) := by decide +kernel
theorem dX7_look_110 : decode cX7_look 110 = .ok (.goto 14, 3) := by decide +kernel
theorem dX7_look_113 : decode cX7_look 113 = .ok (.iload_n 2, 1) := by decide +kernel
theorem dX7_look_114 : decode cX7_look 114 = .ok (.bipush 45, 2) := by decide +kernel
theorem dX7_look_116 : decode cX7_look 116 = .ok (.if_icmp .ne 7, 3) := by decide +kernel
theorem dX7_look_119 : decode cX7_look 119 = .ok (.iconst 5, 1) := by decide +kernel
theorem dX7_look_120 : decode cX7_look 120 = .ok (.goto 4, 3) := by decide +kernel
theorem dX7_look_123 : decode cX7_look 123 = .ok (.iconst 4, 1) := by decide +kernel
theorem dX7_look_124 : decode cX7_look 124 = .ok (.putfield 236, 3) := by decide +kernel
theorem dX7_look_127 : decode cX7_look 127 = .ok (.aload_n 0, 1) := by decide +kernel
theorem dX7_look_128 : decode cX7_look 128 = .ok (.iconst 1, 1) := by decide +kernel
theorem dX7_look_129 : decode cX7_look 129 = .ok (.putfield 233, 3) := by decide +kernel
theorem dX7_look_132 : decode cX7_look 132 = .ok (.aload_n 0, 1) := by decide +kernel
theorem dX7_look_133 : decode cX7_look 133 = .ok (.getfield 236, 3) := by decide +kernel
theorem dX7_look_136 : decode cX7_look 136 = .ok (.iconst 3, 1) := by decide +kernel
theorem dX7_look_137 : decode cX7_look 137 = .ok (.if_icmp .ge 7, 3) := by decide +kernel
theorem dX7_look_140 : decode cX7_look 140 = .ok (.iconst 1, 1) := by decide +kernel
theorem dX7_look_141 : decode cX7_look 141 = .ok (.goto 4, 3) := by decide +kernel
theorem dX7_look_144 : decode cX7_look 144 = .ok (.iconst 0, 1) := by decide +kernel
theorem dX7_look_145 : decode cX7_look 145 = .ok (.istore_n 3, 1) := by decide +kernel
theorem dX7_look_146 : decode cX7_look 146 = .ok (.iload_n 3, 1) := by decide +kernel
theorem dX7_look_147 : decode cX7_look 147 = .ok (.ifCond .eq 78, 3) := by decide +kernel
theorem dX7_look_150 : decode cX7_look 150 = .ok (.aload_n 0, 1) := by decide +kernel
theorem dX7_look_151 : decode cX7_look 151 = .ok (.getfield 230, 3) := by decide +kernel
theorem dX7_look_154 : decode cX7_look 154 = .ok (.aload_n 0, 1) := by decide +kernel
theorem dX7_look_155 : decode cX7_look 155 = .ok (.getfield 233, 3) := by decide +kernel
theorem dX7_look_158 : decode cX7_look 158 = .ok (.iadd, 1) := by decide +kernel
theorem dX7_look_159 : decode cX7_look 159 = .ok (.aload_n 0, 1) := by decide +kernel
theorem dX7_look_160 : decode cX7_look 160 = .ok (.getfield 217, 3) := by decide +kernel
theorem dX7_look_163 : decode cX7_look 163 = .ok (.if_icmp .ge 62, 3) := by decide +kernel
theorem dX7_look_166 : decode cX7_look 166 = .ok (.aload_n 0, 1) := by decide +kernel
theorem dX7_look_167 : decode cX7_look 167 = .ok (.getfield 50, 3) := by decide +kernel
theorem dX7_look_170 : decode cX7_look 170 = .ok (.aload_n 0, 1) := by decide +kernel
theorem dX7_look_171 : decode cX7_look 171 = .ok (.getfield 230, 3) := by decide +kernel
theorem dX7_look_174 : decode cX7_look 174 = .ok (.aload_n 0, 1) := by decide +kernel
theorem dX7_look_175 : decode cX7_look 175 = .ok (.getfield 233, 3) := by decide +kernel
theorem dX7_look_178 : decode cX7_look 178 = .ok (.iadd, 1) := by decide +kernel
theorem dX7_look_179 : decode cX7_look 179 = .ok (.iaload, 1) := by decide +kernel
theorem dX7_look_180 : decode cX7_look 180 = .ok (.istore 4, 2) := by decide +kernel
theorem dX7_look_182 : decode cX7_look 182 = .ok (.aload_n 0, 1) := by decide +kernel
theorem dX7_look_183 : decode cX7_look 183 = .ok (.getfield 236, 3) := by decide +kernel
theorem dX7_look_186 : decode cX7_look 186 = .ok (.iconst 1, 1) := by decide +kernel
theorem dX7_look_187 : decode cX7_look 187 = .ok (.if_icmp .ne 11, 3) := by decide +kernel
theorem dX7_look_190 : decode cX7_look 190 = .ok (.iload 4, 2) := by decide +kernel
theorem dX7_look_192 : decode cX7_look 192 = .ok (.invokestatic 242, 3) := by decide +kernel
theorem dX7_look_195 : decode cX7_look 195 = .ok (.goto 8, 3) := by decide +kernel
theorem dX7_look_198 : decode cX7_look 198 = .ok (.iload 4, 2) := by decide +kernel
theorem dX7_look_200 : decode cX7_look 200 = .ok (.invokestatic 245, 3) := by decide +kernel
theorem dX7_look_203 : decode cX7_look 203 = .ok (.istore_n 3, 1) := by decide +kernel
theorem dX7_look_204 : decode cX7_look 204 = .ok (.aload_n 0, 1) := by decide +kernel
theorem dX7_look_205 : decode cX7_look 205 = .ok (.dup, 1) := by decide +kernel
theorem dX7_look_206 : decode cX7_look 206 = .ok (.getfield 233, 3) := by decide +kernel
theorem dX7_look_209 : decode cX7_look 209 = .ok (.iload_n 3, 1) := by decide +kernel
theorem dX7_look_210 : decode cX7_look 210 = .ok (.ifCond .eq 7, 3) := by decide +kernel
theorem dX7_look_213 : decode cX7_look 213 = .ok (.iconst 1, 1) := by decide +kernel
theorem dX7_look_214 : decode cX7_look 214 = .ok (.goto 4, 3) := by decide +kernel
theorem dX7_look_217 : decode cX7_look 217 = .ok (.iconst 0, 1) := by decide +kernel
theorem dX7_look_218 : decode cX7_look 218 = .ok (.iadd, 1) := by decide +kernel
theorem dX7_look_219 : decode cX7_look 219 = .ok (.putfield 233, 3) := by decide +kernel
theorem dX7_look_222 : decode cX7_look 222 = .ok (.goto (-76), 3) := by decide +kernel
theorem dX7_look_225 : decode cX7_look 225 = .ok (.iconst 0, 1) := by decide +kernel
theorem dX7_look_226 : decode cX7_look 226 = .ok (.istore 4, 2) := by decide +kernel
theorem dX7_look_228 : decode cX7_look 228 = .ok (.iload 4, 2) := by decide +kernel
theorem dX7_look_230 : decode cX7_look 230 = .ok (.aload_n 0, 1) := by decide +kernel
theorem dX7_look_231 : decode cX7_look 231 = .ok (.getfield 233, 3) := by decide +kernel
theorem dX7_look_234 : decode cX7_look 234 = .ok (.if_icmp .ge 50, 3) := by decide +kernel
theorem dX7_look_237 : decode cX7_look 237 = .ok (.iload 4, 2) := by decide +kernel
theorem dX7_look_239 : decode cX7_look 239 = .ok (.iconst 3, 1) := by decide +kernel
theorem dX7_look_240 : decode cX7_look 240 = .ok (.if_icmp .ge 44, 3) := by decide +kernel
theorem dX7_look_243 : decode cX7_look 243 = .ok (.aload_n 0, 1) := by decide +kernel
theorem dX7_look_244 : decode cX7_look 244 = .ok (.getfield 236, 3) := by decide +kernel
theorem dX7_look_247 : decode cX7_look 247 = .ok (.iconst 2, 1) := by decide +kernel
theorem dX7_look_248 : decode cX7_look 248 = .ok (.if_icmp .ne 36, 3) := by decide +kernel
theorem dX7_look_251 : decode cX7_look 251 = .ok (.aload_n 0, 1) := by decide +kernel
theorem dX7_look_252 : decode cX7_look 252 = .ok (.bipush 10, 2) := by decide +kernel
theorem dX7_look_254 : decode cX7_look 254 = .ok (.aload_n 0, 1) := by decide +kernel
theorem dX7_look_255 : decode cX7_look 255 = .ok (.getfield 239, 3) := by decide +kernel
theorem dX7_look_258 : decode cX7_look 258 = .ok (.imul, 1) := by decide +kernel
theorem dX7_look_259 : decode cX7_look 259 = .ok (.aload_n 0, 1) := by decide +kernel
theorem dX7_look_260 : decode cX7_look 260 = .ok (.getfield 50, 3) := by decide +kernel
theorem dX7_look_263 : decode cX7_look 263 = .ok (.aload_n 0, 1) := by decide +kernel
theorem dX7_look_264 : decode cX7_look 264 = .ok (.getfield 230, 3) := by decide +kernel
theorem dX7_look_267 : decode cX7_look 267 = .ok (.iload 4, 2) := by decide +kernel
theorem dX7_look_269 : decode cX7_look 269 = .ok (.iadd, 1) := by decide +kernel
theorem dX7_look_270 : decode cX7_look 270 = .ok (.iaload, 1) := by decide +kernel
theorem dX7_look_271 : decode cX7_look 271 = .ok (.iadd, 1) := by decide +kernel
theorem dX7_look_272 : decode cX7_look 272 = .ok (.bipush 48, 2) := by decide +kernel
theorem dX7_look_274 : decode cX7_look 274 = .ok (.isub, 1) := by decide +kernel
theorem dX7_look_275 : decode cX7_look 275 = .ok (.putfield 239, 3) := by decide +kernel
theorem dX7_look_278 : decode cX7_look 278 = .ok (.iinc 4 1, 3) := by decide +kernel
theorem dX7_look_281 : decode cX7_look 281 = .ok (.goto (-53), 3) := by decide +kernel
theorem dX7_look_284 : decode cX7_look 284 = .ok (.aload_n 0, 1) := by decide +kernel
theorem dX7_look_285 : decode cX7_look 285 = .ok (.aload_n 0, 1) := by decide +kernel
theorem dX7_look_286 : decode cX7_look 286 = .ok (.getfield 236, 3) := by decide +kernel
theorem dX7_look_289 : decode cX7_look 289 = .ok (.iconst 2, 1) := by decide +kernel
theorem dX7_look_290 : decode cX7_look 290 = .ok (.if_icmp .ne 15, 3) := by decide +kernel
theorem dX7_look_293 : decode cX7_look 293 = .ok (.aload_n 0, 1) := by decide +kernel
theorem dX7_look_294 : decode cX7_look 294 = .ok (.getfield 233, 3) := by decide +kernel
theorem dX7_look_297 : decode cX7_look 297 = .ok (.iconst 3, 1) := by decide +kernel
theorem dX7_look_298 : decode cX7_look 298 = .ok (.if_icmp .le 7, 3) := by decide +kernel
theorem dX7_look_301 : decode cX7_look 301 = .ok (.iconst 4, 1) := by decide +kernel
theorem dX7_look_302 : decode cX7_look 302 = .ok (.goto 7, 3) := by decide +kernel
theorem dX7_look_305 : decode cX7_look 305 = .ok (.aload_n 0, 1) := by decide +kernel
theorem dX7_look_306 : decode cX7_look 306 = .ok (.getfield 236, 3) := by decide +kernel
theorem dX7_look_309 : decode cX7_look 309 = .ok (.putfield 236, 3) := by decide +kernel
theorem dX7_look_312 : decode cX7_look 312 = .ok (.return_, 1) := by decide +kernel
theorem dX7_goOn_0 : decode cX7_goOn 0 = .ok (.aload_n 0, 1) := by decide +kernel
theorem dX7_goOn_1 : decode cX7_goOn 1 = .ok (.aload_n 0, 1) := by decide +kernel
theorem dX7_goOn_2 : decode cX7_goOn 2 = .ok (.getfield 230, 3) := by decide +kernel
theorem dX7_goOn_5 : decode cX7_goOn 5 = .ok (.aload_n 0, 1) := by decide +kernel
theorem dX7_goOn_6 : decode cX7_goOn 6 = .ok (.getfield 233, 3) := by decide +kernel
theorem dX7_goOn_9 : decode cX7_goOn 9 = .ok (.iadd, 1) := by decide +kernel
theorem dX7_goOn_10 : decode cX7_goOn 10 = .ok (.invokevirtual 248, 3) := by decide +kernel
theorem dX7_goOn_13 : decode cX7_goOn 13 = .ok (.return_, 1) := by decide +kernel
theorem dX7_isWord_0 : decode cX7_isWord 0 = .ok (.iload 4, 2) := by decide +kernel
theorem dX7_isWord_2 : decode cX7_isWord 2 = .ok (.ifCond .ne 7, 3) := by decide +kernel
theorem dX7_isWord_5 : decode cX7_isWord 5 = .ok (.iconst 3, 1) := by decide +kernel
theorem dX7_isWord_6 : decode cX7_isWord 6 = .ok (.goto 14, 3) := by decide +kernel
theorem dX7_isWord_9 : decode cX7_isWord 9 = .ok (.iload 5, 2) := by decide +kernel
theorem dX7_isWord_11 : decode cX7_isWord 11 = .ok (.ifCond .ne 7, 3) := by decide +kernel
theorem dX7_isWord_14 : decode cX7_isWord 14 = .ok (.iconst 4, 1) := by decide +kernel
theorem dX7_isWord_15 : decode cX7_isWord 15 = .ok (.goto 5, 3) := by decide +kernel
theorem dX7_isWord_18 : decode cX7_isWord 18 = .ok (.bipush 6, 2) := by decide +kernel
theorem dX7_isWord_20 : decode cX7_isWord 20 = .ok (.istore 7, 2) := by decide +kernel
theorem dX7_isWord_22 : decode cX7_isWord 22 = .ok (.aload_n 0, 1) := by decide +kernel
theorem dX7_isWord_23 : decode cX7_isWord 23 = .ok (.getfield 236, 3) := by decide +kernel
theorem dX7_isWord_26 : decode cX7_isWord 26 = .ok (.iconst 1, 1) := by decide +kernel
theorem dX7_isWord_27 : decode cX7_isWord 27 = .ok (.if_icmp .ne 16, 3) := by decide +kernel
theorem dX7_isWord_30 : decode cX7_isWord 30 = .ok (.aload_n 0, 1) := by decide +kernel
theorem dX7_isWord_31 : decode cX7_isWord 31 = .ok (.getfield 233, 3) := by decide +kernel
theorem dX7_isWord_34 : decode cX7_isWord 34 = .ok (.iload 7, 2) := by decide +kernel
theorem dX7_isWord_36 : decode cX7_isWord 36 = .ok (.if_icmp .ne 7, 3) := by decide +kernel
theorem dX7_isWord_39 : decode cX7_isWord 39 = .ok (.iconst 1, 1) := by decide +kernel
theorem dX7_isWord_40 : decode cX7_isWord 40 = .ok (.goto 4, 3) := by decide +kernel
theorem dX7_isWord_43 : decode cX7_isWord 43 = .ok (.iconst 0, 1) := by decide +kernel
theorem dX7_isWord_44 : decode cX7_isWord 44 = .ok (.istore 8, 2) := by decide +kernel
theorem dX7_isWord_46 : decode cX7_isWord 46 = .ok (.iconst 0, 1) := by decide +kernel
theorem dX7_isWord_47 : decode cX7_isWord 47 = .ok (.istore 9, 2) := by decide +kernel
theorem dX7_isWord_49 : decode cX7_isWord 49 = .ok (.iload 9, 2) := by decide +kernel
theorem dX7_isWord_51 : decode cX7_isWord 51 = .ok (.iload 7, 2) := by decide +kernel
theorem dX7_isWord_53 : decode cX7_isWord 53 = .ok (.if_icmp .ge 89, 3) := by decide +kernel
theorem dX7_isWord_56 : decode cX7_isWord 56 = .ok (.iload 8, 2) := by decide +kernel
theorem dX7_isWord_58 : decode cX7_isWord 58 = .ok (.ifCond .eq 84, 3) := by decide +kernel
theorem dX7_isWord_61 : decode cX7_isWord 61 = .ok (.aload_n 0, 1) := by decide +kernel
theorem dX7_isWord_62 : decode cX7_isWord 62 = .ok (.getfield 50, 3) := by decide +kernel
theorem dX7_isWord_65 : decode cX7_isWord 65 = .ok (.aload_n 0, 1) := by decide +kernel
theorem dX7_isWord_66 : decode cX7_isWord 66 = .ok (.getfield 230, 3) := by decide +kernel
theorem dX7_isWord_69 : decode cX7_isWord 69 = .ok (.iload 9, 2) := by decide +kernel
theorem dX7_isWord_71 : decode cX7_isWord 71 = .ok (.iadd, 1) := by decide +kernel
theorem dX7_isWord_72 : decode cX7_isWord 72 = .ok (.iaload, 1) := by decide +kernel
theorem dX7_isWord_73 : decode cX7_isWord 73 = .ok (.iload 9, 2) := by decide +kernel
theorem dX7_isWord_75 : decode cX7_isWord 75 = .ok (.ifCond .ne 7, 3) := by decide +kernel
theorem dX7_isWord_78 : decode cX7_isWord 78 = .ok (.iload_n 1, 1) := by decide +kernel
theorem dX7_isWord_79 : decode cX7_isWord 79 = .ok (.goto 47, 3) := by decide +kernel
theorem dX7_isWord_82 : decode cX7_isWord 82 = .ok (.iload 9, 2) := by decide +kernel
theorem dX7_isWord_84 : decode cX7_isWord 84 = .ok (.iconst 1, 1) := by decide +kernel
theorem dX7_isWord_85 : decode cX7_isWord 85 = .ok (.if_icmp .ne 7, 3) := by decide +kernel
theorem dX7_isWord_88 : decode cX7_isWord 88 = .ok (.iload_n 2, 1) := by decide +kernel
theorem dX7_isWord_89 : decode cX7_isWord 89 = .ok (.goto 37, 3) := by decide +kernel
theorem dX7_isWord_92 : decode cX7_isWord 92 = .ok (.iload 9, 2) := by decide +kernel
theorem dX7_isWord_94 : decode cX7_isWord 94 = .ok (.iconst 2, 1) := by decide +kernel
theorem dX7_isWord_95 : decode cX7_isWord 95 = .ok (.if_icmp .ne 7, 3) := by decide +kernel
theorem dX7_isWord_98 : decode cX7_isWord 98 = .ok (.iload_n 3, 1) := by decide +kernel
theorem dX7_isWord_99 : decode cX7_isWord 99 = .ok (.goto 27, 3) := by decide +kernel
theorem dX7_isWord_102 : decode cX7_isWord 102 = .ok (.iload 9, 2) := by decide +kernel
theorem dX7_isWord_104 : decode cX7_isWord 104 = .ok (.iconst 3, 1) := by decide +kernel
theorem dX7_isWord_105 : decode cX7_isWord 105 = .ok (.if_icmp .ne 8, 3) := by decide +kernel
theorem dX7_isWord_108 : decode cX7_isWord 108 = .ok (.iload 4, 2) := by decide +kernel
theorem dX7_isWord_110 : decode cX7_isWord 110 = .ok (.goto 16, 3) := by decide +kernel
theorem dX7_isWord_113 : decode cX7_isWord 113 = .ok (.iload 9, 2) := by decide +kernel
theorem dX7_isWord_115 : decode cX7_isWord 115 = .ok (.iconst 4, 1) := by decide +kernel
theorem dX7_isWord_116 : decode cX7_isWord 116 = .ok (.if_icmp .ne 8, 3) := by decide +kernel
theorem dX7_isWord_119 : decode cX7_isWord 119 = .ok (.iload 5, 2) := by decide +kernel
theorem dX7_isWord_121 : decode cX7_isWord 121 = .ok (.goto 5, 3) := by decide +kernel
theorem dX7_isWord_124 : decode cX7_isWord 124 = .ok (.iload 6, 2) := by decide +kernel
theorem dX7_isWord_126 : decode cX7_isWord 126 = .ok (.if_icmp .ne 7, 3) := by decide +kernel
theorem dX7_isWord_129 : decode cX7_isWord 129 = .ok (.iconst 1, 1) := by decide +kernel
theorem dX7_isWord_130 : decode cX7_isWord 130 = .ok (.goto 4, 3) := by decide +kernel
theorem dX7_isWord_133 : decode cX7_isWord 133 = .ok (.iconst 0, 1) := by decide +kernel
theorem dX7_isWord_134 : decode cX7_isWord 134 = .ok (.istore 8, 2) := by decide +kernel
theorem dX7_isWord_136 : decode cX7_isWord 136 = .ok (.iinc 9 1, 3) := by decide +kernel
theorem dX7_isWord_139 : decode cX7_isWord 139 = .ok (.goto (-90), 3) := by decide +kernel
theorem dX7_isWord_142 : decode cX7_isWord 142 = .ok (.iload 8, 2) := by decide +kernel
theorem dX7_isWord_144 : decode cX7_isWord 144 = .ok (.ireturn, 1) := by decide +kernel
theorem dX7_takes_0 : decode cX7_takes 0 = .ok (.aload_n 0, 1) := by decide +kernel
theorem dX7_takes_1 : decode cX7_takes 1 = .ok (.getfield 236, 3) := by decide +kernel
theorem dX7_takes_4 : decode cX7_takes 4 = .ok (.iconst 2, 1) := by decide +kernel
theorem dX7_takes_5 : decode cX7_takes 5 = .ok (.if_icmp .ne 18, 3) := by decide +kernel
theorem dX7_takes_8 : decode cX7_takes 8 = .ok (.aload_n 0, 1) := by decide +kernel
theorem dX7_takes_9 : decode cX7_takes 9 = .ok (.getfield 239, 3) := by decide +kernel
theorem dX7_takes_12 : decode cX7_takes 12 = .ok (.i2l, 1) := by decide +kernel
theorem dX7_takes_13 : decode cX7_takes 13 = .ok (.iload_n 1, 1) := by decide +kernel
theorem dX7_takes_14 : decode cX7_takes 14 = .ok (.i2l, 1) := by decide +kernel
theorem dX7_takes_15 : decode cX7_takes 15 = .ok (.iload_n 2, 1) := by decide +kernel
theorem dX7_takes_16 : decode cX7_takes 16 = .ok (.i2l, 1) := by decide +kernel
theorem dX7_takes_17 : decode cX7_takes 17 = .ok (.invokestatic 60, 3) := by decide +kernel
theorem dX7_takes_20 : decode cX7_takes 20 = .ok (.ifCond .ne 5, 3) := by decide +kernel
theorem dX7_takes_23 : decode cX7_takes 23 = .ok (.iconst 0, 1) := by decide +kernel
theorem dX7_takes_24 : decode cX7_takes 24 = .ok (.ireturn, 1) := by decide +kernel
theorem dX7_takes_25 : decode cX7_takes 25 = .ok (.aload_n 0, 1) := by decide +kernel
theorem dX7_takes_26 : decode cX7_takes 26 = .ok (.aload_n 0, 1) := by decide +kernel
theorem dX7_takes_27 : decode cX7_takes 27 = .ok (.getfield 239, 3) := by decide +kernel
theorem dX7_takes_30 : decode cX7_takes 30 = .ok (.putfield 251, 3) := by decide +kernel
theorem dX7_takes_33 : decode cX7_takes 33 = .ok (.aload_n 0, 1) := by decide +kernel
theorem dX7_takes_34 : decode cX7_takes 34 = .ok (.invokevirtual 254, 3) := by decide +kernel
theorem dX7_takes_37 : decode cX7_takes 37 = .ok (.iconst 1, 1) := by decide +kernel
theorem dX7_takes_38 : decode cX7_takes 38 = .ok (.ireturn, 1) := by decide +kernel
theorem dX7_readsPlace_0 : decode cX7_readsPlace 0 = .ok (.aload_n 0, 1) := by decide +kernel
theorem dX7_readsPlace_1 : decode cX7_readsPlace 1 = .ok (.invokevirtual 254, 3) := by decide +kernel
theorem dX7_readsPlace_4 : decode cX7_readsPlace 4 = .ok (.aload_n 0, 1) := by decide +kernel
theorem dX7_readsPlace_5 : decode cX7_readsPlace 5 = .ok (.iconst 0, 1) := by decide +kernel
theorem dX7_readsPlace_6 : decode cX7_readsPlace 6 = .ok (.bipush 99, 2) := by decide +kernel
theorem dX7_readsPlace_8 : decode cX7_readsPlace 8 = .ok (.invokevirtual 257, 3) := by decide +kernel
theorem dX7_readsPlace_11 : decode cX7_readsPlace 11 = .ok (.ifCond .ne 5, 3) := by decide +kernel
theorem dX7_readsPlace_14 : decode cX7_readsPlace 14 = .ok (.iconst 0, 1) := by decide +kernel
theorem dX7_readsPlace_15 : decode cX7_readsPlace 15 = .ok (.ireturn, 1) := by decide +kernel
theorem dX7_readsPlace_16 : decode cX7_readsPlace 16 = .ok (.aload_n 0, 1) := by decide +kernel
theorem dX7_readsPlace_17 : decode cX7_readsPlace 17 = .ok (.getfield 53, 3) := by decide +kernel
theorem dX7_readsPlace_20 : decode cX7_readsPlace 20 = .ok (.iload_n 1, 1) := by decide +kernel
theorem dX7_readsPlace_21 : decode cX7_readsPlace 21 = .ok (.aload_n 0, 1) := by decide +kernel
theorem dX7_readsPlace_22 : decode cX7_readsPlace 22 = .ok (.getfield 251, 3) := by decide +kernel
theorem dX7_readsPlace_25 : decode cX7_readsPlace 25 = .ok (.iastore, 1) := by decide +kernel
theorem dX7_readsPlace_26 : decode cX7_readsPlace 26 = .ok (.aload_n 0, 1) := by decide +kernel
theorem dX7_readsPlace_27 : decode cX7_readsPlace 27 = .ok (.iconst 0, 1) := by decide +kernel
theorem dX7_readsPlace_28 : decode cX7_readsPlace 28 = .ok (.bipush 99, 2) := by decide +kernel
theorem dX7_readsPlace_30 : decode cX7_readsPlace 30 = .ok (.invokevirtual 257, 3) := by decide +kernel
theorem dX7_readsPlace_33 : decode cX7_readsPlace 33 = .ok (.ifCond .ne 5, 3) := by decide +kernel
theorem dX7_readsPlace_36 : decode cX7_readsPlace 36 = .ok (.iconst 0, 1) := by decide +kernel
theorem dX7_readsPlace_37 : decode cX7_readsPlace 37 = .ok (.ireturn, 1) := by decide +kernel
theorem dX7_readsPlace_38 : decode cX7_readsPlace 38 = .ok (.aload_n 0, 1) := by decide +kernel
theorem dX7_readsPlace_39 : decode cX7_readsPlace 39 = .ok (.getfield 53, 3) := by decide +kernel
theorem dX7_readsPlace_42 : decode cX7_readsPlace 42 = .ok (.iload_n 1, 1) := by decide +kernel
theorem dX7_readsPlace_43 : decode cX7_readsPlace 43 = .ok (.iconst 1, 1) := by decide +kernel
theorem dX7_readsPlace_44 : decode cX7_readsPlace 44 = .ok (.iadd, 1) := by decide +kernel
theorem dX7_readsPlace_45 : decode cX7_readsPlace 45 = .ok (.aload_n 0, 1) := by decide +kernel
theorem dX7_readsPlace_46 : decode cX7_readsPlace 46 = .ok (.getfield 251, 3) := by decide +kernel
theorem dX7_readsPlace_49 : decode cX7_readsPlace 49 = .ok (.iastore, 1) := by decide +kernel
theorem dX7_readsPlace_50 : decode cX7_readsPlace 50 = .ok (.iconst 1, 1) := by decide +kernel
theorem dX7_readsPlace_51 : decode cX7_readsPlace 51 = .ok (.ireturn, 1) := by decide +kernel
theorem dX7_readsOneOf_0 : decode cX7_readsOneOf 0 = .ok (.aload_n 0, 1) := by decide +kernel
theorem dX7_readsOneOf_1 : decode cX7_readsOneOf 1 = .ok (.getfield 53, 3) := by decide +kernel
theorem dX7_readsOneOf_4 : decode cX7_readsOneOf 4 = .ok (.bipush 54, 2) := by decide +kernel
theorem dX7_readsOneOf_6 : decode cX7_readsOneOf 6 = .ok (.iload_n 1, 1) := by decide +kernel
theorem dX7_readsOneOf_7 : decode cX7_readsOneOf 7 = .ok (.iadd, 1) := by decide +kernel
theorem dX7_readsOneOf_8 : decode cX7_readsOneOf 8 = .ok (.iaload, 1) := by decide +kernel
theorem dX7_readsOneOf_9 : decode cX7_readsOneOf 9 = .ok (.iload_n 3, 1) := by decide +kernel
theorem dX7_readsOneOf_10 : decode cX7_readsOneOf 10 = .ok (.if_icmp .ne 5, 3) := by decide +kernel
theorem dX7_readsOneOf_13 : decode cX7_readsOneOf 13 = .ok (.iconst 0, 1) := by decide +kernel
theorem dX7_readsOneOf_14 : decode cX7_readsOneOf 14 = .ok (.ireturn, 1) := by decide +kernel
theorem dX7_readsOneOf_15 : decode cX7_readsOneOf 15 = .ok (.aload_n 0, 1) := by decide +kernel
theorem dX7_readsOneOf_16 : decode cX7_readsOneOf 16 = .ok (.getfield 53, 3) := by decide +kernel
theorem dX7_readsOneOf_19 : decode cX7_readsOneOf 19 = .ok (.bipush 54, 2) := by decide +kernel
theorem dX7_readsOneOf_21 : decode cX7_readsOneOf 21 = .ok (.iload_n 1, 1) := by decide +kernel
theorem dX7_readsOneOf_22 : decode cX7_readsOneOf 22 = .ok (.iadd, 1) := by decide +kernel
theorem dX7_readsOneOf_23 : decode cX7_readsOneOf 23 = .ok (.dup2, 1) := by decide +kernel
theorem dX7_readsOneOf_24 : decode cX7_readsOneOf 24 = .ok (.iaload, 1) := by decide +kernel
theorem dX7_readsOneOf_25 : decode cX7_readsOneOf 25 = .ok (.iconst 1, 1) := by decide +kernel
theorem dX7_readsOneOf_26 : decode cX7_readsOneOf 26 = .ok (.iadd, 1) := by decide +kernel
theorem dX7_readsOneOf_27 : decode cX7_readsOneOf 27 = .ok (.iastore, 1) := by decide +kernel
theorem dX7_readsOneOf_28 : decode cX7_readsOneOf 28 = .ok (.aload_n 0, 1) := by decide +kernel
theorem dX7_readsOneOf_29 : decode cX7_readsOneOf 29 = .ok (.iload_n 2, 1) := by decide +kernel
theorem dX7_readsOneOf_30 : decode cX7_readsOneOf 30 = .ok (.iconst 2, 1) := by decide +kernel
theorem dX7_readsOneOf_31 : decode cX7_readsOneOf 31 = .ok (.aload_n 0, 1) := by decide +kernel
theorem dX7_readsOneOf_32 : decode cX7_readsOneOf 32 = .ok (.getfield 53, 3) := by decide +kernel
theorem dX7_readsOneOf_35 : decode cX7_readsOneOf 35 = .ok (.bipush 54, 2) := by decide +kernel
theorem dX7_readsOneOf_37 : decode cX7_readsOneOf 37 = .ok (.iload_n 1, 1) := by decide +kernel
theorem dX7_readsOneOf_38 : decode cX7_readsOneOf 38 = .ok (.iadd, 1) := by decide +kernel
theorem dX7_readsOneOf_39 : decode cX7_readsOneOf 39 = .ok (.iaload, 1) := by decide +kernel
theorem dX7_readsOneOf_40 : decode cX7_readsOneOf 40 = .ok (.iconst 1, 1) := by decide +kernel
theorem dX7_readsOneOf_41 : decode cX7_readsOneOf 41 = .ok (.isub, 1) := by decide +kernel
theorem dX7_readsOneOf_42 : decode cX7_readsOneOf 42 = .ok (.imul, 1) := by decide +kernel
theorem dX7_readsOneOf_43 : decode cX7_readsOneOf 43 = .ok (.iadd, 1) := by decide +kernel
theorem dX7_readsOneOf_44 : decode cX7_readsOneOf 44 = .ok (.invokevirtual 260, 3) := by decide +kernel
theorem dX7_readsOneOf_47 : decode cX7_readsOneOf 47 = .ok (.ireturn, 1) := by decide +kernel
theorem dX7_isTakenThen_0 : decode cX7_isTakenThen 0 = .ok (.iconst 0, 1) := by decide +kernel
theorem dX7_isTakenThen_1 : decode cX7_isTakenThen 1 = .ok (.istore_n 2, 1) := by decide +kernel
theorem dX7_isTakenThen_2 : decode cX7_isTakenThen 2 = .ok (.iconst 0, 1) := by decide +kernel
theorem dX7_isTakenThen_3 : decode cX7_isTakenThen 3 = .ok (.istore_n 3, 1) := by decide +kernel
theorem dX7_isTakenThen_4 : decode cX7_isTakenThen 4 = .ok (.iload_n 3, 1) := by decide +kernel
theorem dX7_isTakenThen_5 : decode cX7_isTakenThen 5 = .ok (.aload_n 0, 1) := by decide +kernel
theorem dX7_isTakenThen_6 : decode cX7_isTakenThen 6 = .ok (.getfield 53, 3) := by decide +kernel
theorem dX7_isTakenThen_9 : decode cX7_isTakenThen 9 = .ok (.bipush 56, 2) := by decide +kernel
theorem dX7_isTakenThen_11 : decode cX7_isTakenThen 11 = .ok (.iaload, 1) := by decide +kernel
theorem dX7_isTakenThen_12 : decode cX7_isTakenThen 12 = .ok (.if_icmp .ge 36, 3) := by decide +kernel
theorem dX7_isTakenThen_15 : decode cX7_isTakenThen 15 = .ok (.iload_n 2, 1) := by decide +kernel
theorem dX7_isTakenThen_16 : decode cX7_isTakenThen 16 = .ok (.ifCond .ne 20, 3) := by decide +kernel
theorem dX7_isTakenThen_19 : decode cX7_isTakenThen 19 = .ok (.aload_n 0, 1) := by decide +kernel
theorem dX7_isTakenThen_20 : decode cX7_isTakenThen 20 = .ok (.getfield 53, 3) := by decide +kernel
theorem dX7_isTakenThen_23 : decode cX7_isTakenThen 23 = .ok (.bipush 24, 2) := by decide +kernel
theorem dX7_isTakenThen_25 : decode cX7_isTakenThen 25 = .ok (.iconst 5, 1) := by decide +kernel
theorem dX7_isTakenThen_26 : decode cX7_isTakenThen 26 = .ok (.iload_n 3, 1) := by decide +kernel
theorem dX7_isTakenThen_27 : decode cX7_isTakenThen 27 = .ok (.imul, 1) := by decide +kernel
theorem dX7_isTakenThen_28 : decode cX7_isTakenThen 28 = .ok (.iadd, 1) := by decide +kernel
theorem dX7_isTakenThen_29 : decode cX7_isTakenThen 29 = .ok (.iconst 1, 1) := by decide +kernel
theorem dX7_isTakenThen_30 : decode cX7_isTakenThen 30 = .ok (.iadd, 1) := by decide +kernel
theorem dX7_isTakenThen_31 : decode cX7_isTakenThen 31 = .ok (.iaload, 1) := by decide +kernel
theorem dX7_isTakenThen_32 : decode cX7_isTakenThen 32 = .ok (.iload_n 1, 1) := by decide +kernel
theorem dX7_isTakenThen_33 : decode cX7_isTakenThen 33 = .ok (.if_icmp .ne 7, 3) := by decide +kernel
theorem dX7_isTakenThen_36 : decode cX7_isTakenThen 36 = .ok (.iconst 1, 1) := by decide +kernel
theorem dX7_isTakenThen_37 : decode cX7_isTakenThen 37 = .ok (.goto 4, 3) := by decide +kernel
theorem dX7_isTakenThen_40 : decode cX7_isTakenThen 40 = .ok (.iconst 0, 1) := by decide +kernel
theorem dX7_isTakenThen_41 : decode cX7_isTakenThen 41 = .ok (.istore_n 2, 1) := by decide +kernel
theorem dX7_isTakenThen_42 : decode cX7_isTakenThen 42 = .ok (.iinc 3 1, 3) := by decide +kernel
theorem dX7_isTakenThen_45 : decode cX7_isTakenThen 45 = .ok (.goto (-41), 3) := by decide +kernel
theorem dX7_isTakenThen_48 : decode cX7_isTakenThen 48 = .ok (.iload_n 2, 1) := by decide +kernel
theorem dX7_isTakenThen_49 : decode cX7_isTakenThen 49 = .ok (.ireturn, 1) := by decide +kernel
theorem dX7_readsPlayer_0 : decode cX7_readsPlayer 0 = .ok (.aload_n 0, 1) := by decide +kernel
theorem dX7_readsPlayer_1 : decode cX7_readsPlayer 1 = .ok (.getfield 53, 3) := by decide +kernel
theorem dX7_readsPlayer_4 : decode cX7_readsPlayer 4 = .ok (.bipush 56, 2) := by decide +kernel
theorem dX7_readsPlayer_6 : decode cX7_readsPlayer 6 = .ok (.iaload, 1) := by decide +kernel
theorem dX7_readsPlayer_7 : decode cX7_readsPlayer 7 = .ok (.istore_n 1, 1) := by decide +kernel
theorem dX7_readsPlayer_8 : decode cX7_readsPlayer 8 = .ok (.iload_n 1, 1) := by decide +kernel
theorem dX7_readsPlayer_9 : decode cX7_readsPlayer 9 = .ok (.bipush 6, 2) := by decide +kernel
theorem dX7_readsPlayer_11 : decode cX7_readsPlayer 11 = .ok (.if_icmp .ne 5, 3) := by decide +kernel
theorem dX7_readsPlayer_14 : decode cX7_readsPlayer 14 = .ok (.iconst 0, 1) := by decide +kernel
theorem dX7_readsPlayer_15 : decode cX7_readsPlayer 15 = .ok (.ireturn, 1) := by decide +kernel
theorem dX7_readsPlayer_16 : decode cX7_readsPlayer 16 = .ok (.aload_n 0, 1) := by decide +kernel
theorem dX7_readsPlayer_17 : decode cX7_readsPlayer 17 = .ok (.invokevirtual 254, 3) := by decide +kernel
theorem dX7_readsPlayer_20 : decode cX7_readsPlayer 20 = .ok (.aload_n 0, 1) := by decide +kernel
theorem dX7_readsPlayer_21 : decode cX7_readsPlayer 21 = .ok (.iconst 0, 1) := by decide +kernel
theorem dX7_readsPlayer_22 : decode cX7_readsPlayer 22 = .ok (.iconst 5, 1) := by decide +kernel
theorem dX7_readsPlayer_23 : decode cX7_readsPlayer 23 = .ok (.invokevirtual 257, 3) := by decide +kernel
theorem dX7_readsPlayer_26 : decode cX7_readsPlayer 26 = .ok (.ifCond .ne 5, 3) := by decide +kernel
theorem dX7_readsPlayer_29 : decode cX7_readsPlayer 29 = .ok (.iconst 0, 1) := by decide +kernel
theorem dX7_readsPlayer_30 : decode cX7_readsPlayer 30 = .ok (.ireturn, 1) := by decide +kernel
theorem dX7_readsPlayer_31 : decode cX7_readsPlayer 31 = .ok (.aload_n 0, 1) := by decide +kernel
theorem dX7_readsPlayer_32 : decode cX7_readsPlayer 32 = .ok (.getfield 251, 3) := by decide +kernel
theorem dX7_readsPlayer_35 : decode cX7_readsPlayer 35 = .ok (.istore_n 2, 1) := by decide +kernel
theorem dX7_readsPlayer_36 : decode cX7_readsPlayer 36 = .ok (.aload_n 0, 1) := by decide +kernel
theorem dX7_readsPlayer_37 : decode cX7_readsPlayer 37 = .ok (.getfield 236, 3) := by decide +kernel
theorem dX7_readsPlayer_40 : decode cX7_readsPlayer 40 = .ok (.iconst 2, 1) := by decide +kernel
theorem dX7_readsPlayer_41 : decode cX7_readsPlayer 41 = .ok (.if_icmp .ne 31, 3) := by decide +kernel
theorem dX7_readsPlayer_44 : decode cX7_readsPlayer 44 = .ok (.aload_n 0, 1) := by decide +kernel
theorem dX7_readsPlayer_45 : decode cX7_readsPlayer 45 = .ok (.aload_n 0, 1) := by decide +kernel
theorem dX7_readsPlayer_46 : decode cX7_readsPlayer 46 = .ok (.getfield 239, 3) := by decide +kernel
theorem dX7_readsPlayer_49 : decode cX7_readsPlayer 49 = .ok (.invokevirtual 263, 3) := by decide +kernel
theorem dX7_readsPlayer_52 : decode cX7_readsPlayer 52 = .ok (.ifCond .ne 20, 3) := by decide +kernel
theorem dX7_readsPlayer_55 : decode cX7_readsPlayer 55 = .ok (.aload_n 0, 1) := by decide +kernel
theorem dX7_readsPlayer_56 : decode cX7_readsPlayer 56 = .ok (.iconst 0, 1) := by decide +kernel
theorem dX7_readsPlayer_57 : decode cX7_readsPlayer 57 = .ok (.aload_n 0, 1) := by decide +kernel
theorem dX7_readsPlayer_58 : decode cX7_readsPlayer 58 = .ok (.getfield 53, 3) := by decide +kernel
theorem dX7_readsPlayer_61 : decode cX7_readsPlayer 61 = .ok (.bipush 54, 2) := by decide +kernel
theorem dX7_readsPlayer_63 : decode cX7_readsPlayer 63 = .ok (.iaload, 1) := by decide +kernel
theorem dX7_readsPlayer_64 : decode cX7_readsPlayer 64 = .ok (.iconst 1, 1) := by decide +kernel
theorem dX7_readsPlayer_65 : decode cX7_readsPlayer 65 = .ok (.isub, 1) := by decide +kernel
theorem dX7_readsPlayer_66 : decode cX7_readsPlayer 66 = .ok (.invokevirtual 257, 3) := by decide +kernel
theorem dX7_readsPlayer_69 : decode cX7_readsPlayer 69 = .ok (.ifCond .ne 5, 3) := by decide +kernel
theorem dX7_readsPlayer_72 : decode cX7_readsPlayer 72 = .ok (.iconst 0, 1) := by decide +kernel
theorem dX7_readsPlayer_73 : decode cX7_readsPlayer 73 = .ok (.ireturn, 1) := by decide +kernel
theorem dX7_readsPlayer_74 : decode cX7_readsPlayer 74 = .ok (.aload_n 0, 1) := by decide +kernel
theorem dX7_readsPlayer_75 : decode cX7_readsPlayer 75 = .ok (.getfield 251, 3) := by decide +kernel
theorem dX7_readsPlayer_78 : decode cX7_readsPlayer 78 = .ok (.istore_n 3, 1) := by decide +kernel
theorem dX7_readsPlayer_79 : decode cX7_readsPlayer 79 = .ok (.aload_n 0, 1) := by decide +kernel
theorem dX7_readsPlayer_80 : decode cX7_readsPlayer 80 = .ok (.iconst 1, 1) := by decide +kernel
theorem dX7_readsPlayer_81 : decode cX7_readsPlayer 81 = .ok (.bipush 99, 2) := by decide +kernel
theorem dX7_readsPlayer_83 : decode cX7_readsPlayer 83 = .ok (.invokevirtual 257, 3) := by decide +kernel
theorem dX7_readsPlayer_86 : decode cX7_readsPlayer 86 = .ok (.ifCond .ne 5, 3) := by decide +kernel
theorem dX7_readsPlayer_89 : decode cX7_readsPlayer 89 = .ok (.iconst 0, 1) := by decide +kernel
theorem dX7_readsPlayer_90 : decode cX7_readsPlayer 90 = .ok (.ireturn, 1) := by decide +kernel
theorem dX7_readsPlayer_91 : decode cX7_readsPlayer 91 = .ok (.aload_n 0, 1) := by decide +kernel
theorem dX7_readsPlayer_92 : decode cX7_readsPlayer 92 = .ok (.getfield 53, 3) := by decide +kernel
theorem dX7_readsPlayer_95 : decode cX7_readsPlayer 95 = .ok (.bipush 24, 2) := by decide +kernel
theorem dX7_readsPlayer_97 : decode cX7_readsPlayer 97 = .ok (.iconst 5, 1) := by decide +kernel
theorem dX7_readsPlayer_98 : decode cX7_readsPlayer 98 = .ok (.iload_n 1, 1) := by decide +kernel
theorem dX7_readsPlayer_99 : decode cX7_readsPlayer 99 = .ok (.imul, 1) := by decide +kernel
theorem dX7_readsPlayer_100 : decode cX7_readsPlayer 100 = .ok (.iadd, 1) := by decide +kernel
theorem dX7_readsPlayer_101 : decode cX7_readsPlayer 101 = .ok (.iload_n 2, 1) := by decide +kernel
theorem dX7_readsPlayer_102 : decode cX7_readsPlayer 102 = .ok (.iload_n 3, 1) := by decide +kernel
theorem dX7_readsPlayer_103 : decode cX7_readsPlayer 103 = .ok (.aload_n 0, 1) := by decide +kernel
theorem dX7_readsPlayer_104 : decode cX7_readsPlayer 104 = .ok (.getfield 251, 3) := by decide +kernel
theorem dX7_readsPlayer_107 : decode cX7_readsPlayer 107 = .ok (.iload_n 1, 1) := by decide +kernel
theorem dX7_readsPlayer_108 : decode cX7_readsPlayer 108 = .ok (.invokestatic 107, 3) := by decide +kernel
theorem dX7_readsPlayer_111 : decode cX7_readsPlayer 111 = .ok (.aload_n 0, 1) := by decide +kernel
theorem dX7_readsPlayer_112 : decode cX7_readsPlayer 112 = .ok (.getfield 53, 3) := by decide +kernel
theorem dX7_readsPlayer_115 : decode cX7_readsPlayer 115 = .ok (.bipush 56, 2) := by decide +kernel
theorem dX7_readsPlayer_117 : decode cX7_readsPlayer 117 = .ok (.dup2, 1) := by decide +kernel
theorem dX7_readsPlayer_118 : decode cX7_readsPlayer 118 = .ok (.iaload, 1) := by decide +kernel
theorem dX7_readsPlayer_119 : decode cX7_readsPlayer 119 = .ok (.iconst 1, 1) := by decide +kernel
theorem dX7_readsPlayer_120 : decode cX7_readsPlayer 120 = .ok (.iadd, 1) := by decide +kernel
theorem dX7_readsPlayer_121 : decode cX7_readsPlayer 121 = .ok (.iastore, 1) := by decide +kernel
theorem dX7_readsPlayer_122 : decode cX7_readsPlayer 122 = .ok (.iconst 1, 1) := by decide +kernel
theorem dX7_readsPlayer_123 : decode cX7_readsPlayer 123 = .ok (.ireturn, 1) := by decide +kernel
theorem dX7_readsOffset_0 : decode cX7_readsOffset 0 = .ok (.aload_n 0, 1) := by decide +kernel
theorem dX7_readsOffset_1 : decode cX7_readsOffset 1 = .ok (.invokevirtual 254, 3) := by decide +kernel
theorem dX7_readsOffset_4 : decode cX7_readsOffset 4 = .ok (.aload_n 0, 1) := by decide +kernel
theorem dX7_readsOffset_5 : decode cX7_readsOffset 5 = .ok (.iconst 0, 1) := by decide +kernel
theorem dX7_readsOffset_6 : decode cX7_readsOffset 6 = .ok (.aload_n 0, 1) := by decide +kernel
theorem dX7_readsOffset_7 : decode cX7_readsOffset 7 = .ok (.getfield 53, 3) := by decide +kernel
theorem dX7_readsOffset_10 : decode cX7_readsOffset 10 = .ok (.bipush 56, 2) := by decide +kernel
theorem dX7_readsOffset_12 : decode cX7_readsOffset 12 = .ok (.iaload, 1) := by decide +kernel
theorem dX7_readsOffset_13 : decode cX7_readsOffset 13 = .ok (.iconst 1, 1) := by decide +kernel
theorem dX7_readsOffset_14 : decode cX7_readsOffset 14 = .ok (.isub, 1) := by decide +kernel
theorem dX7_readsOffset_15 : decode cX7_readsOffset 15 = .ok (.invokevirtual 257, 3) := by decide +kernel
theorem dX7_readsOffset_18 : decode cX7_readsOffset 18 = .ok (.ifCond .ne 5, 3) := by decide +kernel
theorem dX7_readsOffset_21 : decode cX7_readsOffset 21 = .ok (.iconst 0, 1) := by decide +kernel
theorem dX7_readsOffset_22 : decode cX7_readsOffset 22 = .ok (.ireturn, 1) := by decide +kernel
theorem dX7_readsOffset_23 : decode cX7_readsOffset 23 = .ok (.aload_n 0, 1) := by decide +kernel
theorem dX7_readsOffset_24 : decode cX7_readsOffset 24 = .ok (.getfield 251, 3) := by decide +kernel
theorem dX7_readsOffset_27 : decode cX7_readsOffset 27 = .ok (.istore_n 1, 1) := by decide +kernel
theorem dX7_readsOffset_28 : decode cX7_readsOffset 28 = .ok (.aload_n 0, 1) := by decide +kernel
theorem dX7_readsOffset_29 : decode cX7_readsOffset 29 = .ok (.getfield 236, 3) := by decide +kernel
theorem dX7_readsOffset_32 : decode cX7_readsOffset 32 = .ok (.iconst 5, 1) := by decide +kernel
theorem dX7_readsOffset_33 : decode cX7_readsOffset 33 = .ok (.if_icmp .ne 7, 3) := by decide +kernel
theorem dX7_readsOffset_36 : decode cX7_readsOffset 36 = .ok (.iconst 1, 1) := by decide +kernel
theorem dX7_readsOffset_37 : decode cX7_readsOffset 37 = .ok (.goto 4, 3) := by decide +kernel
theorem dX7_readsOffset_40 : decode cX7_readsOffset 40 = .ok (.iconst 0, 1) := by decide +kernel
theorem dX7_readsOffset_41 : decode cX7_readsOffset 41 = .ok (.istore_n 2, 1) := by decide +kernel
theorem dX7_readsOffset_42 : decode cX7_readsOffset 42 = .ok (.iload_n 2, 1) := by decide +kernel
theorem dX7_readsOffset_43 : decode cX7_readsOffset 43 = .ok (.ifCond .eq 7, 3) := by decide +kernel
theorem dX7_readsOffset_46 : decode cX7_readsOffset 46 = .ok (.aload_n 0, 1) := by decide +kernel
theorem dX7_readsOffset_47 : decode cX7_readsOffset 47 = .ok (.invokevirtual 254, 3) := by decide +kernel
theorem dX7_readsOffset_50 : decode cX7_readsOffset 50 = .ok (.aload_n 0, 1) := by decide +kernel
theorem dX7_readsOffset_51 : decode cX7_readsOffset 51 = .ok (.iconst 0, 1) := by decide +kernel
theorem dX7_readsOffset_52 : decode cX7_readsOffset 52 = .ok (.sipush 500, 3) := by decide +kernel
theorem dX7_readsOffset_55 : decode cX7_readsOffset 55 = .ok (.invokevirtual 257, 3) := by decide +kernel
theorem dX7_readsOffset_58 : decode cX7_readsOffset 58 = .ok (.ifCond .ne 5, 3) := by decide +kernel
theorem dX7_readsOffset_61 : decode cX7_readsOffset 61 = .ok (.iconst 0, 1) := by decide +kernel
theorem dX7_readsOffset_62 : decode cX7_readsOffset 62 = .ok (.ireturn, 1) := by decide +kernel
theorem dX7_readsOffset_63 : decode cX7_readsOffset 63 = .ok (.aload_n 0, 1) := by decide +kernel
theorem dX7_readsOffset_64 : decode cX7_readsOffset 64 = .ok (.getfield 53, 3) := by decide +kernel
theorem dX7_readsOffset_67 : decode cX7_readsOffset 67 = .ok (.bipush 24, 2) := by decide +kernel
theorem dX7_readsOffset_69 : decode cX7_readsOffset 69 = .ok (.iconst 5, 1) := by decide +kernel
theorem dX7_readsOffset_70 : decode cX7_readsOffset 70 = .ok (.iload_n 1, 1) := by decide +kernel
theorem dX7_readsOffset_71 : decode cX7_readsOffset 71 = .ok (.imul, 1) := by decide +kernel
theorem dX7_readsOffset_72 : decode cX7_readsOffset 72 = .ok (.iadd, 1) := by decide +kernel
theorem dX7_readsOffset_73 : decode cX7_readsOffset 73 = .ok (.iconst 3, 1) := by decide +kernel
theorem dX7_readsOffset_74 : decode cX7_readsOffset 74 = .ok (.iadd, 1) := by decide +kernel
theorem dX7_readsOffset_75 : decode cX7_readsOffset 75 = .ok (.iload_n 2, 1) := by decide +kernel
theorem dX7_readsOffset_76 : decode cX7_readsOffset 76 = .ok (.ifCond .eq 11, 3) := by decide +kernel
theorem dX7_readsOffset_79 : decode cX7_readsOffset 79 = .ok (.aload_n 0, 1) := by decide +kernel
theorem dX7_readsOffset_80 : decode cX7_readsOffset 80 = .ok (.getfield 251, 3) := by decide +kernel
theorem dX7_readsOffset_83 : decode cX7_readsOffset 83 = .ok (.ineg, 1) := by decide +kernel
theorem dX7_readsOffset_84 : decode cX7_readsOffset 84 = .ok (.goto 7, 3) := by decide +kernel
theorem dX7_readsOffset_87 : decode cX7_readsOffset 87 = .ok (.aload_n 0, 1) := by decide +kernel
theorem dX7_readsOffset_88 : decode cX7_readsOffset 88 = .ok (.getfield 251, 3) := by decide +kernel
theorem dX7_readsOffset_91 : decode cX7_readsOffset 91 = .ok (.iastore, 1) := by decide +kernel
theorem dX7_readsOffset_92 : decode cX7_readsOffset 92 = .ok (.iconst 1, 1) := by decide +kernel
theorem dX7_readsOffset_93 : decode cX7_readsOffset 93 = .ok (.ireturn, 1) := by decide +kernel
theorem dX7_readsItem_0 : decode cX7_readsItem 0 = .ok (.aload_n 0, 1) := by decide +kernel
theorem dX7_readsItem_1 : decode cX7_readsItem 1 = .ok (.bipush 119, 2) := by decide +kernel
theorem dX7_readsItem_3 : decode cX7_readsItem 3 = .ok (.bipush 105, 2) := by decide +kernel
theorem dX7_readsItem_5 : decode cX7_readsItem 5 = .ok (.bipush 110, 2) := by decide +kernel
theorem dX7_readsItem_7 : decode cX7_readsItem 7 = .ok (.bipush 100, 2) := by decide +kernel
theorem dX7_readsItem_9 : decode cX7_readsItem 9 = .ok (.bipush 111, 2) := by decide +kernel
theorem dX7_readsItem_11 : decode cX7_readsItem 11 = .ok (.bipush 119, 2) := by decide +kernel
theorem dX7_readsItem_13 : decode cX7_readsItem 13 = .ok (.invokevirtual 266, 3) := by decide +kernel
theorem dX7_readsItem_16 : decode cX7_readsItem 16 = .ok (.ifCond .eq 12, 3) := by decide +kernel
theorem dX7_readsItem_19 : decode cX7_readsItem 19 = .ok (.aload_n 0, 1) := by decide +kernel
theorem dX7_readsItem_20 : decode cX7_readsItem 20 = .ok (.iconst 0, 1) := by decide +kernel
theorem dX7_readsItem_21 : decode cX7_readsItem 21 = .ok (.iconst 0, 1) := by decide +kernel
theorem dX7_readsItem_22 : decode cX7_readsItem 22 = .ok (.bipush 6, 2) := by decide +kernel
theorem dX7_readsItem_24 : decode cX7_readsItem 24 = .ok (.invokevirtual 270, 3) := by decide +kernel
theorem dX7_readsItem_27 : decode cX7_readsItem 27 = .ok (.ireturn, 1) := by decide +kernel
theorem dX7_readsItem_28 : decode cX7_readsItem 28 = .ok (.aload_n 0, 1) := by decide +kernel
theorem dX7_readsItem_29 : decode cX7_readsItem 29 = .ok (.bipush 101, 2) := by decide +kernel
theorem dX7_readsItem_31 : decode cX7_readsItem 31 = .ok (.bipush 97, 2) := by decide +kernel
theorem dX7_readsItem_33 : decode cX7_readsItem 33 = .ok (.bipush 114, 2) := by decide +kernel
theorem dX7_readsItem_35 : decode cX7_readsItem 35 = .ok (.iconst 0, 1) := by decide +kernel
theorem dX7_readsItem_36 : decode cX7_readsItem 36 = .ok (.iconst 0, 1) := by decide +kernel
theorem dX7_readsItem_37 : decode cX7_readsItem 37 = .ok (.iconst 0, 1) := by decide +kernel
theorem dX7_readsItem_38 : decode cX7_readsItem 38 = .ok (.invokevirtual 266, 3) := by decide +kernel
theorem dX7_readsItem_41 : decode cX7_readsItem 41 = .ok (.ifCond .eq 12, 3) := by decide +kernel
theorem dX7_readsItem_44 : decode cX7_readsItem 44 = .ok (.aload_n 0, 1) := by decide +kernel
theorem dX7_readsItem_45 : decode cX7_readsItem 45 = .ok (.iconst 1, 1) := by decide +kernel
theorem dX7_readsItem_46 : decode cX7_readsItem 46 = .ok (.bipush 12, 2) := by decide +kernel
theorem dX7_readsItem_48 : decode cX7_readsItem 48 = .ok (.iconst 3, 1) := by decide +kernel
theorem dX7_readsItem_49 : decode cX7_readsItem 49 = .ok (.invokevirtual 270, 3) := by decide +kernel
theorem dX7_readsItem_52 : decode cX7_readsItem 52 = .ok (.ireturn, 1) := by decide +kernel
theorem dX7_readsItem_53 : decode cX7_readsItem 53 = .ok (.aload_n 0, 1) := by decide +kernel
theorem dX7_readsItem_54 : decode cX7_readsItem 54 = .ok (.bipush 109, 2) := by decide +kernel
theorem dX7_readsItem_56 : decode cX7_readsItem 56 = .ok (.bipush 105, 2) := by decide +kernel
theorem dX7_readsItem_58 : decode cX7_readsItem 58 = .ok (.bipush 108, 2) := by decide +kernel
theorem dX7_readsItem_60 : decode cX7_readsItem 60 = .ok (.bipush 108, 2) := by decide +kernel
theorem dX7_readsItem_62 : decode cX7_readsItem 62 = .ok (.iconst 0, 1) := by decide +kernel
theorem dX7_readsItem_63 : decode cX7_readsItem 63 = .ok (.iconst 0, 1) := by decide +kernel
theorem dX7_readsItem_64 : decode cX7_readsItem 64 = .ok (.invokevirtual 266, 3) := by decide +kernel
theorem dX7_readsItem_67 : decode cX7_readsItem 67 = .ok (.ifCond .eq 10, 3) := by decide +kernel
theorem dX7_readsItem_70 : decode cX7_readsItem 70 = .ok (.aload_n 0, 1) := by decide +kernel
theorem dX7_readsItem_71 : decode cX7_readsItem 71 = .ok (.bipush 18, 2) := by decide +kernel
theorem dX7_readsItem_73 : decode cX7_readsItem 73 = .ok (.invokevirtual 260, 3) := by decide +kernel
theorem dX7_readsItem_76 : decode cX7_readsItem 76 = .ok (.ireturn, 1) := by decide +kernel
theorem dX7_readsItem_77 : decode cX7_readsItem 77 = .ok (.aload_n 0, 1) := by decide +kernel
theorem dX7_readsItem_78 : decode cX7_readsItem 78 = .ok (.bipush 112, 2) := by decide +kernel
theorem dX7_readsItem_80 : decode cX7_readsItem 80 = .ok (.bipush 108, 2) := by decide +kernel
theorem dX7_readsItem_82 : decode cX7_readsItem 82 = .ok (.bipush 97, 2) := by decide +kernel
theorem dX7_readsItem_84 : decode cX7_readsItem 84 = .ok (.bipush 121, 2) := by decide +kernel
theorem dX7_readsItem_86 : decode cX7_readsItem 86 = .ok (.bipush 101, 2) := by decide +kernel
theorem dX7_readsItem_88 : decode cX7_readsItem 88 = .ok (.bipush 114, 2) := by decide +kernel
theorem dX7_readsItem_90 : decode cX7_readsItem 90 = .ok (.invokevirtual 266, 3) := by decide +kernel
theorem dX7_readsItem_93 : decode cX7_readsItem 93 = .ok (.ifCond .eq 8, 3) := by decide +kernel
theorem dX7_readsItem_96 : decode cX7_readsItem 96 = .ok (.aload_n 0, 1) := by decide +kernel
theorem dX7_readsItem_97 : decode cX7_readsItem 97 = .ok (.invokevirtual 274, 3) := by decide +kernel
theorem dX7_readsItem_100 : decode cX7_readsItem 100 = .ok (.ireturn, 1) := by decide +kernel
theorem dX7_readsItem_101 : decode cX7_readsItem 101 = .ok (.aload_n 0, 1) := by decide +kernel
theorem dX7_readsItem_102 : decode cX7_readsItem 102 = .ok (.bipush 111, 2) := by decide +kernel
theorem dX7_readsItem_104 : decode cX7_readsItem 104 = .ok (.bipush 102, 2) := by decide +kernel
theorem dX7_readsItem_106 : decode cX7_readsItem 106 = .ok (.bipush 102, 2) := by decide +kernel
theorem dX7_readsItem_108 : decode cX7_readsItem 108 = .ok (.bipush 115, 2) := by decide +kernel
theorem dX7_readsItem_110 : decode cX7_readsItem 110 = .ok (.bipush 101, 2) := by decide +kernel
theorem dX7_readsItem_112 : decode cX7_readsItem 112 = .ok (.bipush 116, 2) := by decide +kernel
theorem dX7_readsItem_114 : decode cX7_readsItem 114 = .ok (.invokevirtual 266, 3) := by decide +kernel
theorem dX7_readsItem_117 : decode cX7_readsItem 117 = .ok (.ifCond .eq 8, 3) := by decide +kernel
theorem dX7_readsItem_120 : decode cX7_readsItem 120 = .ok (.aload_n 0, 1) := by decide +kernel
theorem dX7_readsItem_121 : decode cX7_readsItem 121 = .ok (.invokevirtual 278, 3) := by decide +kernel
theorem dX7_readsItem_124 : decode cX7_readsItem 124 = .ok (.ireturn, 1) := by decide +kernel
theorem dX7_readsItem_125 : decode cX7_readsItem 125 = .ok (.aload_n 0, 1) := by decide +kernel
theorem dX7_readsItem_126 : decode cX7_readsItem 126 = .ok (.bipush 115, 2) := by decide +kernel
theorem dX7_readsItem_128 : decode cX7_readsItem 128 = .ok (.bipush 108, 2) := by decide +kernel
theorem dX7_readsItem_130 : decode cX7_readsItem 130 = .ok (.bipush 111, 2) := by decide +kernel
theorem dX7_readsItem_132 : decode cX7_readsItem 132 = .ok (.bipush 119, 2) := by decide +kernel
theorem dX7_readsItem_134 : decode cX7_readsItem 134 = .ok (.iconst 0, 1) := by decide +kernel
theorem dX7_readsItem_135 : decode cX7_readsItem 135 = .ok (.iconst 0, 1) := by decide +kernel
theorem dX7_readsItem_136 : decode cX7_readsItem 136 = .ok (.invokevirtual 266, 3) := by decide +kernel
theorem dX7_readsItem_139 : decode cX7_readsItem 139 = .ok (.ifCond .ne 5, 3) := by decide +kernel
theorem dX7_readsItem_142 : decode cX7_readsItem 142 = .ok (.iconst 0, 1) := by decide +kernel
theorem dX7_readsItem_143 : decode cX7_readsItem 143 = .ok (.ireturn, 1) := by decide +kernel
theorem dX7_readsItem_144 : decode cX7_readsItem 144 = .ok (.aload_n 0, 1) := by decide +kernel
theorem dX7_readsItem_145 : decode cX7_readsItem 145 = .ok (.invokevirtual 254, 3) := by decide +kernel
theorem dX7_readsItem_148 : decode cX7_readsItem 148 = .ok (.aload_n 0, 1) := by decide +kernel
theorem dX7_readsItem_149 : decode cX7_readsItem 149 = .ok (.iconst 1, 1) := by decide +kernel
theorem dX7_readsItem_150 : decode cX7_readsItem 150 = .ok (.bipush 9, 2) := by decide +kernel
theorem dX7_readsItem_152 : decode cX7_readsItem 152 = .ok (.invokevirtual 257, 3) := by decide +kernel
theorem dX7_readsItem_155 : decode cX7_readsItem 155 = .ok (.istore_n 1, 1) := by decide +kernel
theorem dX7_readsItem_156 : decode cX7_readsItem 156 = .ok (.aload_n 0, 1) := by decide +kernel
theorem dX7_readsItem_157 : decode cX7_readsItem 157 = .ok (.getfield 53, 3) := by decide +kernel
theorem dX7_readsItem_160 : decode cX7_readsItem 160 = .ok (.bipush 20, 2) := by decide +kernel
theorem dX7_readsItem_162 : decode cX7_readsItem 162 = .ok (.aload_n 0, 1) := by decide +kernel
theorem dX7_readsItem_163 : decode cX7_readsItem 163 = .ok (.getfield 251, 3) := by decide +kernel
theorem dX7_readsItem_166 : decode cX7_readsItem 166 = .ok (.iastore, 1) := by decide +kernel
theorem dX7_readsItem_167 : decode cX7_readsItem 167 = .ok (.iload_n 1, 1) := by decide +kernel
theorem dX7_readsItem_168 : decode cX7_readsItem 168 = .ok (.ireturn, 1) := by decide +kernel
theorem dX7_read_0 : decode cX7_read 0 = .ok (.iconst 0, 1) := by decide +kernel
theorem dX7_read_1 : decode cX7_read 1 = .ok (.istore_n 1, 1) := by decide +kernel
theorem dX7_read_2 : decode cX7_read 2 = .ok (.iload_n 1, 1) := by decide +kernel
theorem dX7_read_3 : decode cX7_read 3 = .ok (.bipush 58, 2) := by decide +kernel
theorem dX7_read_5 : decode cX7_read 5 = .ok (.if_icmp .ge 16, 3) := by decide +kernel
theorem dX7_read_8 : decode cX7_read 8 = .ok (.aload_n 0, 1) := by decide +kernel
theorem dX7_read_9 : decode cX7_read 9 = .ok (.getfield 53, 3) := by decide +kernel
theorem dX7_read_12 : decode cX7_read 12 = .ok (.iload_n 1, 1) := by decide +kernel
theorem dX7_read_13 : decode cX7_read 13 = .ok (.iconst 0, 1) := by decide +kernel
theorem dX7_read_14 : decode cX7_read 14 = .ok (.iastore, 1) := by decide +kernel
theorem dX7_read_15 : decode cX7_read 15 = .ok (.iinc 1 1, 3) := by decide +kernel
theorem dX7_read_18 : decode cX7_read 18 = .ok (.goto (-16), 3) := by decide +kernel
theorem dX7_read_21 : decode cX7_read 21 = .ok (.aload_n 0, 1) := by decide +kernel
theorem dX7_read_22 : decode cX7_read 22 = .ok (.getfield 53, 3) := by decide +kernel
theorem dX7_read_25 : decode cX7_read 25 = .ok (.bipush 18, 2) := by decide +kernel
theorem dX7_read_27 : decode cX7_read 27 = .ok (.iconst (-1), 1) := by decide +kernel
theorem dX7_read_28 : decode cX7_read 28 = .ok (.iastore, 1) := by decide +kernel
theorem dX7_read_29 : decode cX7_read 29 = .ok (.aload_n 0, 1) := by decide +kernel
theorem dX7_read_30 : decode cX7_read 30 = .ok (.getfield 53, 3) := by decide +kernel
theorem dX7_read_33 : decode cX7_read 33 = .ok (.bipush 19, 2) := by decide +kernel
theorem dX7_read_35 : decode cX7_read 35 = .ok (.iconst (-1), 1) := by decide +kernel
theorem dX7_read_36 : decode cX7_read 36 = .ok (.iastore, 1) := by decide +kernel
theorem dX7_read_37 : decode cX7_read 37 = .ok (.aload_n 0, 1) := by decide +kernel
theorem dX7_read_38 : decode cX7_read 38 = .ok (.getfield 53, 3) := by decide +kernel
theorem dX7_read_41 : decode cX7_read 41 = .ok (.bipush 20, 2) := by decide +kernel
theorem dX7_read_43 : decode cX7_read 43 = .ok (.iconst 3, 1) := by decide +kernel
theorem dX7_read_44 : decode cX7_read 44 = .ok (.iastore, 1) := by decide +kernel
theorem dX7_read_45 : decode cX7_read 45 = .ok (.iconst 0, 1) := by decide +kernel
theorem dX7_read_46 : decode cX7_read 46 = .ok (.istore_n 1, 1) := by decide +kernel
theorem dX7_read_47 : decode cX7_read 47 = .ok (.aload_n 0, 1) := by decide +kernel
theorem dX7_read_48 : decode cX7_read 48 = .ok (.iconst 0, 1) := by decide +kernel
theorem dX7_read_49 : decode cX7_read 49 = .ok (.invokevirtual 248, 3) := by decide +kernel
theorem dX7_read_52 : decode cX7_read 52 = .ok (.aload_n 0, 1) := by decide +kernel
theorem dX7_read_53 : decode cX7_read 53 = .ok (.getfield 236, 3) := by decide +kernel
theorem dX7_read_56 : decode cX7_read 56 = .ok (.ifCond .eq 36, 3) := by decide +kernel
theorem dX7_read_59 : decode cX7_read 59 = .ok (.aload_n 0, 1) := by decide +kernel
theorem dX7_read_60 : decode cX7_read 60 = .ok (.invokevirtual 281, 3) := by decide +kernel
theorem dX7_read_63 : decode cX7_read 63 = .ok (.ifCond .eq 11, 3) := by decide +kernel
theorem dX7_read_66 : decode cX7_read 66 = .ok (.aload_n 0, 1) := by decide +kernel
theorem dX7_read_67 : decode cX7_read 67 = .ok (.getfield 236, 3) := by decide +kernel
theorem dX7_read_70 : decode cX7_read 70 = .ok (.iconst 3, 1) := by decide +kernel
theorem dX7_read_71 : decode cX7_read 71 = .ok (.if_icmp .eq 11, 3) := by decide +kernel
theorem dX7_read_74 : decode cX7_read 74 = .ok (.bipush (-10), 2) := by decide +kernel
theorem dX7_read_76 : decode cX7_read 76 = .ok (.aload_n 0, 1) := by decide +kernel
theorem dX7_read_77 : decode cX7_read 77 = .ok (.getfield 230, 3) := by decide +kernel
theorem dX7_read_80 : decode cX7_read 80 = .ok (.isub, 1) := by decide +kernel
theorem dX7_read_81 : decode cX7_read 81 = .ok (.ireturn, 1) := by decide +kernel
theorem dX7_read_82 : decode cX7_read 82 = .ok (.aload_n 0, 1) := by decide +kernel
theorem dX7_read_83 : decode cX7_read 83 = .ok (.invokevirtual 254, 3) := by decide +kernel
theorem dX7_read_86 : decode cX7_read 86 = .ok (.iinc 1 1, 3) := by decide +kernel
theorem dX7_read_89 : decode cX7_read 89 = .ok (.goto (-37), 3) := by decide +kernel
theorem dX7_read_92 : decode cX7_read 92 = .ok (.aload_n 0, 1) := by decide +kernel
theorem dX7_read_93 : decode cX7_read 93 = .ok (.getfield 53, 3) := by decide +kernel
theorem dX7_read_96 : decode cX7_read 96 = .ok (.bipush 21, 2) := by decide +kernel
theorem dX7_read_98 : decode cX7_read 98 = .ok (.aload_n 0, 1) := by decide +kernel
theorem dX7_read_99 : decode cX7_read 99 = .ok (.getfield 7, 3) := by decide +kernel
theorem dX7_read_102 : decode cX7_read 102 = .ok (.bipush 21, 2) := by decide +kernel
theorem dX7_read_104 : decode cX7_read 104 = .ok (.iaload, 1) := by decide +kernel
theorem dX7_read_105 : decode cX7_read 105 = .ok (.iastore, 1) := by decide +kernel
theorem dX7_read_106 : decode cX7_read 106 = .ok (.aload_n 0, 1) := by decide +kernel
theorem dX7_read_107 : decode cX7_read 107 = .ok (.getfield 53, 3) := by decide +kernel
theorem dX7_read_110 : decode cX7_read 110 = .ok (.bipush 22, 2) := by decide +kernel
theorem dX7_read_112 : decode cX7_read 112 = .ok (.aload_n 0, 1) := by decide +kernel
theorem dX7_read_113 : decode cX7_read 113 = .ok (.getfield 7, 3) := by decide +kernel
theorem dX7_read_116 : decode cX7_read 116 = .ok (.bipush 22, 2) := by decide +kernel
theorem dX7_read_118 : decode cX7_read 118 = .ok (.iaload, 1) := by decide +kernel
theorem dX7_read_119 : decode cX7_read 119 = .ok (.iastore, 1) := by decide +kernel
theorem dX7_read_120 : decode cX7_read 120 = .ok (.iconst 0, 1) := by decide +kernel
theorem dX7_read_121 : decode cX7_read 121 = .ok (.istore_n 2, 1) := by decide +kernel
theorem dX7_read_122 : decode cX7_read 122 = .ok (.iload_n 2, 1) := by decide +kernel
theorem dX7_read_123 : decode cX7_read 123 = .ok (.bipush 58, 2) := by decide +kernel
theorem dX7_read_125 : decode cX7_read 125 = .ok (.if_icmp .ge 21, 3) := by decide +kernel
theorem dX7_read_128 : decode cX7_read 128 = .ok (.aload_n 0, 1) := by decide +kernel
theorem dX7_read_129 : decode cX7_read 129 = .ok (.getfield 7, 3) := by decide +kernel
theorem dX7_read_132 : decode cX7_read 132 = .ok (.iload_n 2, 1) := by decide +kernel
theorem dX7_read_133 : decode cX7_read 133 = .ok (.aload_n 0, 1) := by decide +kernel
theorem dX7_read_134 : decode cX7_read 134 = .ok (.getfield 53, 3) := by decide +kernel
theorem dX7_read_137 : decode cX7_read 137 = .ok (.iload_n 2, 1) := by decide +kernel
theorem dX7_read_138 : decode cX7_read 138 = .ok (.iaload, 1) := by decide +kernel
theorem dX7_read_139 : decode cX7_read 139 = .ok (.iastore, 1) := by decide +kernel
theorem dX7_read_140 : decode cX7_read 140 = .ok (.iinc 2 1, 3) := by decide +kernel
theorem dX7_read_143 : decode cX7_read 143 = .ok (.goto (-21), 3) := by decide +kernel
theorem dX7_read_146 : decode cX7_read 146 = .ok (.iload_n 1, 1) := by decide +kernel
theorem dX7_read_147 : decode cX7_read 147 = .ok (.ireturn, 1) := by decide +kernel
theorem dX7_image_0 : decode cX7_image 0 = .ok (.iload_n 1, 1) := by decide +kernel
theorem dX7_image_1 : decode cX7_image 1 = .ok (.i2l, 1) := by decide +kernel
theorem dX7_image_2 : decode cX7_image 2 = .ok (.lconst 0, 1) := by decide +kernel
theorem dX7_image_3 : decode cX7_image 3 = .ok (.lconst 1, 1) := by decide +kernel
theorem dX7_image_4 : decode cX7_image 4 = .ok (.invokestatic 60, 3) := by decide +kernel
theorem dX7_image_7 : decode cX7_image 7 = .ok (.ifCond .ne 10, 3) := by decide +kernel
theorem dX7_image_10 : decode cX7_image 10 = .ok (.aload_n 0, 1) := by decide +kernel
theorem dX7_image_11 : decode cX7_image 11 = .ok (.bipush (-2), 2) := by decide +kernel
theorem dX7_image_13 : decode cX7_image 13 = .ok (.invokevirtual 76, 3) := by decide +kernel
theorem dX7_image_16 : decode cX7_image 16 = .ok (.ireturn, 1) := by decide +kernel
theorem dX7_image_17 : decode cX7_image 17 = .ok (.iconst 0, 1) := by decide +kernel
theorem dX7_image_18 : decode cX7_image 18 = .ok (.istore_n 2, 1) := by decide +kernel
theorem dX7_image_19 : decode cX7_image 19 = .ok (.iload_n 2, 1) := by decide +kernel
theorem dX7_image_20 : decode cX7_image 20 = .ok (.bipush 106, 2) := by decide +kernel
theorem dX7_image_22 : decode cX7_image 22 = .ok (.if_icmp .ge 26, 3) := by decide +kernel
theorem dX7_image_25 : decode cX7_image 25 = .ok (.aload_n 0, 1) := by decide +kernel
theorem dX7_image_26 : decode cX7_image 26 = .ok (.getfield 13, 3) := by decide +kernel
theorem dX7_image_29 : decode cX7_image 29 = .ok (.bipush 106, 2) := by decide +kernel
theorem dX7_image_31 : decode cX7_image 31 = .ok (.iload_n 1, 1) := by decide +kernel
theorem dX7_image_32 : decode cX7_image 32 = .ok (.imul, 1) := by decide +kernel
theorem dX7_image_33 : decode cX7_image 33 = .ok (.iload_n 2, 1) := by decide +kernel
theorem dX7_image_34 : decode cX7_image 34 = .ok (.iadd, 1) := by decide +kernel
theorem dX7_image_35 : decode cX7_image 35 = .ok (.aload_n 0, 1) := by decide +kernel
theorem dX7_image_36 : decode cX7_image 36 = .ok (.getfield 7, 3) := by decide +kernel
theorem dX7_image_39 : decode cX7_image 39 = .ok (.iload_n 2, 1) := by decide +kernel
theorem dX7_image_40 : decode cX7_image 40 = .ok (.iaload, 1) := by decide +kernel
theorem dX7_image_41 : decode cX7_image 41 = .ok (.iastore, 1) := by decide +kernel
theorem dX7_image_42 : decode cX7_image 42 = .ok (.iinc 2 1, 3) := by decide +kernel
theorem dX7_image_45 : decode cX7_image 45 = .ok (.goto (-26), 3) := by decide +kernel
theorem dX7_image_48 : decode cX7_image 48 = .ok (.aload_n 0, 1) := by decide +kernel
theorem dX7_image_49 : decode cX7_image 49 = .ok (.getfield 16, 3) := by decide +kernel
theorem dX7_image_52 : decode cX7_image 52 = .ok (.iload_n 1, 1) := by decide +kernel
theorem dX7_image_53 : decode cX7_image 53 = .ok (.iconst 1, 1) := by decide +kernel
theorem dX7_image_54 : decode cX7_image 54 = .ok (.bastore, 1) := by decide +kernel
theorem dX7_image_55 : decode cX7_image 55 = .ok (.iconst 1, 1) := by decide +kernel
theorem dX7_image_56 : decode cX7_image 56 = .ok (.ireturn, 1) := by decide +kernel
theorem dX7_from_0 : decode cX7_from 0 = .ok (.iload_n 1, 1) := by decide +kernel
theorem dX7_from_1 : decode cX7_from 1 = .ok (.i2l, 1) := by decide +kernel
theorem dX7_from_2 : decode cX7_from 2 = .ok (.lconst 0, 1) := by decide +kernel
theorem dX7_from_3 : decode cX7_from 3 = .ok (.lconst 1, 1) := by decide +kernel
theorem dX7_from_4 : decode cX7_from 4 = .ok (.invokestatic 60, 3) := by decide +kernel
theorem dX7_from_7 : decode cX7_from 7 = .ok (.ifCond .ne 10, 3) := by decide +kernel
theorem dX7_from_10 : decode cX7_from 10 = .ok (.aload_n 0, 1) := by decide +kernel
theorem dX7_from_11 : decode cX7_from 11 = .ok (.bipush (-2), 2) := by decide +kernel
theorem dX7_from_13 : decode cX7_from 13 = .ok (.invokevirtual 76, 3) := by decide +kernel
theorem dX7_from_16 : decode cX7_from 16 = .ok (.ireturn, 1) := by decide +kernel
theorem dX7_from_17 : decode cX7_from 17 = .ok (.aload_n 0, 1) := by decide +kernel
theorem dX7_from_18 : decode cX7_from 18 = .ok (.getfield 16, 3) := by decide +kernel
theorem dX7_from_21 : decode cX7_from 21 = .ok (.iload_n 1, 1) := by decide +kernel
theorem dX7_from_22 : decode cX7_from 22 = .ok (.baload, 1) := by decide +kernel
theorem dX7_from_23 : decode cX7_from 23 = .ok (.ifCond .ne 8, 3) := by decide +kernel
theorem dX7_from_26 : decode cX7_from 26 = .ok (.aload_n 0, 1) := by decide +kernel
theorem dX7_from_27 : decode cX7_from 27 = .ok (.invokevirtual 199, 3) := by decide +kernel
theorem dX7_from_30 : decode cX7_from 30 = .ok (.ireturn, 1) := by decide +kernel
theorem dX7_from_31 : decode cX7_from 31 = .ok (.iconst 0, 1) := by decide +kernel
theorem dX7_from_32 : decode cX7_from 32 = .ok (.istore_n 2, 1) := by decide +kernel
theorem dX7_from_33 : decode cX7_from 33 = .ok (.iload_n 2, 1) := by decide +kernel
theorem dX7_from_34 : decode cX7_from 34 = .ok (.bipush 106, 2) := by decide +kernel
theorem dX7_from_36 : decode cX7_from 36 = .ok (.if_icmp .ge 26, 3) := by decide +kernel
theorem dX7_from_39 : decode cX7_from 39 = .ok (.aload_n 0, 1) := by decide +kernel
theorem dX7_from_40 : decode cX7_from 40 = .ok (.getfield 7, 3) := by decide +kernel
theorem dX7_from_43 : decode cX7_from 43 = .ok (.iload_n 2, 1) := by decide +kernel
theorem dX7_from_44 : decode cX7_from 44 = .ok (.aload_n 0, 1) := by decide +kernel
theorem dX7_from_45 : decode cX7_from 45 = .ok (.getfield 13, 3) := by decide +kernel
theorem dX7_from_48 : decode cX7_from 48 = .ok (.bipush 106, 2) := by decide +kernel
theorem dX7_from_50 : decode cX7_from 50 = .ok (.iload_n 1, 1) := by decide +kernel
theorem dX7_from_51 : decode cX7_from 51 = .ok (.imul, 1) := by decide +kernel
theorem dX7_from_52 : decode cX7_from 52 = .ok (.iload_n 2, 1) := by decide +kernel
theorem dX7_from_53 : decode cX7_from 53 = .ok (.iadd, 1) := by decide +kernel
theorem dX7_from_54 : decode cX7_from 54 = .ok (.iaload, 1) := by decide +kernel
theorem dX7_from_55 : decode cX7_from 55 = .ok (.iastore, 1) := by decide +kernel
theorem dX7_from_56 : decode cX7_from 56 = .ok (.iinc 2 1, 3) := by decide +kernel
theorem dX7_from_59 : decode cX7_from 59 = .ok (.goto (-26), 3) := by decide +kernel
theorem dX7_from_62 : decode cX7_from 62 = .ok (.iconst 1, 1) := by decide +kernel
theorem dX7_from_63 : decode cX7_from 63 = .ok (.ireturn, 1) := by decide +kernel
theorem dX7_status_0 : decode cX7_status 0 = .ok (.iload_n 1, 1) := by decide +kernel
theorem dX7_status_1 : decode cX7_status 1 = .ok (.i2l, 1) := by decide +kernel
theorem dX7_status_2 : decode cX7_status 2 = .ok (.lconst 0, 1) := by decide +kernel
theorem dX7_status_3 : decode cX7_status 3 = .ok (.ldc2_w 87, 3) := by decide +kernel
theorem dX7_status_6 : decode cX7_status 6 = .ok (.invokestatic 60, 3) := by decide +kernel
theorem dX7_status_9 : decode cX7_status 9 = .ok (.ifCond .eq 12, 3) := by decide +kernel
theorem dX7_status_12 : decode cX7_status 12 = .ok (.aload_n 0, 1) := by decide +kernel
theorem dX7_status_13 : decode cX7_status 13 = .ok (.getfield 20, 3) := by decide +kernel
theorem dX7_status_16 : decode cX7_status 16 = .ok (.iload_n 1, 1) := by decide +kernel
theorem dX7_status_17 : decode cX7_status 17 = .ok (.iaload, 1) := by decide +kernel
theorem dX7_status_18 : decode cX7_status 18 = .ok (.goto 8, 3) := by decide +kernel
theorem dX7_status_21 : decode cX7_status 21 = .ok (.aload_n 0, 1) := by decide +kernel
theorem dX7_status_22 : decode cX7_status 22 = .ok (.iconst (-1), 1) := by decide +kernel
theorem dX7_status_23 : decode cX7_status 23 = .ok (.invokevirtual 76, 3) := by decide +kernel
theorem dX7_status_26 : decode cX7_status 26 = .ok (.ireturn, 1) := by decide +kernel
theorem dX7_counted_0 : decode cX7_counted 0 = .ok (.iload_n 1, 1) := by decide +kernel
theorem dX7_counted_1 : decode cX7_counted 1 = .ok (.iconst 4, 1) := by decide +kernel
theorem dX7_counted_2 : decode cX7_counted 2 = .ok (.if_icmp .ne 10, 3) := by decide +kernel
theorem dX7_counted_5 : decode cX7_counted 5 = .ok (.aload_n 0, 1) := by decide +kernel
theorem dX7_counted_6 : decode cX7_counted 6 = .ok (.getfield 217, 3) := by decide +kernel
theorem dX7_counted_9 : decode cX7_counted 9 = .ok (.goto 12, 3) := by decide +kernel
theorem dX7_counted_12 : decode cX7_counted 12 = .ok (.aload_n 0, 1) := by decide +kernel
theorem dX7_counted_13 : decode cX7_counted 13 = .ok (.getfield 7, 3) := by decide +kernel
theorem dX7_counted_16 : decode cX7_counted 16 = .ok (.bipush 54, 2) := by decide +kernel
theorem dX7_counted_18 : decode cX7_counted 18 = .ok (.iload_n 1, 1) := by decide +kernel
theorem dX7_counted_19 : decode cX7_counted 19 = .ok (.iadd, 1) := by decide +kernel
theorem dX7_counted_20 : decode cX7_counted 20 = .ok (.iaload, 1) := by decide +kernel
theorem dX7_counted_21 : decode cX7_counted 21 = .ok (.ireturn, 1) := by decide +kernel
theorem dX7_count_0 : decode cX7_count 0 = .ok (.iload_n 1, 1) := by decide +kernel
theorem dX7_count_1 : decode cX7_count 1 = .ok (.i2l, 1) := by decide +kernel
theorem dX7_count_2 : decode cX7_count 2 = .ok (.lconst 0, 1) := by decide +kernel
theorem dX7_count_3 : decode cX7_count 3 = .ok (.ldc2_w 284, 3) := by decide +kernel
theorem dX7_count_6 : decode cX7_count 6 = .ok (.invokestatic 60, 3) := by decide +kernel
theorem dX7_count_9 : decode cX7_count 9 = .ok (.ifCond .eq 11, 3) := by decide +kernel
theorem dX7_count_12 : decode cX7_count 12 = .ok (.aload_n 0, 1) := by decide +kernel
theorem dX7_count_13 : decode cX7_count 13 = .ok (.iload_n 1, 1) := by decide +kernel
theorem dX7_count_14 : decode cX7_count 14 = .ok (.invokevirtual 286, 3) := by decide +kernel
theorem dX7_count_17 : decode cX7_count 17 = .ok (.goto 9, 3) := by decide +kernel
theorem dX7_count_20 : decode cX7_count 20 = .ok (.aload_n 0, 1) := by decide +kernel
theorem dX7_count_21 : decode cX7_count 21 = .ok (.bipush (-2), 2) := by decide +kernel
theorem dX7_count_23 : decode cX7_count 23 = .ok (.invokevirtual 76, 3) := by decide +kernel
theorem dX7_count_26 : decode cX7_count 26 = .ok (.ireturn, 1) := by decide +kernel
theorem dX7_sums_0 : decode cX7_sums 0 = .ok (.lload_n 1, 1) := by decide +kernel
theorem dX7_sums_1 : decode cX7_sums 1 = .ok (.lstore 5, 2) := by decide +kernel
theorem dX7_sums_3 : decode cX7_sums 3 = .ok (.iconst 0, 1) := by decide +kernel
theorem dX7_sums_4 : decode cX7_sums 4 = .ok (.istore 7, 2) := by decide +kernel
theorem dX7_sums_6 : decode cX7_sums 6 = .ok (.iload 7, 2) := by decide +kernel
theorem dX7_sums_8 : decode cX7_sums 8 = .ok (.iload 4, 2) := by decide +kernel
theorem dX7_sums_10 : decode cX7_sums 10 = .ok (.if_icmp .ge 28, 3) := by decide +kernel
theorem dX7_sums_13 : decode cX7_sums 13 = .ok (.ldc2_w 289, 3) := by decide +kernel
theorem dX7_sums_16 : decode cX7_sums 16 = .ok (.lload 5, 2) := by decide +kernel
theorem dX7_sums_18 : decode cX7_sums 18 = .ok (.lmul, 1) := by decide +kernel
theorem dX7_sums_19 : decode cX7_sums 19 = .ok (.aload_n 0, 1) := by decide +kernel
theorem dX7_sums_20 : decode cX7_sums 20 = .ok (.getfield 7, 3) := by decide +kernel
theorem dX7_sums_23 : decode cX7_sums 23 = .ok (.iload_n 3, 1) := by decide +kernel
theorem dX7_sums_24 : decode cX7_sums 24 = .ok (.iload 7, 2) := by decide +kernel
theorem dX7_sums_26 : decode cX7_sums 26 = .ok (.iadd, 1) := by decide +kernel
theorem dX7_sums_27 : decode cX7_sums 27 = .ok (.iaload, 1) := by decide +kernel
theorem dX7_sums_28 : decode cX7_sums 28 = .ok (.i2l, 1) := by decide +kernel
theorem dX7_sums_29 : decode cX7_sums 29 = .ok (.ladd, 1) := by decide +kernel
theorem dX7_sums_30 : decode cX7_sums 30 = .ok (.lstore 5, 2) := by decide +kernel
theorem dX7_sums_32 : decode cX7_sums 32 = .ok (.iinc 7 1, 3) := by decide +kernel
theorem dX7_sums_35 : decode cX7_sums 35 = .ok (.goto (-29), 3) := by decide +kernel
theorem dX7_sums_38 : decode cX7_sums 38 = .ok (.lload 5, 2) := by decide +kernel
theorem dX7_sums_40 : decode cX7_sums 40 = .ok (.lreturn, 1) := by decide +kernel
theorem dX7_digest_0 : decode cX7_digest 0 = .ok (.ldc2_w 291, 3) := by decide +kernel
theorem dX7_digest_3 : decode cX7_digest 3 = .ok (.lstore_n 1, 1) := by decide +kernel
theorem dX7_digest_4 : decode cX7_digest 4 = .ok (.iconst 0, 1) := by decide +kernel
theorem dX7_digest_5 : decode cX7_digest 5 = .ok (.istore_n 3, 1) := by decide +kernel
theorem dX7_digest_6 : decode cX7_digest 6 = .ok (.iload_n 3, 1) := by decide +kernel
theorem dX7_digest_7 : decode cX7_digest 7 = .ok (.iconst 5, 1) := by decide +kernel
theorem dX7_digest_8 : decode cX7_digest 8 = .ok (.if_icmp .ge 22, 3) := by decide +kernel
theorem dX7_digest_11 : decode cX7_digest 11 = .ok (.ldc2_w 289, 3) := by decide +kernel
theorem dX7_digest_14 : decode cX7_digest 14 = .ok (.lload_n 1, 1) := by decide +kernel
theorem dX7_digest_15 : decode cX7_digest 15 = .ok (.lmul, 1) := by decide +kernel
theorem dX7_digest_16 : decode cX7_digest 16 = .ok (.aload_n 0, 1) := by decide +kernel
theorem dX7_digest_17 : decode cX7_digest 17 = .ok (.iload_n 3, 1) := by decide +kernel
theorem dX7_digest_18 : decode cX7_digest 18 = .ok (.invokevirtual 286, 3) := by decide +kernel
theorem dX7_digest_21 : decode cX7_digest 21 = .ok (.i2l, 1) := by decide +kernel
theorem dX7_digest_22 : decode cX7_digest 22 = .ok (.ladd, 1) := by decide +kernel
theorem dX7_digest_23 : decode cX7_digest 23 = .ok (.lstore_n 1, 1) := by decide +kernel
theorem dX7_digest_24 : decode cX7_digest 24 = .ok (.iinc 3 1, 3) := by decide +kernel
theorem dX7_digest_27 : decode cX7_digest 27 = .ok (.goto (-21), 3) := by decide +kernel
theorem dX7_digest_30 : decode cX7_digest 30 = .ok (.aload_n 0, 1) := by decide +kernel
theorem dX7_digest_31 : decode cX7_digest 31 = .ok (.lload_n 1, 1) := by decide +kernel
theorem dX7_digest_32 : decode cX7_digest 32 = .ok (.iconst 0, 1) := by decide +kernel
theorem dX7_digest_33 : decode cX7_digest 33 = .ok (.iconst 2, 1) := by decide +kernel
theorem dX7_digest_34 : decode cX7_digest 34 = .ok (.aload_n 0, 1) := by decide +kernel
theorem dX7_digest_35 : decode cX7_digest 35 = .ok (.invokevirtual 56, 3) := by decide +kernel
theorem dX7_digest_38 : decode cX7_digest 38 = .ok (.imul, 1) := by decide +kernel
theorem dX7_digest_39 : decode cX7_digest 39 = .ok (.invokevirtual 293, 3) := by decide +kernel
theorem dX7_digest_42 : decode cX7_digest 42 = .ok (.lstore_n 1, 1) := by decide +kernel
theorem dX7_digest_43 : decode cX7_digest 43 = .ok (.aload_n 0, 1) := by decide +kernel
theorem dX7_digest_44 : decode cX7_digest 44 = .ok (.lload_n 1, 1) := by decide +kernel
theorem dX7_digest_45 : decode cX7_digest 45 = .ok (.bipush 12, 2) := by decide +kernel
theorem dX7_digest_47 : decode cX7_digest 47 = .ok (.iconst 2, 1) := by decide +kernel
theorem dX7_digest_48 : decode cX7_digest 48 = .ok (.aload_n 0, 1) := by decide +kernel
theorem dX7_digest_49 : decode cX7_digest 49 = .ok (.invokevirtual 64, 3) := by decide +kernel
theorem dX7_digest_52 : decode cX7_digest 52 = .ok (.imul, 1) := by decide +kernel
theorem dX7_digest_53 : decode cX7_digest 53 = .ok (.invokevirtual 293, 3) := by decide +kernel
theorem dX7_digest_56 : decode cX7_digest 56 = .ok (.lstore_n 1, 1) := by decide +kernel
theorem dX7_digest_57 : decode cX7_digest 57 = .ok (.aload_n 0, 1) := by decide +kernel
theorem dX7_digest_58 : decode cX7_digest 58 = .ok (.lload_n 1, 1) := by decide +kernel
theorem dX7_digest_59 : decode cX7_digest 59 = .ok (.bipush 18, 2) := by decide +kernel
theorem dX7_digest_61 : decode cX7_digest 61 = .ok (.bipush 6, 2) := by decide +kernel
theorem dX7_digest_63 : decode cX7_digest 63 = .ok (.invokevirtual 293, 3) := by decide +kernel
theorem dX7_digest_66 : decode cX7_digest 66 = .ok (.lstore_n 1, 1) := by decide +kernel
theorem dX7_digest_67 : decode cX7_digest 67 = .ok (.aload_n 0, 1) := by decide +kernel
theorem dX7_digest_68 : decode cX7_digest 68 = .ok (.lload_n 1, 1) := by decide +kernel
theorem dX7_digest_69 : decode cX7_digest 69 = .ok (.bipush 24, 2) := by decide +kernel
theorem dX7_digest_71 : decode cX7_digest 71 = .ok (.iconst 5, 1) := by decide +kernel
theorem dX7_digest_72 : decode cX7_digest 72 = .ok (.aload_n 0, 1) := by decide +kernel
theorem dX7_digest_73 : decode cX7_digest 73 = .ok (.invokevirtual 67, 3) := by decide +kernel
theorem dX7_digest_76 : decode cX7_digest 76 = .ok (.imul, 1) := by decide +kernel
theorem dX7_digest_77 : decode cX7_digest 77 = .ok (.invokevirtual 293, 3) := by decide +kernel
theorem dX7_digest_80 : decode cX7_digest 80 = .ok (.lreturn, 1) := by decide +kernel
theorem dJ6_bitCount_0f7a4_0 : decode cJ6_bitCount_0f7a4 0 = .ok (.iload_n 0, 1) := by decide +kernel
theorem dJ6_bitCount_0f7a4_1 : decode cJ6_bitCount_0f7a4 1 = .ok (.iload_n 0, 1) := by decide +kernel
theorem dJ6_bitCount_0f7a4_2 : decode cJ6_bitCount_0f7a4 2 = .ok (.iconst 1, 1) := by decide +kernel
theorem dJ6_bitCount_0f7a4_3 : decode cJ6_bitCount_0f7a4 3 = .ok (.iushr, 1) := by decide +kernel
theorem dJ6_bitCount_0f7a4_4 : decode cJ6_bitCount_0f7a4 4 = .ok (.ldc_w 265, 3) := by decide +kernel
theorem dJ6_bitCount_0f7a4_7 : decode cJ6_bitCount_0f7a4 7 = .ok (.iand, 1) := by decide +kernel
theorem dJ6_bitCount_0f7a4_8 : decode cJ6_bitCount_0f7a4 8 = .ok (.isub, 1) := by decide +kernel
theorem dJ6_bitCount_0f7a4_9 : decode cJ6_bitCount_0f7a4 9 = .ok (.istore_n 0, 1) := by decide +kernel
theorem dJ6_bitCount_0f7a4_10 : decode cJ6_bitCount_0f7a4 10 = .ok (.iload_n 0, 1) := by decide +kernel
theorem dJ6_bitCount_0f7a4_11 : decode cJ6_bitCount_0f7a4 11 = .ok (.ldc_w 266, 3) := by decide +kernel
theorem dJ6_bitCount_0f7a4_14 : decode cJ6_bitCount_0f7a4 14 = .ok (.iand, 1) := by decide +kernel
theorem dJ6_bitCount_0f7a4_15 : decode cJ6_bitCount_0f7a4 15 = .ok (.iload_n 0, 1) := by decide +kernel
theorem dJ6_bitCount_0f7a4_16 : decode cJ6_bitCount_0f7a4 16 = .ok (.iconst 2, 1) := by decide +kernel
theorem dJ6_bitCount_0f7a4_17 : decode cJ6_bitCount_0f7a4 17 = .ok (.iushr, 1) := by decide +kernel
theorem dJ6_bitCount_0f7a4_18 : decode cJ6_bitCount_0f7a4 18 = .ok (.ldc_w 266, 3) := by decide +kernel
theorem dJ6_bitCount_0f7a4_21 : decode cJ6_bitCount_0f7a4 21 = .ok (.iand, 1) := by decide +kernel
theorem dJ6_bitCount_0f7a4_22 : decode cJ6_bitCount_0f7a4 22 = .ok (.iadd, 1) := by decide +kernel
theorem dJ6_bitCount_0f7a4_23 : decode cJ6_bitCount_0f7a4 23 = .ok (.istore_n 0, 1) := by decide +kernel
theorem dJ6_bitCount_0f7a4_24 : decode cJ6_bitCount_0f7a4 24 = .ok (.iload_n 0, 1) := by decide +kernel
theorem dJ6_bitCount_0f7a4_25 : decode cJ6_bitCount_0f7a4 25 = .ok (.iload_n 0, 1) := by decide +kernel
theorem dJ6_bitCount_0f7a4_26 : decode cJ6_bitCount_0f7a4 26 = .ok (.iconst 4, 1) := by decide +kernel
theorem dJ6_bitCount_0f7a4_27 : decode cJ6_bitCount_0f7a4 27 = .ok (.iushr, 1) := by decide +kernel
theorem dJ6_bitCount_0f7a4_28 : decode cJ6_bitCount_0f7a4 28 = .ok (.iadd, 1) := by decide +kernel
theorem dJ6_bitCount_0f7a4_29 : decode cJ6_bitCount_0f7a4 29 = .ok (.ldc_w 267, 3) := by decide +kernel
theorem dJ6_bitCount_0f7a4_32 : decode cJ6_bitCount_0f7a4 32 = .ok (.iand, 1) := by decide +kernel
theorem dJ6_bitCount_0f7a4_33 : decode cJ6_bitCount_0f7a4 33 = .ok (.istore_n 0, 1) := by decide +kernel
theorem dJ6_bitCount_0f7a4_34 : decode cJ6_bitCount_0f7a4 34 = .ok (.iload_n 0, 1) := by decide +kernel
theorem dJ6_bitCount_0f7a4_35 : decode cJ6_bitCount_0f7a4 35 = .ok (.iload_n 0, 1) := by decide +kernel
theorem dJ6_bitCount_0f7a4_36 : decode cJ6_bitCount_0f7a4 36 = .ok (.bipush 8, 2) := by decide +kernel
theorem dJ6_bitCount_0f7a4_38 : decode cJ6_bitCount_0f7a4 38 = .ok (.iushr, 1) := by decide +kernel
theorem dJ6_bitCount_0f7a4_39 : decode cJ6_bitCount_0f7a4 39 = .ok (.iadd, 1) := by decide +kernel
theorem dJ6_bitCount_0f7a4_40 : decode cJ6_bitCount_0f7a4 40 = .ok (.istore_n 0, 1) := by decide +kernel
theorem dJ6_bitCount_0f7a4_41 : decode cJ6_bitCount_0f7a4 41 = .ok (.iload_n 0, 1) := by decide +kernel
theorem dJ6_bitCount_0f7a4_42 : decode cJ6_bitCount_0f7a4 42 = .ok (.iload_n 0, 1) := by decide +kernel
theorem dJ6_bitCount_0f7a4_43 : decode cJ6_bitCount_0f7a4 43 = .ok (.bipush 16, 2) := by decide +kernel
theorem dJ6_bitCount_0f7a4_45 : decode cJ6_bitCount_0f7a4 45 = .ok (.iushr, 1) := by decide +kernel
theorem dJ6_bitCount_0f7a4_46 : decode cJ6_bitCount_0f7a4 46 = .ok (.iadd, 1) := by decide +kernel
theorem dJ6_bitCount_0f7a4_47 : decode cJ6_bitCount_0f7a4 47 = .ok (.istore_n 0, 1) := by decide +kernel
theorem dJ6_bitCount_0f7a4_48 : decode cJ6_bitCount_0f7a4 48 = .ok (.iload_n 0, 1) := by decide +kernel
theorem dJ6_bitCount_0f7a4_49 : decode cJ6_bitCount_0f7a4 49 = .ok (.bipush 63, 2) := by decide +kernel
theorem dJ6_bitCount_0f7a4_51 : decode cJ6_bitCount_0f7a4 51 = .ok (.iand, 1) := by decide +kernel
theorem dJ6_bitCount_0f7a4_52 : decode cJ6_bitCount_0f7a4 52 = .ok (.ireturn, 1) := by decide +kernel
theorem dJ9_floorDiv_7cf53_0 : decode cJ9_floorDiv_7cf53 0 = .ok (.iload_n 0, 1) := by decide +kernel
theorem dJ9_floorDiv_7cf53_1 : decode cJ9_floorDiv_7cf53 1 = .ok (.iload_n 1, 1) := by decide +kernel
theorem dJ9_floorDiv_7cf53_2 : decode cJ9_floorDiv_7cf53 2 = .ok (.idiv, 1) := by decide +kernel
theorem dJ9_floorDiv_7cf53_3 : decode cJ9_floorDiv_7cf53 3 = .ok (.istore_n 2, 1) := by decide +kernel
theorem dJ9_floorDiv_7cf53_4 : decode cJ9_floorDiv_7cf53 4 = .ok (.iload_n 0, 1) := by decide +kernel
theorem dJ9_floorDiv_7cf53_5 : decode cJ9_floorDiv_7cf53 5 = .ok (.iload_n 1, 1) := by decide +kernel
theorem dJ9_floorDiv_7cf53_6 : decode cJ9_floorDiv_7cf53 6 = .ok (.ixor, 1) := by decide +kernel
theorem dJ9_floorDiv_7cf53_7 : decode cJ9_floorDiv_7cf53 7 = .ok (.ifCond .ge 14, 3) := by decide +kernel
theorem dJ9_floorDiv_7cf53_10 : decode cJ9_floorDiv_7cf53 10 = .ok (.iload_n 2, 1) := by decide +kernel
theorem dJ9_floorDiv_7cf53_11 : decode cJ9_floorDiv_7cf53 11 = .ok (.iload_n 1, 1) := by decide +kernel
theorem dJ9_floorDiv_7cf53_12 : decode cJ9_floorDiv_7cf53 12 = .ok (.imul, 1) := by decide +kernel
theorem dJ9_floorDiv_7cf53_13 : decode cJ9_floorDiv_7cf53 13 = .ok (.iload_n 0, 1) := by decide +kernel
theorem dJ9_floorDiv_7cf53_14 : decode cJ9_floorDiv_7cf53 14 = .ok (.if_icmp .eq 7, 3) := by decide +kernel
theorem dJ9_floorDiv_7cf53_17 : decode cJ9_floorDiv_7cf53 17 = .ok (.iload_n 2, 1) := by decide +kernel
theorem dJ9_floorDiv_7cf53_18 : decode cJ9_floorDiv_7cf53 18 = .ok (.iconst 1, 1) := by decide +kernel
theorem dJ9_floorDiv_7cf53_19 : decode cJ9_floorDiv_7cf53 19 = .ok (.isub, 1) := by decide +kernel
theorem dJ9_floorDiv_7cf53_20 : decode cJ9_floorDiv_7cf53 20 = .ok (.ireturn, 1) := by decide +kernel
theorem dJ9_floorDiv_7cf53_21 : decode cJ9_floorDiv_7cf53 21 = .ok (.iload_n 2, 1) := by decide +kernel
theorem dJ9_floorDiv_7cf53_22 : decode cJ9_floorDiv_7cf53 22 = .ok (.ireturn, 1) := by decide +kernel
theorem dJ9_abs_0f7a4_0 : decode cJ9_abs_0f7a4 0 = .ok (.iload_n 0, 1) := by decide +kernel
theorem dJ9_abs_0f7a4_1 : decode cJ9_abs_0f7a4 1 = .ok (.ifCond .ge 8, 3) := by decide +kernel
theorem dJ9_abs_0f7a4_4 : decode cJ9_abs_0f7a4 4 = .ok (.iload_n 0, 1) := by decide +kernel
theorem dJ9_abs_0f7a4_5 : decode cJ9_abs_0f7a4 5 = .ok (.ineg, 1) := by decide +kernel
theorem dJ9_abs_0f7a4_6 : decode cJ9_abs_0f7a4 6 = .ok (.goto 4, 3) := by decide +kernel
theorem dJ9_abs_0f7a4_9 : decode cJ9_abs_0f7a4 9 = .ok (.iload_n 0, 1) := by decide +kernel
theorem dJ9_abs_0f7a4_10 : decode cJ9_abs_0f7a4 10 = .ok (.ireturn, 1) := by decide +kernel
theorem dJ9_max_7cf53_0 : decode cJ9_max_7cf53 0 = .ok (.iload_n 0, 1) := by decide +kernel
theorem dJ9_max_7cf53_1 : decode cJ9_max_7cf53 1 = .ok (.iload_n 1, 1) := by decide +kernel
theorem dJ9_max_7cf53_2 : decode cJ9_max_7cf53 2 = .ok (.if_icmp .lt 7, 3) := by decide +kernel
theorem dJ9_max_7cf53_5 : decode cJ9_max_7cf53 5 = .ok (.iload_n 0, 1) := by decide +kernel
theorem dJ9_max_7cf53_6 : decode cJ9_max_7cf53 6 = .ok (.goto 4, 3) := by decide +kernel
theorem dJ9_max_7cf53_9 : decode cJ9_max_7cf53 9 = .ok (.iload_n 1, 1) := by decide +kernel
theorem dJ9_max_7cf53_10 : decode cJ9_max_7cf53 10 = .ok (.ireturn, 1) := by decide +kernel
theorem dJ9_min_7cf53_0 : decode cJ9_min_7cf53 0 = .ok (.iload_n 0, 1) := by decide +kernel
theorem dJ9_min_7cf53_1 : decode cJ9_min_7cf53 1 = .ok (.iload_n 1, 1) := by decide +kernel
theorem dJ9_min_7cf53_2 : decode cJ9_min_7cf53 2 = .ok (.if_icmp .gt 7, 3) := by decide +kernel
theorem dJ9_min_7cf53_5 : decode cJ9_min_7cf53 5 = .ok (.iload_n 0, 1) := by decide +kernel
theorem dJ9_min_7cf53_6 : decode cJ9_min_7cf53 6 = .ok (.goto 4, 3) := by decide +kernel
theorem dJ9_min_7cf53_9 : decode cJ9_min_7cf53 9 = .ok (.iload_n 1, 1) := by decide +kernel
theorem dJ9_min_7cf53_10 : decode cJ9_min_7cf53 10 = .ok (.ireturn, 1) := by decide +kernel
theorem dJ0_length_8abf5_0 : decode cJ0_length_8abf5 0 = .ok (.aload_n 0, 1) := by decide +kernel
theorem dJ0_length_8abf5_1 : decode cJ0_length_8abf5 1 = .ok (.getfield 9, 3) := by decide +kernel
theorem dJ0_length_8abf5_4 : decode cJ0_length_8abf5 4 = .ok (.arraylength, 1) := by decide +kernel
theorem dJ0_length_8abf5_5 : decode cJ0_length_8abf5 5 = .ok (.aload_n 0, 1) := by decide +kernel
theorem dJ0_length_8abf5_6 : decode cJ0_length_8abf5 6 = .ok (.invokevirtual 335, 3) := by decide +kernel
theorem dJ0_length_8abf5_9 : decode cJ0_length_8abf5 9 = .ok (.ishr, 1) := by decide +kernel
theorem dJ0_length_8abf5_10 : decode cJ0_length_8abf5 10 = .ok (.ireturn, 1) := by decide +kernel
theorem dJ0_charAt_5068e_0 : decode cJ0_charAt_5068e 0 = .ok (.aload_n 0, 1) := by decide +kernel
theorem dJ0_charAt_5068e_1 : decode cJ0_charAt_5068e 1 = .ok (.invokevirtual 492, 3) := by decide +kernel
theorem dJ0_charAt_5068e_4 : decode cJ0_charAt_5068e 4 = .ok (.ifCond .eq 12, 3) := by decide +kernel
theorem dJ0_charAt_5068e_7 : decode cJ0_charAt_5068e 7 = .ok (.aload_n 0, 1) := by decide +kernel
theorem dJ0_charAt_5068e_8 : decode cJ0_charAt_5068e 8 = .ok (.getfield 9, 3) := by decide +kernel
theorem dJ0_charAt_5068e_11 : decode cJ0_charAt_5068e 11 = .ok (.iload_n 1, 1) := by decide +kernel
theorem dJ0_charAt_5068e_12 : decode cJ0_charAt_5068e 12 = .ok (.invokestatic 495, 3) := by decide +kernel
theorem dJ0_charAt_5068e_15 : decode cJ0_charAt_5068e 15 = .ok (.ireturn, 1) := by decide +kernel
theorem dJ0_charAt_5068e_16 : decode cJ0_charAt_5068e 16 = .ok (.aload_n 0, 1) := by decide +kernel
theorem dJ0_charAt_5068e_17 : decode cJ0_charAt_5068e 17 = .ok (.getfield 9, 3) := by decide +kernel
theorem dJ0_charAt_5068e_20 : decode cJ0_charAt_5068e 20 = .ok (.iload_n 1, 1) := by decide +kernel
theorem dJ0_charAt_5068e_21 : decode cJ0_charAt_5068e 21 = .ok (.invokestatic 498, 3) := by decide +kernel
theorem dJ0_charAt_5068e_24 : decode cJ0_charAt_5068e 24 = .ok (.ireturn, 1) := by decide +kernel
theorem dJ0_coder_7d493_0 : decode cJ0_coder_7d493 0 = .ok (.getstatic 38, 3) := by decide +kernel
theorem dJ0_coder_7d493_3 : decode cJ0_coder_7d493 3 = .ok (.ifCond .eq 10, 3) := by decide +kernel
theorem dJ0_coder_7d493_6 : decode cJ0_coder_7d493 6 = .ok (.aload_n 0, 1) := by decide +kernel
theorem dJ0_coder_7d493_7 : decode cJ0_coder_7d493 7 = .ok (.getfield 15, 3) := by decide +kernel
theorem dJ0_coder_7d493_10 : decode cJ0_coder_7d493 10 = .ok (.goto 4, 3) := by decide +kernel
theorem dJ0_coder_7d493_13 : decode cJ0_coder_7d493 13 = .ok (.iconst 1, 1) := by decide +kernel
theorem dJ0_coder_7d493_14 : decode cJ0_coder_7d493 14 = .ok (.ireturn, 1) := by decide +kernel
theorem dJ0_isLatin1_aae02_0 : decode cJ0_isLatin1_aae02 0 = .ok (.getstatic 38, 3) := by decide +kernel
theorem dJ0_isLatin1_aae02_3 : decode cJ0_isLatin1_aae02 3 = .ok (.ifCond .eq 14, 3) := by decide +kernel
theorem dJ0_isLatin1_aae02_6 : decode cJ0_isLatin1_aae02 6 = .ok (.aload_n 0, 1) := by decide +kernel
theorem dJ0_isLatin1_aae02_7 : decode cJ0_isLatin1_aae02 7 = .ok (.getfield 15, 3) := by decide +kernel
theorem dJ0_isLatin1_aae02_10 : decode cJ0_isLatin1_aae02 10 = .ok (.ifCond .ne 7, 3) := by decide +kernel
theorem dJ0_isLatin1_aae02_13 : decode cJ0_isLatin1_aae02 13 = .ok (.iconst 1, 1) := by decide +kernel
theorem dJ0_isLatin1_aae02_14 : decode cJ0_isLatin1_aae02 14 = .ok (.goto 4, 3) := by decide +kernel
theorem dJ0_isLatin1_aae02_17 : decode cJ0_isLatin1_aae02 17 = .ok (.iconst 0, 1) := by decide +kernel
theorem dJ0_isLatin1_aae02_18 : decode cJ0_isLatin1_aae02 18 = .ok (.ireturn, 1) := by decide +kernel
theorem dJ0_checkIndex_df160_0 : decode cJ0_checkIndex_df160 0 = .ok (.iload_n 0, 1) := by decide +kernel
theorem dJ0_checkIndex_df160_1 : decode cJ0_checkIndex_df160 1 = .ok (.iload_n 1, 1) := by decide +kernel
theorem dJ0_checkIndex_df160_2 : decode cJ0_checkIndex_df160 2 = .ok (.getstatic 1053, 3) := by decide +kernel
theorem dJ0_checkIndex_df160_5 : decode cJ0_checkIndex_df160 5 = .ok (.invokestatic 1059, 3) := by decide +kernel
theorem dJ0_checkIndex_df160_8 : decode cJ0_checkIndex_df160 8 = .ok (.pop, 1) := by decide +kernel
theorem dJ0_checkIndex_df160_9 : decode cJ0_checkIndex_df160 9 = .ok (.return_, 1) := by decide +kernel
theorem dJ1_charAt_3b067_0 : decode cJ1_charAt_3b067 0 = .ok (.iload_n 1, 1) := by decide +kernel
theorem dJ1_charAt_3b067_1 : decode cJ1_charAt_3b067 1 = .ok (.aload_n 0, 1) := by decide +kernel
theorem dJ1_charAt_3b067_2 : decode cJ1_charAt_3b067 2 = .ok (.arraylength, 1) := by decide +kernel
theorem dJ1_charAt_3b067_3 : decode cJ1_charAt_3b067 3 = .ok (.invokestatic 9, 3) := by decide +kernel
theorem dJ1_charAt_3b067_6 : decode cJ1_charAt_3b067 6 = .ok (.aload_n 0, 1) := by decide +kernel
theorem dJ1_charAt_3b067_7 : decode cJ1_charAt_3b067 7 = .ok (.iload_n 1, 1) := by decide +kernel
theorem dJ1_charAt_3b067_8 : decode cJ1_charAt_3b067 8 = .ok (.baload, 1) := by decide +kernel
theorem dJ1_charAt_3b067_9 : decode cJ1_charAt_3b067 9 = .ok (.sipush 255, 3) := by decide +kernel
theorem dJ1_charAt_3b067_12 : decode cJ1_charAt_3b067 12 = .ok (.iand, 1) := by decide +kernel
theorem dJ1_charAt_3b067_13 : decode cJ1_charAt_3b067 13 = .ok (.i2c, 1) := by decide +kernel
theorem dJ1_charAt_3b067_14 : decode cJ1_charAt_3b067 14 = .ok (.ireturn, 1) := by decide +kernel
theorem dJ2_getChar_3b067_0 : decode cJ2_getChar_3b067 0 = .ok (.getstatic 44, 3) := by decide +kernel
theorem dJ2_getChar_3b067_3 : decode cJ2_getChar_3b067 3 = .ok (.ifCond .ne 25, 3) := by decide +kernel
theorem dJ2_getChar_3b067_6 : decode cJ2_getChar_3b067 6 = .ok (.iload_n 1, 1) := by decide +kernel
theorem dJ2_getChar_3b067_7 : decode cJ2_getChar_3b067 7 = .ok (.ifCond .lt 11, 3) := by decide +kernel
theorem dJ2_getChar_3b067_10 : decode cJ2_getChar_3b067 10 = .ok (.iload_n 1, 1) := by decide +kernel
theorem dJ2_getChar_3b067_11 : decode cJ2_getChar_3b067 11 = .ok (.aload_n 0, 1) := by decide +kernel
theorem dJ2_getChar_3b067_12 : decode cJ2_getChar_3b067 12 = .ok (.invokestatic 48, 3) := by decide +kernel
theorem dJ2_getChar_3b067_15 : decode cJ2_getChar_3b067 15 = .ok (.if_icmp .lt 13, 3) := by decide +kernel
theorem dJ2_getChar_3b067_18 : decode cJ2_getChar_3b067 18 = .ok (.new 52, 3) := by decide +kernel
theorem dJ2_getChar_3b067_21 : decode cJ2_getChar_3b067 21 = .ok (.dup, 1) := by decide +kernel
theorem dJ2_getChar_3b067_22 : decode cJ2_getChar_3b067 22 = .ok (.ldc 54, 2) := by decide +kernel
theorem dJ2_getChar_3b067_24 : decode cJ2_getChar_3b067 24 = .ok (.invokespecial 56, 3) := by decide +kernel
theorem dJ2_getChar_3b067_27 : decode cJ2_getChar_3b067 27 = .ok (.athrow, 1) := by decide +kernel
theorem dJ2_getChar_3b067_28 : decode cJ2_getChar_3b067 28 = .ok (.iload_n 1, 1) := by decide +kernel
theorem dJ2_getChar_3b067_29 : decode cJ2_getChar_3b067 29 = .ok (.iconst 1, 1) := by decide +kernel
theorem dJ2_getChar_3b067_30 : decode cJ2_getChar_3b067 30 = .ok (.ishl, 1) := by decide +kernel
theorem dJ2_getChar_3b067_31 : decode cJ2_getChar_3b067 31 = .ok (.istore_n 1, 1) := by decide +kernel
theorem dJ2_getChar_3b067_32 : decode cJ2_getChar_3b067 32 = .ok (.aload_n 0, 1) := by decide +kernel
theorem dJ2_getChar_3b067_33 : decode cJ2_getChar_3b067 33 = .ok (.iload_n 1, 1) := by decide +kernel
theorem dJ2_getChar_3b067_34 : decode cJ2_getChar_3b067 34 = .ok (.iinc 1 1, 3) := by decide +kernel
theorem dJ2_getChar_3b067_37 : decode cJ2_getChar_3b067 37 = .ok (.baload, 1) := by decide +kernel
theorem dJ2_getChar_3b067_38 : decode cJ2_getChar_3b067 38 = .ok (.sipush 255, 3) := by decide +kernel
theorem dJ2_getChar_3b067_41 : decode cJ2_getChar_3b067 41 = .ok (.iand, 1) := by decide +kernel
theorem dJ2_getChar_3b067_42 : decode cJ2_getChar_3b067 42 = .ok (.getstatic 59, 3) := by decide +kernel
theorem dJ2_getChar_3b067_45 : decode cJ2_getChar_3b067 45 = .ok (.ishl, 1) := by decide +kernel
theorem dJ2_getChar_3b067_46 : decode cJ2_getChar_3b067 46 = .ok (.aload_n 0, 1) := by decide +kernel
theorem dJ2_getChar_3b067_47 : decode cJ2_getChar_3b067 47 = .ok (.iload_n 1, 1) := by decide +kernel
theorem dJ2_getChar_3b067_48 : decode cJ2_getChar_3b067 48 = .ok (.baload, 1) := by decide +kernel
theorem dJ2_getChar_3b067_49 : decode cJ2_getChar_3b067 49 = .ok (.sipush 255, 3) := by decide +kernel
theorem dJ2_getChar_3b067_52 : decode cJ2_getChar_3b067 52 = .ok (.iand, 1) := by decide +kernel
theorem dJ2_getChar_3b067_53 : decode cJ2_getChar_3b067 53 = .ok (.getstatic 63, 3) := by decide +kernel
theorem dJ2_getChar_3b067_56 : decode cJ2_getChar_3b067 56 = .ok (.ishl, 1) := by decide +kernel
theorem dJ2_getChar_3b067_57 : decode cJ2_getChar_3b067 57 = .ok (.ior, 1) := by decide +kernel
theorem dJ2_getChar_3b067_58 : decode cJ2_getChar_3b067 58 = .ok (.i2c, 1) := by decide +kernel
theorem dJ2_getChar_3b067_59 : decode cJ2_getChar_3b067 59 = .ok (.ireturn, 1) := by decide +kernel
theorem dJ2_length_9d52b_0 : decode cJ2_length_9d52b 0 = .ok (.aload_n 0, 1) := by decide +kernel
theorem dJ2_length_9d52b_1 : decode cJ2_length_9d52b 1 = .ok (.arraylength, 1) := by decide +kernel
theorem dJ2_length_9d52b_2 : decode cJ2_length_9d52b 2 = .ok (.iconst 1, 1) := by decide +kernel
theorem dJ2_length_9d52b_3 : decode cJ2_length_9d52b 3 = .ok (.ishr, 1) := by decide +kernel
theorem dJ2_length_9d52b_4 : decode cJ2_length_9d52b 4 = .ok (.ireturn, 1) := by decide +kernel
theorem dJ2_charAt_3b067_0 : decode cJ2_charAt_3b067 0 = .ok (.iload_n 1, 1) := by decide +kernel
theorem dJ2_charAt_3b067_1 : decode cJ2_charAt_3b067 1 = .ok (.aload_n 0, 1) := by decide +kernel
theorem dJ2_charAt_3b067_2 : decode cJ2_charAt_3b067 2 = .ok (.invokestatic 67, 3) := by decide +kernel
theorem dJ2_charAt_3b067_5 : decode cJ2_charAt_3b067 5 = .ok (.aload_n 0, 1) := by decide +kernel
theorem dJ2_charAt_3b067_6 : decode cJ2_charAt_3b067 6 = .ok (.iload_n 1, 1) := by decide +kernel
theorem dJ2_charAt_3b067_7 : decode cJ2_charAt_3b067 7 = .ok (.invokestatic 71, 3) := by decide +kernel
theorem dJ2_charAt_3b067_10 : decode cJ2_charAt_3b067 10 = .ok (.ireturn, 1) := by decide +kernel
theorem dJ2_checkIndex_2214a_0 : decode cJ2_checkIndex_2214a 0 = .ok (.iload_n 0, 1) := by decide +kernel
theorem dJ2_checkIndex_2214a_1 : decode cJ2_checkIndex_2214a 1 = .ok (.aload_n 1, 1) := by decide +kernel
theorem dJ2_checkIndex_2214a_2 : decode cJ2_checkIndex_2214a 2 = .ok (.invokestatic 48, 3) := by decide +kernel
theorem dJ2_checkIndex_2214a_5 : decode cJ2_checkIndex_2214a 5 = .ok (.invokestatic 414, 3) := by decide +kernel
theorem dJ2_checkIndex_2214a_8 : decode cJ2_checkIndex_2214a 8 = .ok (.return_, 1) := by decide +kernel
theorem dJ3_checkIndex_8e157_0 : decode cJ3_checkIndex_8e157 0 = .ok (.iload_n 0, 1) := by decide +kernel
theorem dJ3_checkIndex_8e157_1 : decode cJ3_checkIndex_8e157 1 = .ok (.ifCond .lt 8, 3) := by decide +kernel
theorem dJ3_checkIndex_8e157_4 : decode cJ3_checkIndex_8e157 4 = .ok (.iload_n 0, 1) := by decide +kernel
theorem dJ3_checkIndex_8e157_5 : decode cJ3_checkIndex_8e157 5 = .ok (.iload_n 1, 1) := by decide +kernel
theorem dJ3_checkIndex_8e157_6 : decode cJ3_checkIndex_8e157 6 = .ok (.if_icmp .lt 10, 3) := by decide +kernel
theorem dJ3_checkIndex_8e157_9 : decode cJ3_checkIndex_8e157 9 = .ok (.aload_n 2, 1) := by decide +kernel
theorem dJ3_checkIndex_8e157_10 : decode cJ3_checkIndex_8e157 10 = .ok (.iload_n 0, 1) := by decide +kernel
theorem dJ3_checkIndex_8e157_11 : decode cJ3_checkIndex_8e157 11 = .ok (.iload_n 1, 1) := by decide +kernel
theorem dJ3_checkIndex_8e157_12 : decode cJ3_checkIndex_8e157 12 = .ok (.invokestatic 95, 3) := by decide +kernel
theorem dJ3_checkIndex_8e157_15 : decode cJ3_checkIndex_8e157 15 = .ok (.athrow, 1) := by decide +kernel
theorem dJ3_checkIndex_8e157_16 : decode cJ3_checkIndex_8e157 16 = .ok (.iload_n 0, 1) := by decide +kernel
theorem dJ3_checkIndex_8e157_17 : decode cJ3_checkIndex_8e157 17 = .ok (.ireturn, 1) := by decide +kernel
theorem dL_law_0 : decode cL_law 0 = .ok (.new 7, 3) := by decide +kernel
theorem dL_law_3 : decode cL_law 3 = .ok (.dup, 1) := by decide +kernel
theorem dL_law_4 : decode cL_law 4 = .ok (.invokespecial 9, 3) := by decide +kernel
theorem dL_law_7 : decode cL_law 7 = .ok (.astore_n 1, 1) := by decide +kernel
theorem dL_law_8 : decode cL_law 8 = .ok (.new 10, 3) := by decide +kernel
theorem dL_law_11 : decode cL_law 11 = .ok (.dup, 1) := by decide +kernel
theorem dL_law_12 : decode cL_law 12 = .ok (.invokespecial 12, 3) := by decide +kernel
theorem dL_law_15 : decode cL_law 15 = .ok (.astore_n 2, 1) := by decide +kernel
theorem dL_law_16 : decode cL_law 16 = .ok (.iconst 0, 1) := by decide +kernel
theorem dL_law_17 : decode cL_law 17 = .ok (.istore_n 3, 1) := by decide +kernel
theorem dL_law_18 : decode cL_law 18 = .ok (.iload_n 3, 1) := by decide +kernel
theorem dL_law_19 : decode cL_law 19 = .ok (.aload_n 0, 1) := by decide +kernel
theorem dL_law_20 : decode cL_law 20 = .ok (.arraylength, 1) := by decide +kernel
theorem dL_law_21 : decode cL_law 21 = .ok (.iconst 5, 1) := by decide +kernel
theorem dL_law_22 : decode cL_law 22 = .ok (.isub, 1) := by decide +kernel
theorem dL_law_23 : decode cL_law 23 = .ok (.if_icmp .gt 1066, 3) := by decide +kernel
theorem dL_law_26 : decode cL_law 26 = .ok (.aload_n 0, 1) := by decide +kernel
theorem dL_law_27 : decode cL_law 27 = .ok (.iload_n 3, 1) := by decide +kernel
theorem dL_law_28 : decode cL_law 28 = .ok (.iaload, 1) := by decide +kernel
theorem dL_law_29 : decode cL_law 29 = .ok (.bipush 31, 2) := by decide +kernel
theorem dL_law_31 : decode cL_law 31 = .ok (.iand, 1) := by decide +kernel
theorem dL_law_32 : decode cL_law 32 = .ok (.tableswitch 1051 0 31 #[144, 177, 210, 243, 276, 319, 352, 385, 418, 481, 494, 507, 550, 583, 606, 629, 662, 685, 708, 741, 754, 767, 780, 823, 846, 899, 922, 945, 968, 991, 1014, 1037], 144) := by decide +kernel
theorem dL_law_176 : decode cL_law 176 = .ok (.aload_n 1, 1) := by decide +kernel
theorem dL_law_177 : decode cL_law 177 = .ok (.aload_n 0, 1) := by decide +kernel
theorem dL_law_178 : decode cL_law 178 = .ok (.iload_n 3, 1) := by decide +kernel
theorem dL_law_179 : decode cL_law 179 = .ok (.iconst 1, 1) := by decide +kernel
theorem dL_law_180 : decode cL_law 180 = .ok (.iadd, 1) := by decide +kernel
theorem dL_law_181 : decode cL_law 181 = .ok (.iaload, 1) := by decide +kernel
theorem dL_law_182 : decode cL_law 182 = .ok (.aload_n 0, 1) := by decide +kernel
theorem dL_law_183 : decode cL_law 183 = .ok (.iload_n 3, 1) := by decide +kernel
theorem dL_law_184 : decode cL_law 184 = .ok (.iconst 2, 1) := by decide +kernel
theorem dL_law_185 : decode cL_law 185 = .ok (.iadd, 1) := by decide +kernel
theorem dL_law_186 : decode cL_law 186 = .ok (.iaload, 1) := by decide +kernel
theorem dL_law_187 : decode cL_law 187 = .ok (.invokevirtual 13, 3) := by decide +kernel
theorem dL_law_190 : decode cL_law 190 = .ok (.aload_n 2, 1) := by decide +kernel
theorem dL_law_191 : decode cL_law 191 = .ok (.aload_n 0, 1) := by decide +kernel
theorem dL_law_192 : decode cL_law 192 = .ok (.iload_n 3, 1) := by decide +kernel
theorem dL_law_193 : decode cL_law 193 = .ok (.iconst 1, 1) := by decide +kernel
theorem dL_law_194 : decode cL_law 194 = .ok (.iadd, 1) := by decide +kernel
theorem dL_law_195 : decode cL_law 195 = .ok (.iaload, 1) := by decide +kernel
theorem dL_law_196 : decode cL_law 196 = .ok (.aload_n 0, 1) := by decide +kernel
theorem dL_law_197 : decode cL_law 197 = .ok (.iload_n 3, 1) := by decide +kernel
theorem dL_law_198 : decode cL_law 198 = .ok (.iconst 2, 1) := by decide +kernel
theorem dL_law_199 : decode cL_law 199 = .ok (.iadd, 1) := by decide +kernel
theorem dL_law_200 : decode cL_law 200 = .ok (.iaload, 1) := by decide +kernel
theorem dL_law_201 : decode cL_law 201 = .ok (.invokevirtual 17, 3) := by decide +kernel
theorem dL_law_204 : decode cL_law 204 = .ok (.if_icmp .eq 879, 3) := by decide +kernel
theorem dL_law_207 : decode cL_law 207 = .ok (.iconst 0, 1) := by decide +kernel
theorem dL_law_208 : decode cL_law 208 = .ok (.ireturn, 1) := by decide +kernel
theorem dL_law_209 : decode cL_law 209 = .ok (.aload_n 1, 1) := by decide +kernel
theorem dL_law_210 : decode cL_law 210 = .ok (.aload_n 0, 1) := by decide +kernel
theorem dL_law_211 : decode cL_law 211 = .ok (.iload_n 3, 1) := by decide +kernel
theorem dL_law_212 : decode cL_law 212 = .ok (.iconst 1, 1) := by decide +kernel
theorem dL_law_213 : decode cL_law 213 = .ok (.iadd, 1) := by decide +kernel
theorem dL_law_214 : decode cL_law 214 = .ok (.iaload, 1) := by decide +kernel
theorem dL_law_215 : decode cL_law 215 = .ok (.aload_n 0, 1) := by decide +kernel
theorem dL_law_216 : decode cL_law 216 = .ok (.iload_n 3, 1) := by decide +kernel
theorem dL_law_217 : decode cL_law 217 = .ok (.iconst 2, 1) := by decide +kernel
theorem dL_law_218 : decode cL_law 218 = .ok (.iadd, 1) := by decide +kernel
theorem dL_law_219 : decode cL_law 219 = .ok (.iaload, 1) := by decide +kernel
theorem dL_law_220 : decode cL_law 220 = .ok (.invokevirtual 18, 3) := by decide +kernel
theorem dL_law_223 : decode cL_law 223 = .ok (.aload_n 2, 1) := by decide +kernel
theorem dL_law_224 : decode cL_law 224 = .ok (.aload_n 0, 1) := by decide +kernel
theorem dL_law_225 : decode cL_law 225 = .ok (.iload_n 3, 1) := by decide +kernel
theorem dL_law_226 : decode cL_law 226 = .ok (.iconst 1, 1) := by decide +kernel
theorem dL_law_227 : decode cL_law 227 = .ok (.iadd, 1) := by decide +kernel
theorem dL_law_228 : decode cL_law 228 = .ok (.iaload, 1) := by decide +kernel
theorem dL_law_229 : decode cL_law 229 = .ok (.aload_n 0, 1) := by decide +kernel
theorem dL_law_230 : decode cL_law 230 = .ok (.iload_n 3, 1) := by decide +kernel
theorem dL_law_231 : decode cL_law 231 = .ok (.iconst 2, 1) := by decide +kernel
theorem dL_law_232 : decode cL_law 232 = .ok (.iadd, 1) := by decide +kernel
theorem dL_law_233 : decode cL_law 233 = .ok (.iaload, 1) := by decide +kernel
theorem dL_law_234 : decode cL_law 234 = .ok (.invokevirtual 21, 3) := by decide +kernel
theorem dL_law_237 : decode cL_law 237 = .ok (.if_icmp .eq 846, 3) := by decide +kernel
theorem dL_law_240 : decode cL_law 240 = .ok (.iconst 0, 1) := by decide +kernel
theorem dL_law_241 : decode cL_law 241 = .ok (.ireturn, 1) := by decide +kernel
theorem dL_law_242 : decode cL_law 242 = .ok (.aload_n 1, 1) := by decide +kernel
theorem dL_law_243 : decode cL_law 243 = .ok (.aload_n 0, 1) := by decide +kernel
theorem dL_law_244 : decode cL_law 244 = .ok (.iload_n 3, 1) := by decide +kernel
theorem dL_law_245 : decode cL_law 245 = .ok (.iconst 1, 1) := by decide +kernel
theorem dL_law_246 : decode cL_law 246 = .ok (.iadd, 1) := by decide +kernel
theorem dL_law_247 : decode cL_law 247 = .ok (.iaload, 1) := by decide +kernel
theorem dL_law_248 : decode cL_law 248 = .ok (.aload_n 0, 1) := by decide +kernel
theorem dL_law_249 : decode cL_law 249 = .ok (.iload_n 3, 1) := by decide +kernel
theorem dL_law_250 : decode cL_law 250 = .ok (.iconst 2, 1) := by decide +kernel
theorem dL_law_251 : decode cL_law 251 = .ok (.iadd, 1) := by decide +kernel
theorem dL_law_252 : decode cL_law 252 = .ok (.iaload, 1) := by decide +kernel
theorem dL_law_253 : decode cL_law 253 = .ok (.invokevirtual 22, 3) := by decide +kernel
theorem dL_law_256 : decode cL_law 256 = .ok (.aload_n 2, 1) := by decide +kernel
theorem dL_law_257 : decode cL_law 257 = .ok (.aload_n 0, 1) := by decide +kernel
theorem dL_law_258 : decode cL_law 258 = .ok (.iload_n 3, 1) := by decide +kernel
theorem dL_law_259 : decode cL_law 259 = .ok (.iconst 1, 1) := by decide +kernel
theorem dL_law_260 : decode cL_law 260 = .ok (.iadd, 1) := by decide +kernel
theorem dL_law_261 : decode cL_law 261 = .ok (.iaload, 1) := by decide +kernel
theorem dL_law_262 : decode cL_law 262 = .ok (.aload_n 0, 1) := by decide +kernel
theorem dL_law_263 : decode cL_law 263 = .ok (.iload_n 3, 1) := by decide +kernel
theorem dL_law_264 : decode cL_law 264 = .ok (.iconst 2, 1) := by decide +kernel
theorem dL_law_265 : decode cL_law 265 = .ok (.iadd, 1) := by decide +kernel
theorem dL_law_266 : decode cL_law 266 = .ok (.iaload, 1) := by decide +kernel
theorem dL_law_267 : decode cL_law 267 = .ok (.invokevirtual 25, 3) := by decide +kernel
theorem dL_law_270 : decode cL_law 270 = .ok (.if_icmp .eq 813, 3) := by decide +kernel
theorem dL_law_273 : decode cL_law 273 = .ok (.iconst 0, 1) := by decide +kernel
theorem dL_law_274 : decode cL_law 274 = .ok (.ireturn, 1) := by decide +kernel
theorem dL_law_275 : decode cL_law 275 = .ok (.aload_n 1, 1) := by decide +kernel
theorem dL_law_276 : decode cL_law 276 = .ok (.aload_n 0, 1) := by decide +kernel
theorem dL_law_277 : decode cL_law 277 = .ok (.iload_n 3, 1) := by decide +kernel
theorem dL_law_278 : decode cL_law 278 = .ok (.iconst 1, 1) := by decide +kernel
theorem dL_law_279 : decode cL_law 279 = .ok (.iadd, 1) := by decide +kernel
theorem dL_law_280 : decode cL_law 280 = .ok (.iaload, 1) := by decide +kernel
theorem dL_law_281 : decode cL_law 281 = .ok (.aload_n 0, 1) := by decide +kernel
theorem dL_law_282 : decode cL_law 282 = .ok (.iload_n 3, 1) := by decide +kernel
theorem dL_law_283 : decode cL_law 283 = .ok (.iconst 2, 1) := by decide +kernel
theorem dL_law_284 : decode cL_law 284 = .ok (.iadd, 1) := by decide +kernel
theorem dL_law_285 : decode cL_law 285 = .ok (.iaload, 1) := by decide +kernel
theorem dL_law_286 : decode cL_law 286 = .ok (.invokevirtual 26, 3) := by decide +kernel
theorem dL_law_289 : decode cL_law 289 = .ok (.aload_n 2, 1) := by decide +kernel
theorem dL_law_290 : decode cL_law 290 = .ok (.aload_n 0, 1) := by decide +kernel
theorem dL_law_291 : decode cL_law 291 = .ok (.iload_n 3, 1) := by decide +kernel
theorem dL_law_292 : decode cL_law 292 = .ok (.iconst 1, 1) := by decide +kernel
theorem dL_law_293 : decode cL_law 293 = .ok (.iadd, 1) := by decide +kernel
theorem dL_law_294 : decode cL_law 294 = .ok (.iaload, 1) := by decide +kernel
theorem dL_law_295 : decode cL_law 295 = .ok (.aload_n 0, 1) := by decide +kernel
theorem dL_law_296 : decode cL_law 296 = .ok (.iload_n 3, 1) := by decide +kernel
theorem dL_law_297 : decode cL_law 297 = .ok (.iconst 2, 1) := by decide +kernel
theorem dL_law_298 : decode cL_law 298 = .ok (.iadd, 1) := by decide +kernel
theorem dL_law_299 : decode cL_law 299 = .ok (.iaload, 1) := by decide +kernel
theorem dL_law_300 : decode cL_law 300 = .ok (.invokevirtual 29, 3) := by decide +kernel
theorem dL_law_303 : decode cL_law 303 = .ok (.if_icmp .eq 780, 3) := by decide +kernel
theorem dL_law_306 : decode cL_law 306 = .ok (.iconst 0, 1) := by decide +kernel
theorem dL_law_307 : decode cL_law 307 = .ok (.ireturn, 1) := by decide +kernel
theorem dL_law_308 : decode cL_law 308 = .ok (.aload_n 1, 1) := by decide +kernel
theorem dL_law_309 : decode cL_law 309 = .ok (.aload_n 0, 1) := by decide +kernel
theorem dL_law_310 : decode cL_law 310 = .ok (.iload_n 3, 1) := by decide +kernel
theorem dL_law_311 : decode cL_law 311 = .ok (.iconst 1, 1) := by decide +kernel
theorem dL_law_312 : decode cL_law 312 = .ok (.iadd, 1) := by decide +kernel
theorem dL_law_313 : decode cL_law 313 = .ok (.iaload, 1) := by decide +kernel
theorem dL_law_314 : decode cL_law 314 = .ok (.aload_n 0, 1) := by decide +kernel
theorem dL_law_315 : decode cL_law 315 = .ok (.iload_n 3, 1) := by decide +kernel
theorem dL_law_316 : decode cL_law 316 = .ok (.iconst 2, 1) := by decide +kernel
theorem dL_law_317 : decode cL_law 317 = .ok (.iadd, 1) := by decide +kernel
theorem dL_law_318 : decode cL_law 318 = .ok (.iaload, 1) := by decide +kernel
theorem dL_law_319 : decode cL_law 319 = .ok (.aload_n 0, 1) := by decide +kernel
theorem dL_law_320 : decode cL_law 320 = .ok (.iload_n 3, 1) := by decide +kernel
theorem dL_law_321 : decode cL_law 321 = .ok (.iconst 3, 1) := by decide +kernel
theorem dL_law_322 : decode cL_law 322 = .ok (.iadd, 1) := by decide +kernel
theorem dL_law_323 : decode cL_law 323 = .ok (.iaload, 1) := by decide +kernel
theorem dL_law_324 : decode cL_law 324 = .ok (.invokevirtual 30, 3) := by decide +kernel
theorem dL_law_327 : decode cL_law 327 = .ok (.aload_n 2, 1) := by decide +kernel
theorem dL_law_328 : decode cL_law 328 = .ok (.aload_n 0, 1) := by decide +kernel
theorem dL_law_329 : decode cL_law 329 = .ok (.iload_n 3, 1) := by decide +kernel
theorem dL_law_330 : decode cL_law 330 = .ok (.iconst 1, 1) := by decide +kernel
theorem dL_law_331 : decode cL_law 331 = .ok (.iadd, 1) := by decide +kernel
theorem dL_law_332 : decode cL_law 332 = .ok (.iaload, 1) := by decide +kernel
theorem dL_law_333 : decode cL_law 333 = .ok (.aload_n 0, 1) := by decide +kernel
theorem dL_law_334 : decode cL_law 334 = .ok (.iload_n 3, 1) := by decide +kernel
theorem dL_law_335 : decode cL_law 335 = .ok (.iconst 2, 1) := by decide +kernel
theorem dL_law_336 : decode cL_law 336 = .ok (.iadd, 1) := by decide +kernel
theorem dL_law_337 : decode cL_law 337 = .ok (.iaload, 1) := by decide +kernel
theorem dL_law_338 : decode cL_law 338 = .ok (.aload_n 0, 1) := by decide +kernel
theorem dL_law_339 : decode cL_law 339 = .ok (.iload_n 3, 1) := by decide +kernel
theorem dL_law_340 : decode cL_law 340 = .ok (.iconst 3, 1) := by decide +kernel
theorem dL_law_341 : decode cL_law 341 = .ok (.iadd, 1) := by decide +kernel
theorem dL_law_342 : decode cL_law 342 = .ok (.iaload, 1) := by decide +kernel
theorem dL_law_343 : decode cL_law 343 = .ok (.invokevirtual 34, 3) := by decide +kernel
theorem dL_law_346 : decode cL_law 346 = .ok (.if_icmp .eq 737, 3) := by decide +kernel
theorem dL_law_349 : decode cL_law 349 = .ok (.iconst 0, 1) := by decide +kernel
theorem dL_law_350 : decode cL_law 350 = .ok (.ireturn, 1) := by decide +kernel
theorem dL_law_351 : decode cL_law 351 = .ok (.aload_n 1, 1) := by decide +kernel
theorem dL_law_352 : decode cL_law 352 = .ok (.aload_n 0, 1) := by decide +kernel
theorem dL_law_353 : decode cL_law 353 = .ok (.iload_n 3, 1) := by decide +kernel
theorem dL_law_354 : decode cL_law 354 = .ok (.iconst 1, 1) := by decide +kernel
theorem dL_law_355 : decode cL_law 355 = .ok (.iadd, 1) := by decide +kernel
theorem dL_law_356 : decode cL_law 356 = .ok (.iaload, 1) := by decide +kernel
theorem dL_law_357 : decode cL_law 357 = .ok (.aload_n 0, 1) := by decide +kernel
theorem dL_law_358 : decode cL_law 358 = .ok (.iload_n 3, 1) := by decide +kernel
theorem dL_law_359 : decode cL_law 359 = .ok (.iconst 2, 1) := by decide +kernel
theorem dL_law_360 : decode cL_law 360 = .ok (.iadd, 1) := by decide +kernel
theorem dL_law_361 : decode cL_law 361 = .ok (.iaload, 1) := by decide +kernel
theorem dL_law_362 : decode cL_law 362 = .ok (.invokevirtual 35, 3) := by decide +kernel
theorem dL_law_365 : decode cL_law 365 = .ok (.aload_n 2, 1) := by decide +kernel
theorem dL_law_366 : decode cL_law 366 = .ok (.aload_n 0, 1) := by decide +kernel
theorem dL_law_367 : decode cL_law 367 = .ok (.iload_n 3, 1) := by decide +kernel
theorem dL_law_368 : decode cL_law 368 = .ok (.iconst 1, 1) := by decide +kernel
theorem dL_law_369 : decode cL_law 369 = .ok (.iadd, 1) := by decide +kernel
theorem dL_law_370 : decode cL_law 370 = .ok (.iaload, 1) := by decide +kernel
theorem dL_law_371 : decode cL_law 371 = .ok (.aload_n 0, 1) := by decide +kernel
theorem dL_law_372 : decode cL_law 372 = .ok (.iload_n 3, 1) := by decide +kernel
theorem dL_law_373 : decode cL_law 373 = .ok (.iconst 2, 1) := by decide +kernel
theorem dL_law_374 : decode cL_law 374 = .ok (.iadd, 1) := by decide +kernel
theorem dL_law_375 : decode cL_law 375 = .ok (.iaload, 1) := by decide +kernel
theorem dL_law_376 : decode cL_law 376 = .ok (.invokevirtual 38, 3) := by decide +kernel
theorem dL_law_379 : decode cL_law 379 = .ok (.if_icmp .eq 704, 3) := by decide +kernel
theorem dL_law_382 : decode cL_law 382 = .ok (.iconst 0, 1) := by decide +kernel
theorem dL_law_383 : decode cL_law 383 = .ok (.ireturn, 1) := by decide +kernel
theorem dL_law_384 : decode cL_law 384 = .ok (.aload_n 1, 1) := by decide +kernel
theorem dL_law_385 : decode cL_law 385 = .ok (.aload_n 0, 1) := by decide +kernel
theorem dL_law_386 : decode cL_law 386 = .ok (.iload_n 3, 1) := by decide +kernel
theorem dL_law_387 : decode cL_law 387 = .ok (.iconst 1, 1) := by decide +kernel
theorem dL_law_388 : decode cL_law 388 = .ok (.iadd, 1) := by decide +kernel
theorem dL_law_389 : decode cL_law 389 = .ok (.iaload, 1) := by decide +kernel
theorem dL_law_390 : decode cL_law 390 = .ok (.aload_n 0, 1) := by decide +kernel
theorem dL_law_391 : decode cL_law 391 = .ok (.iload_n 3, 1) := by decide +kernel
theorem dL_law_392 : decode cL_law 392 = .ok (.iconst 2, 1) := by decide +kernel
theorem dL_law_393 : decode cL_law 393 = .ok (.iadd, 1) := by decide +kernel
theorem dL_law_394 : decode cL_law 394 = .ok (.iaload, 1) := by decide +kernel
theorem dL_law_395 : decode cL_law 395 = .ok (.invokevirtual 39, 3) := by decide +kernel
theorem dL_law_398 : decode cL_law 398 = .ok (.aload_n 2, 1) := by decide +kernel
theorem dL_law_399 : decode cL_law 399 = .ok (.aload_n 0, 1) := by decide +kernel
theorem dL_law_400 : decode cL_law 400 = .ok (.iload_n 3, 1) := by decide +kernel
theorem dL_law_401 : decode cL_law 401 = .ok (.iconst 1, 1) := by decide +kernel
theorem dL_law_402 : decode cL_law 402 = .ok (.iadd, 1) := by decide +kernel
theorem dL_law_403 : decode cL_law 403 = .ok (.iaload, 1) := by decide +kernel
theorem dL_law_404 : decode cL_law 404 = .ok (.aload_n 0, 1) := by decide +kernel
theorem dL_law_405 : decode cL_law 405 = .ok (.iload_n 3, 1) := by decide +kernel
theorem dL_law_406 : decode cL_law 406 = .ok (.iconst 2, 1) := by decide +kernel
theorem dL_law_407 : decode cL_law 407 = .ok (.iadd, 1) := by decide +kernel
theorem dL_law_408 : decode cL_law 408 = .ok (.iaload, 1) := by decide +kernel
theorem dL_law_409 : decode cL_law 409 = .ok (.invokevirtual 42, 3) := by decide +kernel
theorem dL_law_412 : decode cL_law 412 = .ok (.if_icmp .eq 671, 3) := by decide +kernel
theorem dL_law_415 : decode cL_law 415 = .ok (.iconst 0, 1) := by decide +kernel
theorem dL_law_416 : decode cL_law 416 = .ok (.ireturn, 1) := by decide +kernel
theorem dL_law_417 : decode cL_law 417 = .ok (.aload_n 1, 1) := by decide +kernel
theorem dL_law_418 : decode cL_law 418 = .ok (.aload_n 0, 1) := by decide +kernel
theorem dL_law_419 : decode cL_law 419 = .ok (.iload_n 3, 1) := by decide +kernel
theorem dL_law_420 : decode cL_law 420 = .ok (.iconst 1, 1) := by decide +kernel
theorem dL_law_421 : decode cL_law 421 = .ok (.iadd, 1) := by decide +kernel
theorem dL_law_422 : decode cL_law 422 = .ok (.iaload, 1) := by decide +kernel
theorem dL_law_423 : decode cL_law 423 = .ok (.aload_n 0, 1) := by decide +kernel
theorem dL_law_424 : decode cL_law 424 = .ok (.iload_n 3, 1) := by decide +kernel
theorem dL_law_425 : decode cL_law 425 = .ok (.iconst 2, 1) := by decide +kernel
theorem dL_law_426 : decode cL_law 426 = .ok (.iadd, 1) := by decide +kernel
theorem dL_law_427 : decode cL_law 427 = .ok (.iaload, 1) := by decide +kernel
theorem dL_law_428 : decode cL_law 428 = .ok (.invokevirtual 43, 3) := by decide +kernel
theorem dL_law_431 : decode cL_law 431 = .ok (.aload_n 2, 1) := by decide +kernel
theorem dL_law_432 : decode cL_law 432 = .ok (.aload_n 0, 1) := by decide +kernel
theorem dL_law_433 : decode cL_law 433 = .ok (.iload_n 3, 1) := by decide +kernel
theorem dL_law_434 : decode cL_law 434 = .ok (.iconst 1, 1) := by decide +kernel
theorem dL_law_435 : decode cL_law 435 = .ok (.iadd, 1) := by decide +kernel
theorem dL_law_436 : decode cL_law 436 = .ok (.iaload, 1) := by decide +kernel
theorem dL_law_437 : decode cL_law 437 = .ok (.aload_n 0, 1) := by decide +kernel
theorem dL_law_438 : decode cL_law 438 = .ok (.iload_n 3, 1) := by decide +kernel
theorem dL_law_439 : decode cL_law 439 = .ok (.iconst 2, 1) := by decide +kernel
theorem dL_law_440 : decode cL_law 440 = .ok (.iadd, 1) := by decide +kernel
theorem dL_law_441 : decode cL_law 441 = .ok (.iaload, 1) := by decide +kernel
theorem dL_law_442 : decode cL_law 442 = .ok (.invokevirtual 46, 3) := by decide +kernel
theorem dL_law_445 : decode cL_law 445 = .ok (.if_icmp .eq 638, 3) := by decide +kernel
theorem dL_law_448 : decode cL_law 448 = .ok (.iconst 0, 1) := by decide +kernel
theorem dL_law_449 : decode cL_law 449 = .ok (.ireturn, 1) := by decide +kernel
theorem dL_law_450 : decode cL_law 450 = .ok (.aload_n 1, 1) := by decide +kernel
theorem dL_law_451 : decode cL_law 451 = .ok (.aload_n 0, 1) := by decide +kernel
theorem dL_law_452 : decode cL_law 452 = .ok (.iload_n 3, 1) := by decide +kernel
theorem dL_law_453 : decode cL_law 453 = .ok (.iconst 1, 1) := by decide +kernel
theorem dL_law_454 : decode cL_law 454 = .ok (.iadd, 1) := by decide +kernel
theorem dL_law_455 : decode cL_law 455 = .ok (.iaload, 1) := by decide +kernel
theorem dL_law_456 : decode cL_law 456 = .ok (.i2l, 1) := by decide +kernel
theorem dL_law_457 : decode cL_law 457 = .ok (.bipush 32, 2) := by decide +kernel
theorem dL_law_459 : decode cL_law 459 = .ok (.lshl, 1) := by decide +kernel
theorem dL_law_460 : decode cL_law 460 = .ok (.aload_n 0, 1) := by decide +kernel
theorem dL_law_461 : decode cL_law 461 = .ok (.iload_n 3, 1) := by decide +kernel
theorem dL_law_462 : decode cL_law 462 = .ok (.iconst 2, 1) := by decide +kernel
theorem dL_law_463 : decode cL_law 463 = .ok (.iadd, 1) := by decide +kernel
theorem dL_law_464 : decode cL_law 464 = .ok (.iaload, 1) := by decide +kernel
theorem dL_law_465 : decode cL_law 465 = .ok (.i2l, 1) := by decide +kernel
theorem dL_law_466 : decode cL_law 466 = .ok (.ldc2_w 47, 3) := by decide +kernel
theorem dL_law_469 : decode cL_law 469 = .ok (.land, 1) := by decide +kernel
theorem dL_law_470 : decode cL_law 470 = .ok (.lor, 1) := by decide +kernel
theorem dL_law_471 : decode cL_law 471 = .ok (.aload_n 0, 1) := by decide +kernel
theorem dL_law_472 : decode cL_law 472 = .ok (.iload_n 3, 1) := by decide +kernel
theorem dL_law_473 : decode cL_law 473 = .ok (.iconst 3, 1) := by decide +kernel
theorem dL_law_474 : decode cL_law 474 = .ok (.iadd, 1) := by decide +kernel
theorem dL_law_475 : decode cL_law 475 = .ok (.iaload, 1) := by decide +kernel
theorem dL_law_476 : decode cL_law 476 = .ok (.invokevirtual 49, 3) := by decide +kernel
theorem dL_law_479 : decode cL_law 479 = .ok (.aload_n 2, 1) := by decide +kernel
theorem dL_law_480 : decode cL_law 480 = .ok (.aload_n 0, 1) := by decide +kernel
theorem dL_law_481 : decode cL_law 481 = .ok (.iload_n 3, 1) := by decide +kernel
theorem dL_law_482 : decode cL_law 482 = .ok (.iconst 1, 1) := by decide +kernel
theorem dL_law_483 : decode cL_law 483 = .ok (.iadd, 1) := by decide +kernel
theorem dL_law_484 : decode cL_law 484 = .ok (.iaload, 1) := by decide +kernel
theorem dL_law_485 : decode cL_law 485 = .ok (.i2l, 1) := by decide +kernel
theorem dL_law_486 : decode cL_law 486 = .ok (.bipush 32, 2) := by decide +kernel
theorem dL_law_488 : decode cL_law 488 = .ok (.lshl, 1) := by decide +kernel
theorem dL_law_489 : decode cL_law 489 = .ok (.aload_n 0, 1) := by decide +kernel
theorem dL_law_490 : decode cL_law 490 = .ok (.iload_n 3, 1) := by decide +kernel
theorem dL_law_491 : decode cL_law 491 = .ok (.iconst 2, 1) := by decide +kernel
theorem dL_law_492 : decode cL_law 492 = .ok (.iadd, 1) := by decide +kernel
theorem dL_law_493 : decode cL_law 493 = .ok (.iaload, 1) := by decide +kernel
theorem dL_law_494 : decode cL_law 494 = .ok (.i2l, 1) := by decide +kernel
theorem dL_law_495 : decode cL_law 495 = .ok (.ldc2_w 47, 3) := by decide +kernel
theorem dL_law_498 : decode cL_law 498 = .ok (.land, 1) := by decide +kernel
theorem dL_law_499 : decode cL_law 499 = .ok (.lor, 1) := by decide +kernel
theorem dL_law_500 : decode cL_law 500 = .ok (.aload_n 0, 1) := by decide +kernel
theorem dL_law_501 : decode cL_law 501 = .ok (.iload_n 3, 1) := by decide +kernel
theorem dL_law_502 : decode cL_law 502 = .ok (.iconst 3, 1) := by decide +kernel
theorem dL_law_503 : decode cL_law 503 = .ok (.iadd, 1) := by decide +kernel
theorem dL_law_504 : decode cL_law 504 = .ok (.iaload, 1) := by decide +kernel
theorem dL_law_505 : decode cL_law 505 = .ok (.invokevirtual 53, 3) := by decide +kernel
theorem dL_law_508 : decode cL_law 508 = .ok (.if_icmp .eq 575, 3) := by decide +kernel
theorem dL_law_511 : decode cL_law 511 = .ok (.iconst 0, 1) := by decide +kernel
theorem dL_law_512 : decode cL_law 512 = .ok (.ireturn, 1) := by decide +kernel
theorem dL_law_513 : decode cL_law 513 = .ok (.aload_n 1, 1) := by decide +kernel
theorem dL_law_514 : decode cL_law 514 = .ok (.invokevirtual 54, 3) := by decide +kernel
theorem dL_law_517 : decode cL_law 517 = .ok (.aload_n 2, 1) := by decide +kernel
theorem dL_law_518 : decode cL_law 518 = .ok (.invokevirtual 58, 3) := by decide +kernel
theorem dL_law_521 : decode cL_law 521 = .ok (.if_icmp .eq 562, 3) := by decide +kernel
theorem dL_law_524 : decode cL_law 524 = .ok (.iconst 0, 1) := by decide +kernel
theorem dL_law_525 : decode cL_law 525 = .ok (.ireturn, 1) := by decide +kernel
theorem dL_law_526 : decode cL_law 526 = .ok (.aload_n 1, 1) := by decide +kernel
theorem dL_law_527 : decode cL_law 527 = .ok (.invokevirtual 59, 3) := by decide +kernel
theorem dL_law_530 : decode cL_law 530 = .ok (.aload_n 2, 1) := by decide +kernel
theorem dL_law_531 : decode cL_law 531 = .ok (.invokevirtual 62, 3) := by decide +kernel
theorem dL_law_534 : decode cL_law 534 = .ok (.if_icmp .eq 549, 3) := by decide +kernel
theorem dL_law_537 : decode cL_law 537 = .ok (.iconst 0, 1) := by decide +kernel
theorem dL_law_538 : decode cL_law 538 = .ok (.ireturn, 1) := by decide +kernel
theorem dL_law_539 : decode cL_law 539 = .ok (.aload_n 1, 1) := by decide +kernel
theorem dL_law_540 : decode cL_law 540 = .ok (.aload_n 0, 1) := by decide +kernel
theorem dL_law_541 : decode cL_law 541 = .ok (.iload_n 3, 1) := by decide +kernel
theorem dL_law_542 : decode cL_law 542 = .ok (.iconst 1, 1) := by decide +kernel
theorem dL_law_543 : decode cL_law 543 = .ok (.iadd, 1) := by decide +kernel
theorem dL_law_544 : decode cL_law 544 = .ok (.iaload, 1) := by decide +kernel
theorem dL_law_545 : decode cL_law 545 = .ok (.aload_n 0, 1) := by decide +kernel
theorem dL_law_546 : decode cL_law 546 = .ok (.iload_n 3, 1) := by decide +kernel
theorem dL_law_547 : decode cL_law 547 = .ok (.iconst 2, 1) := by decide +kernel
theorem dL_law_548 : decode cL_law 548 = .ok (.iadd, 1) := by decide +kernel
theorem dL_law_549 : decode cL_law 549 = .ok (.iaload, 1) := by decide +kernel
theorem dL_law_550 : decode cL_law 550 = .ok (.aload_n 0, 1) := by decide +kernel
theorem dL_law_551 : decode cL_law 551 = .ok (.iload_n 3, 1) := by decide +kernel
theorem dL_law_552 : decode cL_law 552 = .ok (.iconst 3, 1) := by decide +kernel
theorem dL_law_553 : decode cL_law 553 = .ok (.iadd, 1) := by decide +kernel
theorem dL_law_554 : decode cL_law 554 = .ok (.iaload, 1) := by decide +kernel
theorem dL_law_555 : decode cL_law 555 = .ok (.invokevirtual 63, 3) := by decide +kernel
theorem dL_law_558 : decode cL_law 558 = .ok (.aload_n 2, 1) := by decide +kernel
theorem dL_law_559 : decode cL_law 559 = .ok (.aload_n 0, 1) := by decide +kernel
theorem dL_law_560 : decode cL_law 560 = .ok (.iload_n 3, 1) := by decide +kernel
theorem dL_law_561 : decode cL_law 561 = .ok (.iconst 1, 1) := by decide +kernel
theorem dL_law_562 : decode cL_law 562 = .ok (.iadd, 1) := by decide +kernel
theorem dL_law_563 : decode cL_law 563 = .ok (.iaload, 1) := by decide +kernel
theorem dL_law_564 : decode cL_law 564 = .ok (.aload_n 0, 1) := by decide +kernel
theorem dL_law_565 : decode cL_law 565 = .ok (.iload_n 3, 1) := by decide +kernel
theorem dL_law_566 : decode cL_law 566 = .ok (.iconst 2, 1) := by decide +kernel
theorem dL_law_567 : decode cL_law 567 = .ok (.iadd, 1) := by decide +kernel
theorem dL_law_568 : decode cL_law 568 = .ok (.iaload, 1) := by decide +kernel
theorem dL_law_569 : decode cL_law 569 = .ok (.aload_n 0, 1) := by decide +kernel
theorem dL_law_570 : decode cL_law 570 = .ok (.iload_n 3, 1) := by decide +kernel
theorem dL_law_571 : decode cL_law 571 = .ok (.iconst 3, 1) := by decide +kernel
theorem dL_law_572 : decode cL_law 572 = .ok (.iadd, 1) := by decide +kernel
theorem dL_law_573 : decode cL_law 573 = .ok (.iaload, 1) := by decide +kernel
theorem dL_law_574 : decode cL_law 574 = .ok (.invokevirtual 66, 3) := by decide +kernel
theorem dL_law_577 : decode cL_law 577 = .ok (.if_icmp .eq 506, 3) := by decide +kernel
theorem dL_law_580 : decode cL_law 580 = .ok (.iconst 0, 1) := by decide +kernel
theorem dL_law_581 : decode cL_law 581 = .ok (.ireturn, 1) := by decide +kernel
theorem dL_law_582 : decode cL_law 582 = .ok (.aload_n 1, 1) := by decide +kernel
theorem dL_law_583 : decode cL_law 583 = .ok (.aload_n 0, 1) := by decide +kernel
theorem dL_law_584 : decode cL_law 584 = .ok (.iload_n 3, 1) := by decide +kernel
theorem dL_law_585 : decode cL_law 585 = .ok (.iconst 1, 1) := by decide +kernel
theorem dL_law_586 : decode cL_law 586 = .ok (.iadd, 1) := by decide +kernel
theorem dL_law_587 : decode cL_law 587 = .ok (.iaload, 1) := by decide +kernel
theorem dL_law_588 : decode cL_law 588 = .ok (.aload_n 0, 1) := by decide +kernel
theorem dL_law_589 : decode cL_law 589 = .ok (.iload_n 3, 1) := by decide +kernel
theorem dL_law_590 : decode cL_law 590 = .ok (.iconst 2, 1) := by decide +kernel
theorem dL_law_591 : decode cL_law 591 = .ok (.iadd, 1) := by decide +kernel
theorem dL_law_592 : decode cL_law 592 = .ok (.iaload, 1) := by decide +kernel
theorem dL_law_593 : decode cL_law 593 = .ok (.invokevirtual 67, 3) := by decide +kernel
theorem dL_law_596 : decode cL_law 596 = .ok (.aload_n 2, 1) := by decide +kernel
theorem dL_law_597 : decode cL_law 597 = .ok (.aload_n 0, 1) := by decide +kernel
theorem dL_law_598 : decode cL_law 598 = .ok (.iload_n 3, 1) := by decide +kernel
theorem dL_law_599 : decode cL_law 599 = .ok (.iconst 1, 1) := by decide +kernel
theorem dL_law_600 : decode cL_law 600 = .ok (.iadd, 1) := by decide +kernel
theorem dL_law_601 : decode cL_law 601 = .ok (.iaload, 1) := by decide +kernel
theorem dL_law_602 : decode cL_law 602 = .ok (.aload_n 0, 1) := by decide +kernel
theorem dL_law_603 : decode cL_law 603 = .ok (.iload_n 3, 1) := by decide +kernel
theorem dL_law_604 : decode cL_law 604 = .ok (.iconst 2, 1) := by decide +kernel
theorem dL_law_605 : decode cL_law 605 = .ok (.iadd, 1) := by decide +kernel
theorem dL_law_606 : decode cL_law 606 = .ok (.iaload, 1) := by decide +kernel
theorem dL_law_607 : decode cL_law 607 = .ok (.invokevirtual 70, 3) := by decide +kernel
theorem dL_law_610 : decode cL_law 610 = .ok (.if_icmp .eq 473, 3) := by decide +kernel
theorem dL_law_613 : decode cL_law 613 = .ok (.iconst 0, 1) := by decide +kernel
theorem dL_law_614 : decode cL_law 614 = .ok (.ireturn, 1) := by decide +kernel
theorem dL_law_615 : decode cL_law 615 = .ok (.aload_n 1, 1) := by decide +kernel
theorem dL_law_616 : decode cL_law 616 = .ok (.aload_n 0, 1) := by decide +kernel
theorem dL_law_617 : decode cL_law 617 = .ok (.iload_n 3, 1) := by decide +kernel
theorem dL_law_618 : decode cL_law 618 = .ok (.iconst 1, 1) := by decide +kernel
theorem dL_law_619 : decode cL_law 619 = .ok (.iadd, 1) := by decide +kernel
theorem dL_law_620 : decode cL_law 620 = .ok (.iaload, 1) := by decide +kernel
theorem dL_law_621 : decode cL_law 621 = .ok (.invokevirtual 71, 3) := by decide +kernel
theorem dL_law_624 : decode cL_law 624 = .ok (.aload_n 2, 1) := by decide +kernel
theorem dL_law_625 : decode cL_law 625 = .ok (.aload_n 0, 1) := by decide +kernel
theorem dL_law_626 : decode cL_law 626 = .ok (.iload_n 3, 1) := by decide +kernel
theorem dL_law_627 : decode cL_law 627 = .ok (.iconst 1, 1) := by decide +kernel
theorem dL_law_628 : decode cL_law 628 = .ok (.iadd, 1) := by decide +kernel
theorem dL_law_629 : decode cL_law 629 = .ok (.iaload, 1) := by decide +kernel
theorem dL_law_630 : decode cL_law 630 = .ok (.invokevirtual 75, 3) := by decide +kernel
theorem dL_law_633 : decode cL_law 633 = .ok (.if_icmp .eq 450, 3) := by decide +kernel
theorem dL_law_636 : decode cL_law 636 = .ok (.iconst 0, 1) := by decide +kernel
theorem dL_law_637 : decode cL_law 637 = .ok (.ireturn, 1) := by decide +kernel
theorem dL_law_638 : decode cL_law 638 = .ok (.aload_n 1, 1) := by decide +kernel
theorem dL_law_639 : decode cL_law 639 = .ok (.aload_n 0, 1) := by decide +kernel
theorem dL_law_640 : decode cL_law 640 = .ok (.iload_n 3, 1) := by decide +kernel
theorem dL_law_641 : decode cL_law 641 = .ok (.iconst 1, 1) := by decide +kernel
theorem dL_law_642 : decode cL_law 642 = .ok (.iadd, 1) := by decide +kernel
theorem dL_law_643 : decode cL_law 643 = .ok (.iaload, 1) := by decide +kernel
theorem dL_law_644 : decode cL_law 644 = .ok (.invokevirtual 76, 3) := by decide +kernel
theorem dL_law_647 : decode cL_law 647 = .ok (.aload_n 2, 1) := by decide +kernel
theorem dL_law_648 : decode cL_law 648 = .ok (.aload_n 0, 1) := by decide +kernel
theorem dL_law_649 : decode cL_law 649 = .ok (.iload_n 3, 1) := by decide +kernel
theorem dL_law_650 : decode cL_law 650 = .ok (.iconst 1, 1) := by decide +kernel
theorem dL_law_651 : decode cL_law 651 = .ok (.iadd, 1) := by decide +kernel
theorem dL_law_652 : decode cL_law 652 = .ok (.iaload, 1) := by decide +kernel
theorem dL_law_653 : decode cL_law 653 = .ok (.invokevirtual 79, 3) := by decide +kernel
theorem dL_law_656 : decode cL_law 656 = .ok (.if_icmp .eq 427, 3) := by decide +kernel
theorem dL_law_659 : decode cL_law 659 = .ok (.iconst 0, 1) := by decide +kernel
theorem dL_law_660 : decode cL_law 660 = .ok (.ireturn, 1) := by decide +kernel
theorem dL_law_661 : decode cL_law 661 = .ok (.aload_n 1, 1) := by decide +kernel
theorem dL_law_662 : decode cL_law 662 = .ok (.aload_n 0, 1) := by decide +kernel
theorem dL_law_663 : decode cL_law 663 = .ok (.iload_n 3, 1) := by decide +kernel
theorem dL_law_664 : decode cL_law 664 = .ok (.iconst 1, 1) := by decide +kernel
theorem dL_law_665 : decode cL_law 665 = .ok (.iadd, 1) := by decide +kernel
theorem dL_law_666 : decode cL_law 666 = .ok (.iaload, 1) := by decide +kernel
theorem dL_law_667 : decode cL_law 667 = .ok (.aload_n 0, 1) := by decide +kernel
theorem dL_law_668 : decode cL_law 668 = .ok (.iload_n 3, 1) := by decide +kernel
theorem dL_law_669 : decode cL_law 669 = .ok (.iconst 2, 1) := by decide +kernel
theorem dL_law_670 : decode cL_law 670 = .ok (.iadd, 1) := by decide +kernel
theorem dL_law_671 : decode cL_law 671 = .ok (.iaload, 1) := by decide +kernel
theorem dL_law_672 : decode cL_law 672 = .ok (.invokevirtual 80, 3) := by decide +kernel
theorem dL_law_675 : decode cL_law 675 = .ok (.aload_n 2, 1) := by decide +kernel
theorem dL_law_676 : decode cL_law 676 = .ok (.aload_n 0, 1) := by decide +kernel
theorem dL_law_677 : decode cL_law 677 = .ok (.iload_n 3, 1) := by decide +kernel
theorem dL_law_678 : decode cL_law 678 = .ok (.iconst 1, 1) := by decide +kernel
theorem dL_law_679 : decode cL_law 679 = .ok (.iadd, 1) := by decide +kernel
theorem dL_law_680 : decode cL_law 680 = .ok (.iaload, 1) := by decide +kernel
theorem dL_law_681 : decode cL_law 681 = .ok (.aload_n 0, 1) := by decide +kernel
theorem dL_law_682 : decode cL_law 682 = .ok (.iload_n 3, 1) := by decide +kernel
theorem dL_law_683 : decode cL_law 683 = .ok (.iconst 2, 1) := by decide +kernel
theorem dL_law_684 : decode cL_law 684 = .ok (.iadd, 1) := by decide +kernel
theorem dL_law_685 : decode cL_law 685 = .ok (.iaload, 1) := by decide +kernel
theorem dL_law_686 : decode cL_law 686 = .ok (.invokevirtual 83, 3) := by decide +kernel
theorem dL_law_689 : decode cL_law 689 = .ok (.if_icmp .eq 394, 3) := by decide +kernel
theorem dL_law_692 : decode cL_law 692 = .ok (.iconst 0, 1) := by decide +kernel
theorem dL_law_693 : decode cL_law 693 = .ok (.ireturn, 1) := by decide +kernel
theorem dL_law_694 : decode cL_law 694 = .ok (.aload_n 1, 1) := by decide +kernel
theorem dL_law_695 : decode cL_law 695 = .ok (.aload_n 0, 1) := by decide +kernel
theorem dL_law_696 : decode cL_law 696 = .ok (.iload_n 3, 1) := by decide +kernel
theorem dL_law_697 : decode cL_law 697 = .ok (.iconst 1, 1) := by decide +kernel
theorem dL_law_698 : decode cL_law 698 = .ok (.iadd, 1) := by decide +kernel
theorem dL_law_699 : decode cL_law 699 = .ok (.iaload, 1) := by decide +kernel
theorem dL_law_700 : decode cL_law 700 = .ok (.invokevirtual 84, 3) := by decide +kernel
theorem dL_law_703 : decode cL_law 703 = .ok (.aload_n 2, 1) := by decide +kernel
theorem dL_law_704 : decode cL_law 704 = .ok (.aload_n 0, 1) := by decide +kernel
theorem dL_law_705 : decode cL_law 705 = .ok (.iload_n 3, 1) := by decide +kernel
theorem dL_law_706 : decode cL_law 706 = .ok (.iconst 1, 1) := by decide +kernel
theorem dL_law_707 : decode cL_law 707 = .ok (.iadd, 1) := by decide +kernel
theorem dL_law_708 : decode cL_law 708 = .ok (.iaload, 1) := by decide +kernel
theorem dL_law_709 : decode cL_law 709 = .ok (.invokevirtual 87, 3) := by decide +kernel
theorem dL_law_712 : decode cL_law 712 = .ok (.if_icmp .eq 371, 3) := by decide +kernel
theorem dL_law_715 : decode cL_law 715 = .ok (.iconst 0, 1) := by decide +kernel
theorem dL_law_716 : decode cL_law 716 = .ok (.ireturn, 1) := by decide +kernel
theorem dL_law_717 : decode cL_law 717 = .ok (.aload_n 1, 1) := by decide +kernel
theorem dL_law_718 : decode cL_law 718 = .ok (.aload_n 0, 1) := by decide +kernel
theorem dL_law_719 : decode cL_law 719 = .ok (.iload_n 3, 1) := by decide +kernel
theorem dL_law_720 : decode cL_law 720 = .ok (.iconst 1, 1) := by decide +kernel
theorem dL_law_721 : decode cL_law 721 = .ok (.iadd, 1) := by decide +kernel
theorem dL_law_722 : decode cL_law 722 = .ok (.iaload, 1) := by decide +kernel
theorem dL_law_723 : decode cL_law 723 = .ok (.invokevirtual 88, 3) := by decide +kernel
theorem dL_law_726 : decode cL_law 726 = .ok (.aload_n 2, 1) := by decide +kernel
theorem dL_law_727 : decode cL_law 727 = .ok (.aload_n 0, 1) := by decide +kernel
theorem dL_law_728 : decode cL_law 728 = .ok (.iload_n 3, 1) := by decide +kernel
theorem dL_law_729 : decode cL_law 729 = .ok (.iconst 1, 1) := by decide +kernel
theorem dL_law_730 : decode cL_law 730 = .ok (.iadd, 1) := by decide +kernel
theorem dL_law_731 : decode cL_law 731 = .ok (.iaload, 1) := by decide +kernel
theorem dL_law_732 : decode cL_law 732 = .ok (.invokevirtual 91, 3) := by decide +kernel
theorem dL_law_735 : decode cL_law 735 = .ok (.if_icmp .eq 348, 3) := by decide +kernel
theorem dL_law_738 : decode cL_law 738 = .ok (.iconst 0, 1) := by decide +kernel
theorem dL_law_739 : decode cL_law 739 = .ok (.ireturn, 1) := by decide +kernel
theorem dL_law_740 : decode cL_law 740 = .ok (.aload_n 1, 1) := by decide +kernel
theorem dL_law_741 : decode cL_law 741 = .ok (.aload_n 0, 1) := by decide +kernel
theorem dL_law_742 : decode cL_law 742 = .ok (.iload_n 3, 1) := by decide +kernel
theorem dL_law_743 : decode cL_law 743 = .ok (.iconst 1, 1) := by decide +kernel
theorem dL_law_744 : decode cL_law 744 = .ok (.iadd, 1) := by decide +kernel
theorem dL_law_745 : decode cL_law 745 = .ok (.iaload, 1) := by decide +kernel
theorem dL_law_746 : decode cL_law 746 = .ok (.aload_n 0, 1) := by decide +kernel
theorem dL_law_747 : decode cL_law 747 = .ok (.iload_n 3, 1) := by decide +kernel
theorem dL_law_748 : decode cL_law 748 = .ok (.iconst 2, 1) := by decide +kernel
theorem dL_law_749 : decode cL_law 749 = .ok (.iadd, 1) := by decide +kernel
theorem dL_law_750 : decode cL_law 750 = .ok (.iaload, 1) := by decide +kernel
theorem dL_law_751 : decode cL_law 751 = .ok (.invokevirtual 92, 3) := by decide +kernel
theorem dL_law_754 : decode cL_law 754 = .ok (.aload_n 2, 1) := by decide +kernel
theorem dL_law_755 : decode cL_law 755 = .ok (.aload_n 0, 1) := by decide +kernel
theorem dL_law_756 : decode cL_law 756 = .ok (.iload_n 3, 1) := by decide +kernel
theorem dL_law_757 : decode cL_law 757 = .ok (.iconst 1, 1) := by decide +kernel
theorem dL_law_758 : decode cL_law 758 = .ok (.iadd, 1) := by decide +kernel
theorem dL_law_759 : decode cL_law 759 = .ok (.iaload, 1) := by decide +kernel
theorem dL_law_760 : decode cL_law 760 = .ok (.aload_n 0, 1) := by decide +kernel
theorem dL_law_761 : decode cL_law 761 = .ok (.iload_n 3, 1) := by decide +kernel
theorem dL_law_762 : decode cL_law 762 = .ok (.iconst 2, 1) := by decide +kernel
theorem dL_law_763 : decode cL_law 763 = .ok (.iadd, 1) := by decide +kernel
theorem dL_law_764 : decode cL_law 764 = .ok (.iaload, 1) := by decide +kernel
theorem dL_law_765 : decode cL_law 765 = .ok (.invokevirtual 95, 3) := by decide +kernel
theorem dL_law_768 : decode cL_law 768 = .ok (.if_icmp .eq 315, 3) := by decide +kernel
theorem dL_law_771 : decode cL_law 771 = .ok (.iconst 0, 1) := by decide +kernel
theorem dL_law_772 : decode cL_law 772 = .ok (.ireturn, 1) := by decide +kernel
theorem dL_law_773 : decode cL_law 773 = .ok (.aload_n 1, 1) := by decide +kernel
theorem dL_law_774 : decode cL_law 774 = .ok (.invokevirtual 96, 3) := by decide +kernel
theorem dL_law_777 : decode cL_law 777 = .ok (.aload_n 2, 1) := by decide +kernel
theorem dL_law_778 : decode cL_law 778 = .ok (.invokevirtual 99, 3) := by decide +kernel
theorem dL_law_781 : decode cL_law 781 = .ok (.if_icmp .eq 302, 3) := by decide +kernel
theorem dL_law_784 : decode cL_law 784 = .ok (.iconst 0, 1) := by decide +kernel
theorem dL_law_785 : decode cL_law 785 = .ok (.ireturn, 1) := by decide +kernel
theorem dL_law_786 : decode cL_law 786 = .ok (.aload_n 1, 1) := by decide +kernel
theorem dL_law_787 : decode cL_law 787 = .ok (.invokevirtual 100, 3) := by decide +kernel
theorem dL_law_790 : decode cL_law 790 = .ok (.aload_n 2, 1) := by decide +kernel
theorem dL_law_791 : decode cL_law 791 = .ok (.invokevirtual 103, 3) := by decide +kernel
theorem dL_law_794 : decode cL_law 794 = .ok (.if_icmp .eq 289, 3) := by decide +kernel
theorem dL_law_797 : decode cL_law 797 = .ok (.iconst 0, 1) := by decide +kernel
theorem dL_law_798 : decode cL_law 798 = .ok (.ireturn, 1) := by decide +kernel
theorem dL_law_799 : decode cL_law 799 = .ok (.aload_n 1, 1) := by decide +kernel
theorem dL_law_800 : decode cL_law 800 = .ok (.invokevirtual 104, 3) := by decide +kernel
theorem dL_law_803 : decode cL_law 803 = .ok (.aload_n 2, 1) := by decide +kernel
theorem dL_law_804 : decode cL_law 804 = .ok (.invokevirtual 107, 3) := by decide +kernel
theorem dL_law_807 : decode cL_law 807 = .ok (.if_icmp .eq 276, 3) := by decide +kernel
theorem dL_law_810 : decode cL_law 810 = .ok (.iconst 0, 1) := by decide +kernel
theorem dL_law_811 : decode cL_law 811 = .ok (.ireturn, 1) := by decide +kernel
theorem dL_law_812 : decode cL_law 812 = .ok (.aload_n 1, 1) := by decide +kernel
theorem dL_law_813 : decode cL_law 813 = .ok (.aload_n 0, 1) := by decide +kernel
theorem dL_law_814 : decode cL_law 814 = .ok (.iload_n 3, 1) := by decide +kernel
theorem dL_law_815 : decode cL_law 815 = .ok (.iconst 1, 1) := by decide +kernel
theorem dL_law_816 : decode cL_law 816 = .ok (.iadd, 1) := by decide +kernel
theorem dL_law_817 : decode cL_law 817 = .ok (.iaload, 1) := by decide +kernel
theorem dL_law_818 : decode cL_law 818 = .ok (.aload_n 0, 1) := by decide +kernel
theorem dL_law_819 : decode cL_law 819 = .ok (.iload_n 3, 1) := by decide +kernel
theorem dL_law_820 : decode cL_law 820 = .ok (.iconst 2, 1) := by decide +kernel
theorem dL_law_821 : decode cL_law 821 = .ok (.iadd, 1) := by decide +kernel
theorem dL_law_822 : decode cL_law 822 = .ok (.iaload, 1) := by decide +kernel
theorem dL_law_823 : decode cL_law 823 = .ok (.aload_n 0, 1) := by decide +kernel
theorem dL_law_824 : decode cL_law 824 = .ok (.iload_n 3, 1) := by decide +kernel
theorem dL_law_825 : decode cL_law 825 = .ok (.iconst 3, 1) := by decide +kernel
theorem dL_law_826 : decode cL_law 826 = .ok (.iadd, 1) := by decide +kernel
theorem dL_law_827 : decode cL_law 827 = .ok (.iaload, 1) := by decide +kernel
theorem dL_law_828 : decode cL_law 828 = .ok (.invokevirtual 108, 3) := by decide +kernel
theorem dL_law_831 : decode cL_law 831 = .ok (.aload_n 2, 1) := by decide +kernel
theorem dL_law_832 : decode cL_law 832 = .ok (.aload_n 0, 1) := by decide +kernel
theorem dL_law_833 : decode cL_law 833 = .ok (.iload_n 3, 1) := by decide +kernel
theorem dL_law_834 : decode cL_law 834 = .ok (.iconst 1, 1) := by decide +kernel
theorem dL_law_835 : decode cL_law 835 = .ok (.iadd, 1) := by decide +kernel
theorem dL_law_836 : decode cL_law 836 = .ok (.iaload, 1) := by decide +kernel
theorem dL_law_837 : decode cL_law 837 = .ok (.aload_n 0, 1) := by decide +kernel
theorem dL_law_838 : decode cL_law 838 = .ok (.iload_n 3, 1) := by decide +kernel
theorem dL_law_839 : decode cL_law 839 = .ok (.iconst 2, 1) := by decide +kernel
theorem dL_law_840 : decode cL_law 840 = .ok (.iadd, 1) := by decide +kernel
theorem dL_law_841 : decode cL_law 841 = .ok (.iaload, 1) := by decide +kernel
theorem dL_law_842 : decode cL_law 842 = .ok (.aload_n 0, 1) := by decide +kernel
theorem dL_law_843 : decode cL_law 843 = .ok (.iload_n 3, 1) := by decide +kernel
theorem dL_law_844 : decode cL_law 844 = .ok (.iconst 3, 1) := by decide +kernel
theorem dL_law_845 : decode cL_law 845 = .ok (.iadd, 1) := by decide +kernel
theorem dL_law_846 : decode cL_law 846 = .ok (.iaload, 1) := by decide +kernel
theorem dL_law_847 : decode cL_law 847 = .ok (.invokevirtual 111, 3) := by decide +kernel
theorem dL_law_850 : decode cL_law 850 = .ok (.if_icmp .eq 233, 3) := by decide +kernel
theorem dL_law_853 : decode cL_law 853 = .ok (.iconst 0, 1) := by decide +kernel
theorem dL_law_854 : decode cL_law 854 = .ok (.ireturn, 1) := by decide +kernel
theorem dL_law_855 : decode cL_law 855 = .ok (.aload_n 1, 1) := by decide +kernel
theorem dL_law_856 : decode cL_law 856 = .ok (.aload_n 0, 1) := by decide +kernel
theorem dL_law_857 : decode cL_law 857 = .ok (.iload_n 3, 1) := by decide +kernel
theorem dL_law_858 : decode cL_law 858 = .ok (.iconst 1, 1) := by decide +kernel
theorem dL_law_859 : decode cL_law 859 = .ok (.iadd, 1) := by decide +kernel
theorem dL_law_860 : decode cL_law 860 = .ok (.iaload, 1) := by decide +kernel
theorem dL_law_861 : decode cL_law 861 = .ok (.invokevirtual 112, 3) := by decide +kernel
theorem dL_law_864 : decode cL_law 864 = .ok (.aload_n 2, 1) := by decide +kernel
theorem dL_law_865 : decode cL_law 865 = .ok (.aload_n 0, 1) := by decide +kernel
theorem dL_law_866 : decode cL_law 866 = .ok (.iload_n 3, 1) := by decide +kernel
theorem dL_law_867 : decode cL_law 867 = .ok (.iconst 1, 1) := by decide +kernel
theorem dL_law_868 : decode cL_law 868 = .ok (.iadd, 1) := by decide +kernel
theorem dL_law_869 : decode cL_law 869 = .ok (.iaload, 1) := by decide +kernel
theorem dL_law_870 : decode cL_law 870 = .ok (.invokevirtual 115, 3) := by decide +kernel
theorem dL_law_873 : decode cL_law 873 = .ok (.if_icmp .eq 210, 3) := by decide +kernel
theorem dL_law_876 : decode cL_law 876 = .ok (.iconst 0, 1) := by decide +kernel
theorem dL_law_877 : decode cL_law 877 = .ok (.ireturn, 1) := by decide +kernel
theorem dL_law_878 : decode cL_law 878 = .ok (.aload_n 1, 1) := by decide +kernel
theorem dL_law_879 : decode cL_law 879 = .ok (.aload_n 0, 1) := by decide +kernel
theorem dL_law_880 : decode cL_law 880 = .ok (.iload_n 3, 1) := by decide +kernel
theorem dL_law_881 : decode cL_law 881 = .ok (.iconst 1, 1) := by decide +kernel
theorem dL_law_882 : decode cL_law 882 = .ok (.iadd, 1) := by decide +kernel
theorem dL_law_883 : decode cL_law 883 = .ok (.iaload, 1) := by decide +kernel
theorem dL_law_884 : decode cL_law 884 = .ok (.aload_n 0, 1) := by decide +kernel
theorem dL_law_885 : decode cL_law 885 = .ok (.iload_n 3, 1) := by decide +kernel
theorem dL_law_886 : decode cL_law 886 = .ok (.iconst 2, 1) := by decide +kernel
theorem dL_law_887 : decode cL_law 887 = .ok (.iadd, 1) := by decide +kernel
theorem dL_law_888 : decode cL_law 888 = .ok (.iaload, 1) := by decide +kernel
theorem dL_law_889 : decode cL_law 889 = .ok (.aload_n 0, 1) := by decide +kernel
theorem dL_law_890 : decode cL_law 890 = .ok (.iload_n 3, 1) := by decide +kernel
theorem dL_law_891 : decode cL_law 891 = .ok (.iconst 3, 1) := by decide +kernel
theorem dL_law_892 : decode cL_law 892 = .ok (.iadd, 1) := by decide +kernel
theorem dL_law_893 : decode cL_law 893 = .ok (.iaload, 1) := by decide +kernel
theorem dL_law_894 : decode cL_law 894 = .ok (.aload_n 0, 1) := by decide +kernel
theorem dL_law_895 : decode cL_law 895 = .ok (.iload_n 3, 1) := by decide +kernel
theorem dL_law_896 : decode cL_law 896 = .ok (.iconst 4, 1) := by decide +kernel
theorem dL_law_897 : decode cL_law 897 = .ok (.iadd, 1) := by decide +kernel
theorem dL_law_898 : decode cL_law 898 = .ok (.iaload, 1) := by decide +kernel
theorem dL_law_899 : decode cL_law 899 = .ok (.invokevirtual 116, 3) := by decide +kernel
theorem dL_law_902 : decode cL_law 902 = .ok (.aload_n 2, 1) := by decide +kernel
theorem dL_law_903 : decode cL_law 903 = .ok (.aload_n 0, 1) := by decide +kernel
theorem dL_law_904 : decode cL_law 904 = .ok (.iload_n 3, 1) := by decide +kernel
theorem dL_law_905 : decode cL_law 905 = .ok (.iconst 1, 1) := by decide +kernel
theorem dL_law_906 : decode cL_law 906 = .ok (.iadd, 1) := by decide +kernel
theorem dL_law_907 : decode cL_law 907 = .ok (.iaload, 1) := by decide +kernel
theorem dL_law_908 : decode cL_law 908 = .ok (.aload_n 0, 1) := by decide +kernel
theorem dL_law_909 : decode cL_law 909 = .ok (.iload_n 3, 1) := by decide +kernel
theorem dL_law_910 : decode cL_law 910 = .ok (.iconst 2, 1) := by decide +kernel
theorem dL_law_911 : decode cL_law 911 = .ok (.iadd, 1) := by decide +kernel
theorem dL_law_912 : decode cL_law 912 = .ok (.iaload, 1) := by decide +kernel
theorem dL_law_913 : decode cL_law 913 = .ok (.aload_n 0, 1) := by decide +kernel
theorem dL_law_914 : decode cL_law 914 = .ok (.iload_n 3, 1) := by decide +kernel
theorem dL_law_915 : decode cL_law 915 = .ok (.iconst 3, 1) := by decide +kernel
theorem dL_law_916 : decode cL_law 916 = .ok (.iadd, 1) := by decide +kernel
theorem dL_law_917 : decode cL_law 917 = .ok (.iaload, 1) := by decide +kernel
theorem dL_law_918 : decode cL_law 918 = .ok (.aload_n 0, 1) := by decide +kernel
theorem dL_law_919 : decode cL_law 919 = .ok (.iload_n 3, 1) := by decide +kernel
theorem dL_law_920 : decode cL_law 920 = .ok (.iconst 4, 1) := by decide +kernel
theorem dL_law_921 : decode cL_law 921 = .ok (.iadd, 1) := by decide +kernel
theorem dL_law_922 : decode cL_law 922 = .ok (.iaload, 1) := by decide +kernel
theorem dL_law_923 : decode cL_law 923 = .ok (.invokevirtual 120, 3) := by decide +kernel
theorem dL_law_926 : decode cL_law 926 = .ok (.if_icmp .eq 157, 3) := by decide +kernel
theorem dL_law_929 : decode cL_law 929 = .ok (.iconst 0, 1) := by decide +kernel
theorem dL_law_930 : decode cL_law 930 = .ok (.ireturn, 1) := by decide +kernel
theorem dL_law_931 : decode cL_law 931 = .ok (.aload_n 1, 1) := by decide +kernel
theorem dL_law_932 : decode cL_law 932 = .ok (.aload_n 0, 1) := by decide +kernel
theorem dL_law_933 : decode cL_law 933 = .ok (.iload_n 3, 1) := by decide +kernel
theorem dL_law_934 : decode cL_law 934 = .ok (.iconst 1, 1) := by decide +kernel
theorem dL_law_935 : decode cL_law 935 = .ok (.iadd, 1) := by decide +kernel
theorem dL_law_936 : decode cL_law 936 = .ok (.iaload, 1) := by decide +kernel
theorem dL_law_937 : decode cL_law 937 = .ok (.invokevirtual 121, 3) := by decide +kernel
theorem dL_law_940 : decode cL_law 940 = .ok (.aload_n 2, 1) := by decide +kernel
theorem dL_law_941 : decode cL_law 941 = .ok (.aload_n 0, 1) := by decide +kernel
theorem dL_law_942 : decode cL_law 942 = .ok (.iload_n 3, 1) := by decide +kernel
theorem dL_law_943 : decode cL_law 943 = .ok (.iconst 1, 1) := by decide +kernel
theorem dL_law_944 : decode cL_law 944 = .ok (.iadd, 1) := by decide +kernel
theorem dL_law_945 : decode cL_law 945 = .ok (.iaload, 1) := by decide +kernel
theorem dL_law_946 : decode cL_law 946 = .ok (.invokevirtual 124, 3) := by decide +kernel
theorem dL_law_949 : decode cL_law 949 = .ok (.if_icmp .eq 134, 3) := by decide +kernel
theorem dL_law_952 : decode cL_law 952 = .ok (.iconst 0, 1) := by decide +kernel
theorem dL_law_953 : decode cL_law 953 = .ok (.ireturn, 1) := by decide +kernel
theorem dL_law_954 : decode cL_law 954 = .ok (.aload_n 1, 1) := by decide +kernel
theorem dL_law_955 : decode cL_law 955 = .ok (.aload_n 0, 1) := by decide +kernel
theorem dL_law_956 : decode cL_law 956 = .ok (.iload_n 3, 1) := by decide +kernel
theorem dL_law_957 : decode cL_law 957 = .ok (.iconst 1, 1) := by decide +kernel
theorem dL_law_958 : decode cL_law 958 = .ok (.iadd, 1) := by decide +kernel
theorem dL_law_959 : decode cL_law 959 = .ok (.iaload, 1) := by decide +kernel
theorem dL_law_960 : decode cL_law 960 = .ok (.invokevirtual 125, 3) := by decide +kernel
theorem dL_law_963 : decode cL_law 963 = .ok (.aload_n 2, 1) := by decide +kernel
theorem dL_law_964 : decode cL_law 964 = .ok (.aload_n 0, 1) := by decide +kernel
theorem dL_law_965 : decode cL_law 965 = .ok (.iload_n 3, 1) := by decide +kernel
theorem dL_law_966 : decode cL_law 966 = .ok (.iconst 1, 1) := by decide +kernel
theorem dL_law_967 : decode cL_law 967 = .ok (.iadd, 1) := by decide +kernel
theorem dL_law_968 : decode cL_law 968 = .ok (.iaload, 1) := by decide +kernel
theorem dL_law_969 : decode cL_law 969 = .ok (.invokevirtual 128, 3) := by decide +kernel
theorem dL_law_972 : decode cL_law 972 = .ok (.if_icmp .eq 111, 3) := by decide +kernel
theorem dL_law_975 : decode cL_law 975 = .ok (.iconst 0, 1) := by decide +kernel
theorem dL_law_976 : decode cL_law 976 = .ok (.ireturn, 1) := by decide +kernel
theorem dL_law_977 : decode cL_law 977 = .ok (.aload_n 1, 1) := by decide +kernel
theorem dL_law_978 : decode cL_law 978 = .ok (.aload_n 0, 1) := by decide +kernel
theorem dL_law_979 : decode cL_law 979 = .ok (.iload_n 3, 1) := by decide +kernel
theorem dL_law_980 : decode cL_law 980 = .ok (.iconst 1, 1) := by decide +kernel
theorem dL_law_981 : decode cL_law 981 = .ok (.iadd, 1) := by decide +kernel
theorem dL_law_982 : decode cL_law 982 = .ok (.iaload, 1) := by decide +kernel
theorem dL_law_983 : decode cL_law 983 = .ok (.invokevirtual 129, 3) := by decide +kernel
theorem dL_law_986 : decode cL_law 986 = .ok (.aload_n 2, 1) := by decide +kernel
theorem dL_law_987 : decode cL_law 987 = .ok (.aload_n 0, 1) := by decide +kernel
theorem dL_law_988 : decode cL_law 988 = .ok (.iload_n 3, 1) := by decide +kernel
theorem dL_law_989 : decode cL_law 989 = .ok (.iconst 1, 1) := by decide +kernel
theorem dL_law_990 : decode cL_law 990 = .ok (.iadd, 1) := by decide +kernel
theorem dL_law_991 : decode cL_law 991 = .ok (.iaload, 1) := by decide +kernel
theorem dL_law_992 : decode cL_law 992 = .ok (.invokevirtual 132, 3) := by decide +kernel
theorem dL_law_995 : decode cL_law 995 = .ok (.if_icmp .eq 88, 3) := by decide +kernel
theorem dL_law_998 : decode cL_law 998 = .ok (.iconst 0, 1) := by decide +kernel
theorem dL_law_999 : decode cL_law 999 = .ok (.ireturn, 1) := by decide +kernel
theorem dL_law_1000 : decode cL_law 1000 = .ok (.aload_n 1, 1) := by decide +kernel
theorem dL_law_1001 : decode cL_law 1001 = .ok (.aload_n 0, 1) := by decide +kernel
theorem dL_law_1002 : decode cL_law 1002 = .ok (.iload_n 3, 1) := by decide +kernel
theorem dL_law_1003 : decode cL_law 1003 = .ok (.iconst 1, 1) := by decide +kernel
theorem dL_law_1004 : decode cL_law 1004 = .ok (.iadd, 1) := by decide +kernel
theorem dL_law_1005 : decode cL_law 1005 = .ok (.iaload, 1) := by decide +kernel
theorem dL_law_1006 : decode cL_law 1006 = .ok (.invokevirtual 133, 3) := by decide +kernel
theorem dL_law_1009 : decode cL_law 1009 = .ok (.aload_n 2, 1) := by decide +kernel
theorem dL_law_1010 : decode cL_law 1010 = .ok (.aload_n 0, 1) := by decide +kernel
theorem dL_law_1011 : decode cL_law 1011 = .ok (.iload_n 3, 1) := by decide +kernel
theorem dL_law_1012 : decode cL_law 1012 = .ok (.iconst 1, 1) := by decide +kernel
theorem dL_law_1013 : decode cL_law 1013 = .ok (.iadd, 1) := by decide +kernel
theorem dL_law_1014 : decode cL_law 1014 = .ok (.iaload, 1) := by decide +kernel
theorem dL_law_1015 : decode cL_law 1015 = .ok (.invokevirtual 136, 3) := by decide +kernel
theorem dL_law_1018 : decode cL_law 1018 = .ok (.if_icmp .eq 65, 3) := by decide +kernel
theorem dL_law_1021 : decode cL_law 1021 = .ok (.iconst 0, 1) := by decide +kernel
theorem dL_law_1022 : decode cL_law 1022 = .ok (.ireturn, 1) := by decide +kernel
theorem dL_law_1023 : decode cL_law 1023 = .ok (.aload_n 1, 1) := by decide +kernel
theorem dL_law_1024 : decode cL_law 1024 = .ok (.aload_n 0, 1) := by decide +kernel
theorem dL_law_1025 : decode cL_law 1025 = .ok (.iload_n 3, 1) := by decide +kernel
theorem dL_law_1026 : decode cL_law 1026 = .ok (.iconst 1, 1) := by decide +kernel
theorem dL_law_1027 : decode cL_law 1027 = .ok (.iadd, 1) := by decide +kernel
theorem dL_law_1028 : decode cL_law 1028 = .ok (.iaload, 1) := by decide +kernel
theorem dL_law_1029 : decode cL_law 1029 = .ok (.invokevirtual 137, 3) := by decide +kernel
theorem dL_law_1032 : decode cL_law 1032 = .ok (.aload_n 2, 1) := by decide +kernel
theorem dL_law_1033 : decode cL_law 1033 = .ok (.aload_n 0, 1) := by decide +kernel
theorem dL_law_1034 : decode cL_law 1034 = .ok (.iload_n 3, 1) := by decide +kernel
theorem dL_law_1035 : decode cL_law 1035 = .ok (.iconst 1, 1) := by decide +kernel
theorem dL_law_1036 : decode cL_law 1036 = .ok (.iadd, 1) := by decide +kernel
theorem dL_law_1037 : decode cL_law 1037 = .ok (.iaload, 1) := by decide +kernel
theorem dL_law_1038 : decode cL_law 1038 = .ok (.invokevirtual 140, 3) := by decide +kernel
theorem dL_law_1041 : decode cL_law 1041 = .ok (.if_icmp .eq 42, 3) := by decide +kernel
theorem dL_law_1044 : decode cL_law 1044 = .ok (.iconst 0, 1) := by decide +kernel
theorem dL_law_1045 : decode cL_law 1045 = .ok (.ireturn, 1) := by decide +kernel
theorem dL_law_1046 : decode cL_law 1046 = .ok (.aload_n 1, 1) := by decide +kernel
theorem dL_law_1047 : decode cL_law 1047 = .ok (.aload_n 0, 1) := by decide +kernel
theorem dL_law_1048 : decode cL_law 1048 = .ok (.iload_n 3, 1) := by decide +kernel
theorem dL_law_1049 : decode cL_law 1049 = .ok (.iconst 1, 1) := by decide +kernel
theorem dL_law_1050 : decode cL_law 1050 = .ok (.iadd, 1) := by decide +kernel
theorem dL_law_1051 : decode cL_law 1051 = .ok (.iaload, 1) := by decide +kernel
theorem dL_law_1052 : decode cL_law 1052 = .ok (.invokevirtual 141, 3) := by decide +kernel
theorem dL_law_1055 : decode cL_law 1055 = .ok (.aload_n 2, 1) := by decide +kernel
theorem dL_law_1056 : decode cL_law 1056 = .ok (.aload_n 0, 1) := by decide +kernel
theorem dL_law_1057 : decode cL_law 1057 = .ok (.iload_n 3, 1) := by decide +kernel
theorem dL_law_1058 : decode cL_law 1058 = .ok (.iconst 1, 1) := by decide +kernel
theorem dL_law_1059 : decode cL_law 1059 = .ok (.iadd, 1) := by decide +kernel
theorem dL_law_1060 : decode cL_law 1060 = .ok (.iaload, 1) := by decide +kernel
theorem dL_law_1061 : decode cL_law 1061 = .ok (.invokevirtual 144, 3) := by decide +kernel
theorem dL_law_1064 : decode cL_law 1064 = .ok (.if_icmp .eq 19, 3) := by decide +kernel
theorem dL_law_1067 : decode cL_law 1067 = .ok (.iconst 0, 1) := by decide +kernel
theorem dL_law_1068 : decode cL_law 1068 = .ok (.ireturn, 1) := by decide +kernel
theorem dL_law_1069 : decode cL_law 1069 = .ok (.aload_n 1, 1) := by decide +kernel
theorem dL_law_1070 : decode cL_law 1070 = .ok (.invokevirtual 145, 3) := by decide +kernel
theorem dL_law_1073 : decode cL_law 1073 = .ok (.aload_n 2, 1) := by decide +kernel
theorem dL_law_1074 : decode cL_law 1074 = .ok (.invokevirtual 149, 3) := by decide +kernel
theorem dL_law_1077 : decode cL_law 1077 = .ok (.lcmp, 1) := by decide +kernel
theorem dL_law_1078 : decode cL_law 1078 = .ok (.ifCond .eq 5, 3) := by decide +kernel
theorem dL_law_1081 : decode cL_law 1081 = .ok (.iconst 0, 1) := by decide +kernel
theorem dL_law_1082 : decode cL_law 1082 = .ok (.ireturn, 1) := by decide +kernel
theorem dL_law_1083 : decode cL_law 1083 = .ok (.iinc 3 5, 3) := by decide +kernel
theorem dL_law_1086 : decode cL_law 1086 = .ok (.goto (-1068), 3) := by decide +kernel
theorem dL_law_1089 : decode cL_law 1089 = .ok (.iconst 1, 1) := by decide +kernel
theorem dL_law_1090 : decode cL_law 1090 = .ok (.ireturn, 1) := by decide +kernel
