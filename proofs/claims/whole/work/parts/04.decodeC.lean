theorem dX0_init_0 : decode cX0_init 0 = .ok (.aload_n 0, 1) := by decide +kernel
theorem dX0_init_1 : decode cX0_init 1 = .ok (.invokespecial 1, 3) := by decide +kernel
theorem dX0_init_4 : decode cX0_init 4 = .ok (.aload_n 0, 1) := by decide +kernel
theorem dX0_init_5 : decode cX0_init 5 = .ok (.sipush 18000, 3) := by decide +kernel
theorem dX0_init_8 : decode cX0_init 8 = .ok (.newarray .int, 2) := by decide +kernel
theorem dX0_init_10 : decode cX0_init 10 = .ok (.putfield 9, 3) := by decide +kernel
theorem dX0_init_13 : decode cX0_init 13 = .ok (.return_, 1) := by decide +kernel
theorem dX0_emptyFor_0 : decode cX0_emptyFor 0 = .ok (.aload_n 0, 1) := by decide +kernel
theorem dX0_emptyFor_1 : decode cX0_emptyFor 1 = .ok (.iconst 0, 1) := by decide +kernel
theorem dX0_emptyFor_2 : decode cX0_emptyFor 2 = .ok (.putfield 15, 3) := by decide +kernel
theorem dX0_emptyFor_5 : decode cX0_emptyFor 5 = .ok (.aload_n 0, 1) := by decide +kernel
theorem dX0_emptyFor_6 : decode cX0_emptyFor 6 = .ok (.iconst 0, 1) := by decide +kernel
theorem dX0_emptyFor_7 : decode cX0_emptyFor 7 = .ok (.putfield 19, 3) := by decide +kernel
theorem dX0_emptyFor_10 : decode cX0_emptyFor 10 = .ok (.aload_n 0, 1) := by decide +kernel
theorem dX0_emptyFor_11 : decode cX0_emptyFor 11 = .ok (.iload_n 1, 1) := by decide +kernel
theorem dX0_emptyFor_12 : decode cX0_emptyFor 12 = .ok (.putfield 22, 3) := by decide +kernel
theorem dX0_emptyFor_15 : decode cX0_emptyFor 15 = .ok (.aload_n 0, 1) := by decide +kernel
theorem dX0_emptyFor_16 : decode cX0_emptyFor 16 = .ok (.iload_n 1, 1) := by decide +kernel
theorem dX0_emptyFor_17 : decode cX0_emptyFor 17 = .ok (.putfield 25, 3) := by decide +kernel
theorem dX0_emptyFor_20 : decode cX0_emptyFor 20 = .ok (.return_, 1) := by decide +kernel
theorem dX0_isEmpty_0 : decode cX0_isEmpty 0 = .ok (.aload_n 0, 1) := by decide +kernel
theorem dX0_isEmpty_1 : decode cX0_isEmpty 1 = .ok (.getfield 19, 3) := by decide +kernel
theorem dX0_isEmpty_4 : decode cX0_isEmpty 4 = .ok (.ifCond .ne 7, 3) := by decide +kernel
theorem dX0_isEmpty_7 : decode cX0_isEmpty 7 = .ok (.iconst 1, 1) := by decide +kernel
theorem dX0_isEmpty_8 : decode cX0_isEmpty 8 = .ok (.goto 4, 3) := by decide +kernel
theorem dX0_isEmpty_11 : decode cX0_isEmpty 11 = .ok (.iconst 0, 1) := by decide +kernel
theorem dX0_isEmpty_12 : decode cX0_isEmpty 12 = .ok (.ireturn, 1) := by decide +kernel
theorem dX0_put_0 : decode cX0_put 0 = .ok (.aload_n 0, 1) := by decide +kernel
theorem dX0_put_1 : decode cX0_put 1 = .ok (.getfield 19, 3) := by decide +kernel
theorem dX0_put_4 : decode cX0_put 4 = .ok (.aload_n 0, 1) := by decide +kernel
theorem dX0_put_5 : decode cX0_put 5 = .ok (.getfield 9, 3) := by decide +kernel
theorem dX0_put_8 : decode cX0_put 8 = .ok (.arraylength, 1) := by decide +kernel
theorem dX0_put_9 : decode cX0_put 9 = .ok (.if_icmp .ge 34, 3) := by decide +kernel
theorem dX0_put_12 : decode cX0_put 12 = .ok (.aload_n 0, 1) := by decide +kernel
theorem dX0_put_13 : decode cX0_put 13 = .ok (.getfield 9, 3) := by decide +kernel
theorem dX0_put_16 : decode cX0_put 16 = .ok (.aload_n 0, 1) := by decide +kernel
theorem dX0_put_17 : decode cX0_put 17 = .ok (.getfield 15, 3) := by decide +kernel
theorem dX0_put_20 : decode cX0_put 20 = .ok (.aload_n 0, 1) := by decide +kernel
theorem dX0_put_21 : decode cX0_put 21 = .ok (.getfield 19, 3) := by decide +kernel
theorem dX0_put_24 : decode cX0_put 24 = .ok (.iadd, 1) := by decide +kernel
theorem dX0_put_25 : decode cX0_put 25 = .ok (.aload_n 0, 1) := by decide +kernel
theorem dX0_put_26 : decode cX0_put 26 = .ok (.getfield 9, 3) := by decide +kernel
theorem dX0_put_29 : decode cX0_put 29 = .ok (.arraylength, 1) := by decide +kernel
theorem dX0_put_30 : decode cX0_put 30 = .ok (.irem, 1) := by decide +kernel
theorem dX0_put_31 : decode cX0_put 31 = .ok (.iload_n 1, 1) := by decide +kernel
theorem dX0_put_32 : decode cX0_put 32 = .ok (.iastore, 1) := by decide +kernel
theorem dX0_put_33 : decode cX0_put 33 = .ok (.aload_n 0, 1) := by decide +kernel
theorem dX0_put_34 : decode cX0_put 34 = .ok (.dup, 1) := by decide +kernel
theorem dX0_put_35 : decode cX0_put 35 = .ok (.getfield 19, 3) := by decide +kernel
theorem dX0_put_38 : decode cX0_put 38 = .ok (.iconst 1, 1) := by decide +kernel
theorem dX0_put_39 : decode cX0_put 39 = .ok (.iadd, 1) := by decide +kernel
theorem dX0_put_40 : decode cX0_put 40 = .ok (.putfield 19, 3) := by decide +kernel
theorem dX0_put_43 : decode cX0_put 43 = .ok (.return_, 1) := by decide +kernel
theorem dX0_take_0 : decode cX0_take 0 = .ok (.aload_n 0, 1) := by decide +kernel
theorem dX0_take_1 : decode cX0_take 1 = .ok (.getfield 15, 3) := by decide +kernel
theorem dX0_take_4 : decode cX0_take 4 = .ok (.istore_n 1, 1) := by decide +kernel
theorem dX0_take_5 : decode cX0_take 5 = .ok (.aload_n 0, 1) := by decide +kernel
theorem dX0_take_6 : decode cX0_take 6 = .ok (.getfield 15, 3) := by decide +kernel
theorem dX0_take_9 : decode cX0_take 9 = .ok (.aload_n 0, 1) := by decide +kernel
theorem dX0_take_10 : decode cX0_take 10 = .ok (.getfield 19, 3) := by decide +kernel
theorem dX0_take_13 : decode cX0_take 13 = .ok (.iadd, 1) := by decide +kernel
theorem dX0_take_14 : decode cX0_take 14 = .ok (.iconst 1, 1) := by decide +kernel
theorem dX0_take_15 : decode cX0_take 15 = .ok (.isub, 1) := by decide +kernel
theorem dX0_take_16 : decode cX0_take 16 = .ok (.aload_n 0, 1) := by decide +kernel
theorem dX0_take_17 : decode cX0_take 17 = .ok (.getfield 9, 3) := by decide +kernel
theorem dX0_take_20 : decode cX0_take 20 = .ok (.arraylength, 1) := by decide +kernel
theorem dX0_take_21 : decode cX0_take 21 = .ok (.irem, 1) := by decide +kernel
theorem dX0_take_22 : decode cX0_take 22 = .ok (.istore_n 2, 1) := by decide +kernel
theorem dX0_take_23 : decode cX0_take 23 = .ok (.aload_n 0, 1) := by decide +kernel
theorem dX0_take_24 : decode cX0_take 24 = .ok (.dup, 1) := by decide +kernel
theorem dX0_take_25 : decode cX0_take 25 = .ok (.getfield 19, 3) := by decide +kernel
theorem dX0_take_28 : decode cX0_take 28 = .ok (.iconst 1, 1) := by decide +kernel
theorem dX0_take_29 : decode cX0_take 29 = .ok (.isub, 1) := by decide +kernel
theorem dX0_take_30 : decode cX0_take 30 = .ok (.putfield 19, 3) := by decide +kernel
theorem dX0_take_33 : decode cX0_take 33 = .ok (.aload_n 0, 1) := by decide +kernel
theorem dX0_take_34 : decode cX0_take 34 = .ok (.getfield 22, 3) := by decide +kernel
theorem dX0_take_37 : decode cX0_take 37 = .ok (.ifCond .ne 26, 3) := by decide +kernel
theorem dX0_take_40 : decode cX0_take 40 = .ok (.aload_n 0, 1) := by decide +kernel
theorem dX0_take_41 : decode cX0_take 41 = .ok (.aload_n 0, 1) := by decide +kernel
theorem dX0_take_42 : decode cX0_take 42 = .ok (.getfield 15, 3) := by decide +kernel
theorem dX0_take_45 : decode cX0_take 45 = .ok (.iconst 1, 1) := by decide +kernel
theorem dX0_take_46 : decode cX0_take 46 = .ok (.iadd, 1) := by decide +kernel
theorem dX0_take_47 : decode cX0_take 47 = .ok (.aload_n 0, 1) := by decide +kernel
theorem dX0_take_48 : decode cX0_take 48 = .ok (.getfield 9, 3) := by decide +kernel
theorem dX0_take_51 : decode cX0_take 51 = .ok (.arraylength, 1) := by decide +kernel
theorem dX0_take_52 : decode cX0_take 52 = .ok (.irem, 1) := by decide +kernel
theorem dX0_take_53 : decode cX0_take 53 = .ok (.putfield 15, 3) := by decide +kernel
theorem dX0_take_56 : decode cX0_take 56 = .ok (.aload_n 0, 1) := by decide +kernel
theorem dX0_take_57 : decode cX0_take 57 = .ok (.getfield 9, 3) := by decide +kernel
theorem dX0_take_60 : decode cX0_take 60 = .ok (.iload_n 1, 1) := by decide +kernel
theorem dX0_take_61 : decode cX0_take 61 = .ok (.iaload, 1) := by decide +kernel
theorem dX0_take_62 : decode cX0_take 62 = .ok (.ireturn, 1) := by decide +kernel
theorem dX0_take_63 : decode cX0_take 63 = .ok (.aload_n 0, 1) := by decide +kernel
theorem dX0_take_64 : decode cX0_take 64 = .ok (.getfield 22, 3) := by decide +kernel
theorem dX0_take_67 : decode cX0_take 67 = .ok (.iconst 1, 1) := by decide +kernel
theorem dX0_take_68 : decode cX0_take 68 = .ok (.if_icmp .ne 7, 3) := by decide +kernel
theorem dX0_take_71 : decode cX0_take 71 = .ok (.iload_n 2, 1) := by decide +kernel
theorem dX0_take_72 : decode cX0_take 72 = .ok (.goto 15, 3) := by decide +kernel
theorem dX0_take_75 : decode cX0_take 75 = .ok (.iload_n 1, 1) := by decide +kernel
theorem dX0_take_76 : decode cX0_take 76 = .ok (.aload_n 0, 1) := by decide +kernel
theorem dX0_take_77 : decode cX0_take 77 = .ok (.invokevirtual 28, 3) := by decide +kernel
theorem dX0_take_80 : decode cX0_take 80 = .ok (.iadd, 1) := by decide +kernel
theorem dX0_take_81 : decode cX0_take 81 = .ok (.aload_n 0, 1) := by decide +kernel
theorem dX0_take_82 : decode cX0_take 82 = .ok (.getfield 9, 3) := by decide +kernel
theorem dX0_take_85 : decode cX0_take 85 = .ok (.arraylength, 1) := by decide +kernel
theorem dX0_take_86 : decode cX0_take 86 = .ok (.irem, 1) := by decide +kernel
theorem dX0_take_87 : decode cX0_take 87 = .ok (.istore_n 3, 1) := by decide +kernel
theorem dX0_take_88 : decode cX0_take 88 = .ok (.aload_n 0, 1) := by decide +kernel
theorem dX0_take_89 : decode cX0_take 89 = .ok (.getfield 9, 3) := by decide +kernel
theorem dX0_take_92 : decode cX0_take 92 = .ok (.iload_n 3, 1) := by decide +kernel
theorem dX0_take_93 : decode cX0_take 93 = .ok (.iaload, 1) := by decide +kernel
theorem dX0_take_94 : decode cX0_take 94 = .ok (.istore 4, 2) := by decide +kernel
theorem dX0_take_96 : decode cX0_take 96 = .ok (.aload_n 0, 1) := by decide +kernel
theorem dX0_take_97 : decode cX0_take 97 = .ok (.getfield 9, 3) := by decide +kernel
theorem dX0_take_100 : decode cX0_take 100 = .ok (.iload_n 3, 1) := by decide +kernel
theorem dX0_take_101 : decode cX0_take 101 = .ok (.aload_n 0, 1) := by decide +kernel
theorem dX0_take_102 : decode cX0_take 102 = .ok (.getfield 9, 3) := by decide +kernel
theorem dX0_take_105 : decode cX0_take 105 = .ok (.iload_n 2, 1) := by decide +kernel
theorem dX0_take_106 : decode cX0_take 106 = .ok (.iaload, 1) := by decide +kernel
theorem dX0_take_107 : decode cX0_take 107 = .ok (.iastore, 1) := by decide +kernel
theorem dX0_take_108 : decode cX0_take 108 = .ok (.iload 4, 2) := by decide +kernel
theorem dX0_take_110 : decode cX0_take 110 = .ok (.ireturn, 1) := by decide +kernel
theorem dX0_chance_0 : decode cX0_chance 0 = .ok (.aload_n 0, 1) := by decide +kernel
theorem dX0_chance_1 : decode cX0_chance 1 = .ok (.aload_n 0, 1) := by decide +kernel
theorem dX0_chance_2 : decode cX0_chance 2 = .ok (.getfield 25, 3) := by decide +kernel
theorem dX0_chance_5 : decode cX0_chance 5 = .ok (.ldc 32, 2) := by decide +kernel
theorem dX0_chance_7 : decode cX0_chance 7 = .ok (.imul, 1) := by decide +kernel
theorem dX0_chance_8 : decode cX0_chance 8 = .ok (.sipush 12345, 3) := by decide +kernel
theorem dX0_chance_11 : decode cX0_chance 11 = .ok (.iadd, 1) := by decide +kernel
theorem dX0_chance_12 : decode cX0_chance 12 = .ok (.putfield 25, 3) := by decide +kernel
theorem dX0_chance_15 : decode cX0_chance 15 = .ok (.aload_n 0, 1) := by decide +kernel
theorem dX0_chance_16 : decode cX0_chance 16 = .ok (.getfield 25, 3) := by decide +kernel
theorem dX0_chance_19 : decode cX0_chance 19 = .ok (.bipush 8, 2) := by decide +kernel
theorem dX0_chance_21 : decode cX0_chance 21 = .ok (.iushr, 1) := by decide +kernel
theorem dX0_chance_22 : decode cX0_chance 22 = .ok (.aload_n 0, 1) := by decide +kernel
theorem dX0_chance_23 : decode cX0_chance 23 = .ok (.getfield 19, 3) := by decide +kernel
theorem dX0_chance_26 : decode cX0_chance 26 = .ok (.iconst 1, 1) := by decide +kernel
theorem dX0_chance_27 : decode cX0_chance 27 = .ok (.iadd, 1) := by decide +kernel
theorem dX0_chance_28 : decode cX0_chance 28 = .ok (.irem, 1) := by decide +kernel
theorem dX0_chance_29 : decode cX0_chance 29 = .ok (.ireturn, 1) := by decide +kernel
theorem dX1_init_0 : decode cX1_init 0 = .ok (.aload_n 0, 1) := by decide +kernel
theorem dX1_init_1 : decode cX1_init 1 = .ok (.invokespecial 3, 3) := by decide +kernel
theorem dX1_init_4 : decode cX1_init 4 = .ok (.aload_n 0, 1) := by decide +kernel
theorem dX1_init_5 : decode cX1_init 5 = .ok (.new 9, 3) := by decide +kernel
theorem dX1_init_8 : decode cX1_init 8 = .ok (.dup, 1) := by decide +kernel
theorem dX1_init_9 : decode cX1_init 9 = .ok (.invokespecial 11, 3) := by decide +kernel
theorem dX1_init_12 : decode cX1_init 12 = .ok (.putfield 12, 3) := by decide +kernel
theorem dX1_init_15 : decode cX1_init 15 = .ok (.aload_n 0, 1) := by decide +kernel
theorem dX1_init_16 : decode cX1_init 16 = .ok (.sipush 18000, 3) := by decide +kernel
theorem dX1_init_19 : decode cX1_init 19 = .ok (.newarray .int, 2) := by decide +kernel
theorem dX1_init_21 : decode cX1_init 21 = .ok (.putfield 18, 3) := by decide +kernel
theorem dX1_init_24 : decode cX1_init 24 = .ok (.aload_n 0, 1) := by decide +kernel
theorem dX1_init_25 : decode cX1_init 25 = .ok (.sipush 300, 3) := by decide +kernel
theorem dX1_init_28 : decode cX1_init 28 = .ok (.newarray .int, 2) := by decide +kernel
theorem dX1_init_30 : decode cX1_init 30 = .ok (.putfield 22, 3) := by decide +kernel
theorem dX1_init_33 : decode cX1_init 33 = .ok (.aload_n 0, 1) := by decide +kernel
theorem dX1_init_34 : decode cX1_init 34 = .ok (.sipush 300, 3) := by decide +kernel
theorem dX1_init_37 : decode cX1_init 37 = .ok (.newarray .int, 2) := by decide +kernel
theorem dX1_init_39 : decode cX1_init 39 = .ok (.putfield 25, 3) := by decide +kernel
theorem dX1_init_42 : decode cX1_init 42 = .ok (.aload_n 0, 1) := by decide +kernel
theorem dX1_init_43 : decode cX1_init 43 = .ok (.sipush 300, 3) := by decide +kernel
theorem dX1_init_46 : decode cX1_init 46 = .ok (.newarray .int, 2) := by decide +kernel
theorem dX1_init_48 : decode cX1_init 48 = .ok (.putfield 28, 3) := by decide +kernel
theorem dX1_init_51 : decode cX1_init 51 = .ok (.aload_n 0, 1) := by decide +kernel
theorem dX1_init_52 : decode cX1_init 52 = .ok (.new 31, 3) := by decide +kernel
theorem dX1_init_55 : decode cX1_init 55 = .ok (.dup, 1) := by decide +kernel
theorem dX1_init_56 : decode cX1_init 56 = .ok (.invokespecial 33, 3) := by decide +kernel
theorem dX1_init_59 : decode cX1_init 59 = .ok (.putfield 34, 3) := by decide +kernel
theorem dX1_init_62 : decode cX1_init 62 = .ok (.return_, 1) := by decide +kernel
theorem dX1_prepare_0 : decode cX1_prepare 0 = .ok (.aload_n 0, 1) := by decide +kernel
theorem dX1_prepare_1 : decode cX1_prepare 1 = .ok (.iload_n 1, 1) := by decide +kernel
theorem dX1_prepare_2 : decode cX1_prepare 2 = .ok (.putfield 38, 3) := by decide +kernel
theorem dX1_prepare_5 : decode cX1_prepare 5 = .ok (.aload_n 0, 1) := by decide +kernel
theorem dX1_prepare_6 : decode cX1_prepare 6 = .ok (.iload_n 2, 1) := by decide +kernel
theorem dX1_prepare_7 : decode cX1_prepare 7 = .ok (.putfield 42, 3) := by decide +kernel
theorem dX1_prepare_10 : decode cX1_prepare 10 = .ok (.aload_n 0, 1) := by decide +kernel
theorem dX1_prepare_11 : decode cX1_prepare 11 = .ok (.iload_n 3, 1) := by decide +kernel
theorem dX1_prepare_12 : decode cX1_prepare 12 = .ok (.sipush 300, 3) := by decide +kernel
theorem dX1_prepare_15 : decode cX1_prepare 15 = .ok (.invokestatic 45, 3) := by decide +kernel
theorem dX1_prepare_18 : decode cX1_prepare 18 = .ok (.putfield 51, 3) := by decide +kernel
theorem dX1_prepare_21 : decode cX1_prepare 21 = .ok (.aload_n 0, 1) := by decide +kernel
theorem dX1_prepare_22 : decode cX1_prepare 22 = .ok (.iconst 0, 1) := by decide +kernel
theorem dX1_prepare_23 : decode cX1_prepare 23 = .ok (.putfield 54, 3) := by decide +kernel
theorem dX1_prepare_26 : decode cX1_prepare 26 = .ok (.aload_n 0, 1) := by decide +kernel
theorem dX1_prepare_27 : decode cX1_prepare 27 = .ok (.iconst 0, 1) := by decide +kernel
theorem dX1_prepare_28 : decode cX1_prepare 28 = .ok (.putfield 58, 3) := by decide +kernel
theorem dX1_prepare_31 : decode cX1_prepare 31 = .ok (.aload_n 0, 1) := by decide +kernel
theorem dX1_prepare_32 : decode cX1_prepare 32 = .ok (.iconst 0, 1) := by decide +kernel
theorem dX1_prepare_33 : decode cX1_prepare 33 = .ok (.putfield 61, 3) := by decide +kernel
theorem dX1_prepare_36 : decode cX1_prepare 36 = .ok (.aload_n 0, 1) := by decide +kernel
theorem dX1_prepare_37 : decode cX1_prepare 37 = .ok (.getfield 12, 3) := by decide +kernel
theorem dX1_prepare_40 : decode cX1_prepare 40 = .ok (.iload 4, 2) := by decide +kernel
theorem dX1_prepare_42 : decode cX1_prepare 42 = .ok (.invokevirtual 64, 3) := by decide +kernel
theorem dX1_prepare_45 : decode cX1_prepare 45 = .ok (.return_, 1) := by decide +kernel
theorem dX1_workOutAll_0 : decode cX1_workOutAll 0 = .ok (.aload_n 0, 1) := by decide +kernel
theorem dX1_workOutAll_1 : decode cX1_workOutAll 1 = .ok (.iconst 0, 1) := by decide +kernel
theorem dX1_workOutAll_2 : decode cX1_workOutAll 2 = .ok (.iconst (-1), 1) := by decide +kernel
theorem dX1_workOutAll_3 : decode cX1_workOutAll 3 = .ok (.iconst (-1), 1) := by decide +kernel
theorem dX1_workOutAll_4 : decode cX1_workOutAll 4 = .ok (.invokevirtual 68, 3) := by decide +kernel
theorem dX1_workOutAll_7 : decode cX1_workOutAll 7 = .ok (.pop, 1) := by decide +kernel
theorem dX1_workOutAll_8 : decode cX1_workOutAll 8 = .ok (.iconst 0, 1) := by decide +kernel
theorem dX1_workOutAll_9 : decode cX1_workOutAll 9 = .ok (.istore_n 1, 1) := by decide +kernel
theorem dX1_workOutAll_10 : decode cX1_workOutAll 10 = .ok (.iload_n 1, 1) := by decide +kernel
theorem dX1_workOutAll_11 : decode cX1_workOutAll 11 = .ok (.ldc 72, 2) := by decide +kernel
theorem dX1_workOutAll_13 : decode cX1_workOutAll 13 = .ok (.if_icmp .ge 43, 3) := by decide +kernel
theorem dX1_workOutAll_16 : decode cX1_workOutAll 16 = .ok (.aload_n 0, 1) := by decide +kernel
theorem dX1_workOutAll_17 : decode cX1_workOutAll 17 = .ok (.getfield 54, 3) := by decide +kernel
theorem dX1_workOutAll_20 : decode cX1_workOutAll 20 = .ok (.ifCond .ne 36, 3) := by decide +kernel
theorem dX1_workOutAll_23 : decode cX1_workOutAll 23 = .ok (.aload_n 0, 1) := by decide +kernel
theorem dX1_workOutAll_24 : decode cX1_workOutAll 24 = .ok (.getfield 12, 3) := by decide +kernel
theorem dX1_workOutAll_27 : decode cX1_workOutAll 27 = .ok (.getfield 73, 3) := by decide +kernel
theorem dX1_workOutAll_30 : decode cX1_workOutAll 30 = .ok (.invokevirtual 77, 3) := by decide +kernel
theorem dX1_workOutAll_33 : decode cX1_workOutAll 33 = .ok (.ifCond .ne 23, 3) := by decide +kernel
theorem dX1_workOutAll_36 : decode cX1_workOutAll 36 = .ok (.aload_n 0, 1) := by decide +kernel
theorem dX1_workOutAll_37 : decode cX1_workOutAll 37 = .ok (.aload_n 0, 1) := by decide +kernel
theorem dX1_workOutAll_38 : decode cX1_workOutAll 38 = .ok (.getfield 12, 3) := by decide +kernel
theorem dX1_workOutAll_41 : decode cX1_workOutAll 41 = .ok (.getfield 73, 3) := by decide +kernel
theorem dX1_workOutAll_44 : decode cX1_workOutAll 44 = .ok (.invokevirtual 83, 3) := by decide +kernel
theorem dX1_workOutAll_47 : decode cX1_workOutAll 47 = .ok (.invokevirtual 87, 3) := by decide +kernel
theorem dX1_workOutAll_50 : decode cX1_workOutAll 50 = .ok (.iinc 1 1, 3) := by decide +kernel
theorem dX1_workOutAll_53 : decode cX1_workOutAll 53 = .ok (.goto (-43), 3) := by decide +kernel
theorem dX1_workOutAll_56 : decode cX1_workOutAll 56 = .ok (.aload_n 0, 1) := by decide +kernel
theorem dX1_workOutAll_57 : decode cX1_workOutAll 57 = .ok (.getfield 54, 3) := by decide +kernel
theorem dX1_workOutAll_60 : decode cX1_workOutAll 60 = .ok (.ifCond .eq 5, 3) := by decide +kernel
theorem dX1_workOutAll_63 : decode cX1_workOutAll 63 = .ok (.iconst 2, 1) := by decide +kernel
theorem dX1_workOutAll_64 : decode cX1_workOutAll 64 = .ok (.ireturn, 1) := by decide +kernel
theorem dX1_workOutAll_65 : decode cX1_workOutAll 65 = .ok (.aload_n 0, 1) := by decide +kernel
theorem dX1_workOutAll_66 : decode cX1_workOutAll 66 = .ok (.getfield 12, 3) := by decide +kernel
theorem dX1_workOutAll_69 : decode cX1_workOutAll 69 = .ok (.aload_n 0, 1) := by decide +kernel
theorem dX1_workOutAll_70 : decode cX1_workOutAll 70 = .ok (.iconst 0, 1) := by decide +kernel
theorem dX1_workOutAll_71 : decode cX1_workOutAll 71 = .ok (.invokevirtual 90, 3) := by decide +kernel
theorem dX1_workOutAll_74 : decode cX1_workOutAll 74 = .ok (.invokevirtual 94, 3) := by decide +kernel
theorem dX1_workOutAll_77 : decode cX1_workOutAll 77 = .ok (.ifCond .eq 7, 3) := by decide +kernel
theorem dX1_workOutAll_80 : decode cX1_workOutAll 80 = .ok (.iconst 0, 1) := by decide +kernel
theorem dX1_workOutAll_81 : decode cX1_workOutAll 81 = .ok (.goto 4, 3) := by decide +kernel
theorem dX1_workOutAll_84 : decode cX1_workOutAll 84 = .ok (.iconst 1, 1) := by decide +kernel
theorem dX1_workOutAll_85 : decode cX1_workOutAll 85 = .ok (.ireturn, 1) := by decide +kernel
theorem dX1_outcomeNumber_0 : decode cX1_outcomeNumber 0 = .ok (.aload_n 0, 1) := by decide +kernel
theorem dX1_outcomeNumber_1 : decode cX1_outcomeNumber 1 = .ok (.getfield 12, 3) := by decide +kernel
theorem dX1_outcomeNumber_4 : decode cX1_outcomeNumber 4 = .ok (.aload_n 0, 1) := by decide +kernel
theorem dX1_outcomeNumber_5 : decode cX1_outcomeNumber 5 = .ok (.iconst 0, 1) := by decide +kernel
theorem dX1_outcomeNumber_6 : decode cX1_outcomeNumber 6 = .ok (.invokevirtual 90, 3) := by decide +kernel
theorem dX1_outcomeNumber_9 : decode cX1_outcomeNumber 9 = .ok (.invokevirtual 98, 3) := by decide +kernel
theorem dX1_outcomeNumber_12 : decode cX1_outcomeNumber 12 = .ok (.ireturn, 1) := by decide +kernel
theorem dX1_knownParts_0 : decode cX1_knownParts 0 = .ok (.aload_n 0, 1) := by decide +kernel
theorem dX1_knownParts_1 : decode cX1_knownParts 1 = .ok (.getfield 12, 3) := by decide +kernel
theorem dX1_knownParts_4 : decode cX1_knownParts 4 = .ok (.getfield 101, 3) := by decide +kernel
theorem dX1_knownParts_7 : decode cX1_knownParts 7 = .ok (.ireturn, 1) := by decide +kernel
theorem dX1_knownCells_0 : decode cX1_knownCells 0 = .ok (.iconst 0, 1) := by decide +kernel
theorem dX1_knownCells_1 : decode cX1_knownCells 1 = .ok (.istore_n 1, 1) := by decide +kernel
theorem dX1_knownCells_2 : decode cX1_knownCells 2 = .ok (.iconst 0, 1) := by decide +kernel
theorem dX1_knownCells_3 : decode cX1_knownCells 3 = .ok (.istore_n 2, 1) := by decide +kernel
theorem dX1_knownCells_4 : decode cX1_knownCells 4 = .ok (.iload_n 2, 1) := by decide +kernel
theorem dX1_knownCells_5 : decode cX1_knownCells 5 = .ok (.aload_n 0, 1) := by decide +kernel
theorem dX1_knownCells_6 : decode cX1_knownCells 6 = .ok (.getfield 58, 3) := by decide +kernel
theorem dX1_knownCells_9 : decode cX1_knownCells 9 = .ok (.if_icmp .ge 37, 3) := by decide +kernel
theorem dX1_knownCells_12 : decode cX1_knownCells 12 = .ok (.aload_n 0, 1) := by decide +kernel
theorem dX1_knownCells_13 : decode cX1_knownCells 13 = .ok (.getfield 28, 3) := by decide +kernel
theorem dX1_knownCells_16 : decode cX1_knownCells 16 = .ok (.iload_n 2, 1) := by decide +kernel
theorem dX1_knownCells_17 : decode cX1_knownCells 17 = .ok (.iaload, 1) := by decide +kernel
theorem dX1_knownCells_18 : decode cX1_knownCells 18 = .ok (.iconst (-1), 1) := by decide +kernel
theorem dX1_knownCells_19 : decode cX1_knownCells 19 = .ok (.if_icmp .eq 21, 3) := by decide +kernel
theorem dX1_knownCells_22 : decode cX1_knownCells 22 = .ok (.aload_n 0, 1) := by decide +kernel
theorem dX1_knownCells_23 : decode cX1_knownCells 23 = .ok (.getfield 12, 3) := by decide +kernel
theorem dX1_knownCells_26 : decode cX1_knownCells 26 = .ok (.aload_n 0, 1) := by decide +kernel
theorem dX1_knownCells_27 : decode cX1_knownCells 27 = .ok (.iload_n 2, 1) := by decide +kernel
theorem dX1_knownCells_28 : decode cX1_knownCells 28 = .ok (.invokevirtual 90, 3) := by decide +kernel
theorem dX1_knownCells_31 : decode cX1_knownCells 31 = .ok (.invokevirtual 94, 3) := by decide +kernel
theorem dX1_knownCells_34 : decode cX1_knownCells 34 = .ok (.ifCond .eq 6, 3) := by decide +kernel
theorem dX1_knownCells_37 : decode cX1_knownCells 37 = .ok (.iinc 1 1, 3) := by decide +kernel
theorem dX1_knownCells_40 : decode cX1_knownCells 40 = .ok (.iinc 2 1, 3) := by decide +kernel
theorem dX1_knownCells_43 : decode cX1_knownCells 43 = .ok (.goto (-39), 3) := by decide +kernel
theorem dX1_knownCells_46 : decode cX1_knownCells 46 = .ok (.iload_n 1, 1) := by decide +kernel
theorem dX1_knownCells_47 : decode cX1_knownCells 47 = .ok (.ireturn, 1) := by decide +kernel
theorem dX1_beginCall_0 : decode cX1_beginCall 0 = .ok (.aload_n 0, 1) := by decide +kernel
theorem dX1_beginCall_1 : decode cX1_beginCall 1 = .ok (.getfield 58, 3) := by decide +kernel
theorem dX1_beginCall_4 : decode cX1_beginCall 4 = .ok (.aload_n 0, 1) := by decide +kernel
theorem dX1_beginCall_5 : decode cX1_beginCall 5 = .ok (.getfield 51, 3) := by decide +kernel
theorem dX1_beginCall_8 : decode cX1_beginCall 8 = .ok (.if_icmp .lt 10, 3) := by decide +kernel
theorem dX1_beginCall_11 : decode cX1_beginCall 11 = .ok (.aload_n 0, 1) := by decide +kernel
theorem dX1_beginCall_12 : decode cX1_beginCall 12 = .ok (.iconst 1, 1) := by decide +kernel
theorem dX1_beginCall_13 : decode cX1_beginCall 13 = .ok (.putfield 54, 3) := by decide +kernel
theorem dX1_beginCall_16 : decode cX1_beginCall 16 = .ok (.iconst (-1), 1) := by decide +kernel
theorem dX1_beginCall_17 : decode cX1_beginCall 17 = .ok (.ireturn, 1) := by decide +kernel
theorem dX1_beginCall_18 : decode cX1_beginCall 18 = .ok (.aload_n 0, 1) := by decide +kernel
theorem dX1_beginCall_19 : decode cX1_beginCall 19 = .ok (.getfield 58, 3) := by decide +kernel
theorem dX1_beginCall_22 : decode cX1_beginCall 22 = .ok (.istore 4, 2) := by decide +kernel
theorem dX1_beginCall_24 : decode cX1_beginCall 24 = .ok (.aload_n 0, 1) := by decide +kernel
theorem dX1_beginCall_25 : decode cX1_beginCall 25 = .ok (.dup, 1) := by decide +kernel
theorem dX1_beginCall_26 : decode cX1_beginCall 26 = .ok (.getfield 58, 3) := by decide +kernel
theorem dX1_beginCall_29 : decode cX1_beginCall 29 = .ok (.iconst 1, 1) := by decide +kernel
theorem dX1_beginCall_30 : decode cX1_beginCall 30 = .ok (.iadd, 1) := by decide +kernel
theorem dX1_beginCall_31 : decode cX1_beginCall 31 = .ok (.putfield 58, 3) := by decide +kernel
theorem dX1_beginCall_34 : decode cX1_beginCall 34 = .ok (.aload_n 0, 1) := by decide +kernel
theorem dX1_beginCall_35 : decode cX1_beginCall 35 = .ok (.getfield 22, 3) := by decide +kernel
theorem dX1_beginCall_38 : decode cX1_beginCall 38 = .ok (.iload 4, 2) := by decide +kernel
theorem dX1_beginCall_40 : decode cX1_beginCall 40 = .ok (.iload_n 1, 1) := by decide +kernel
theorem dX1_beginCall_41 : decode cX1_beginCall 41 = .ok (.iastore, 1) := by decide +kernel
theorem dX1_beginCall_42 : decode cX1_beginCall 42 = .ok (.aload_n 0, 1) := by decide +kernel
theorem dX1_beginCall_43 : decode cX1_beginCall 43 = .ok (.getfield 25, 3) := by decide +kernel
theorem dX1_beginCall_46 : decode cX1_beginCall 46 = .ok (.iload 4, 2) := by decide +kernel
theorem dX1_beginCall_48 : decode cX1_beginCall 48 = .ok (.iload_n 2, 1) := by decide +kernel
theorem dX1_beginCall_49 : decode cX1_beginCall 49 = .ok (.iastore, 1) := by decide +kernel
theorem dX1_beginCall_50 : decode cX1_beginCall 50 = .ok (.aload_n 0, 1) := by decide +kernel
theorem dX1_beginCall_51 : decode cX1_beginCall 51 = .ok (.getfield 28, 3) := by decide +kernel
theorem dX1_beginCall_54 : decode cX1_beginCall 54 = .ok (.iload 4, 2) := by decide +kernel
theorem dX1_beginCall_56 : decode cX1_beginCall 56 = .ok (.iload_n 3, 1) := by decide +kernel
theorem dX1_beginCall_57 : decode cX1_beginCall 57 = .ok (.iastore, 1) := by decide +kernel
theorem dX1_beginCall_58 : decode cX1_beginCall 58 = .ok (.aload_n 0, 1) := by decide +kernel
theorem dX1_beginCall_59 : decode cX1_beginCall 59 = .ok (.getfield 12, 3) := by decide +kernel
theorem dX1_beginCall_62 : decode cX1_beginCall 62 = .ok (.iload 4, 2) := by decide +kernel
theorem dX1_beginCall_64 : decode cX1_beginCall 64 = .ok (.bipush 60, 2) := by decide +kernel
theorem dX1_beginCall_66 : decode cX1_beginCall 66 = .ok (.imul, 1) := by decide +kernel
theorem dX1_beginCall_67 : decode cX1_beginCall 67 = .ok (.aload_n 0, 1) := by decide +kernel
theorem dX1_beginCall_68 : decode cX1_beginCall 68 = .ok (.getfield 34, 3) := by decide +kernel
theorem dX1_beginCall_71 : decode cX1_beginCall 71 = .ok (.getfield 104, 3) := by decide +kernel
theorem dX1_beginCall_74 : decode cX1_beginCall 74 = .ok (.iload_n 1, 1) := by decide +kernel
theorem dX1_beginCall_75 : decode cX1_beginCall 75 = .ok (.iaload, 1) := by decide +kernel
theorem dX1_beginCall_76 : decode cX1_beginCall 76 = .ok (.invokevirtual 107, 3) := by decide +kernel
theorem dX1_beginCall_79 : decode cX1_beginCall 79 = .ok (.aload_n 0, 1) := by decide +kernel
theorem dX1_beginCall_80 : decode cX1_beginCall 80 = .ok (.getfield 12, 3) := by decide +kernel
theorem dX1_beginCall_83 : decode cX1_beginCall 83 = .ok (.aload_n 0, 1) := by decide +kernel
theorem dX1_beginCall_84 : decode cX1_beginCall 84 = .ok (.iload 4, 2) := by decide +kernel
theorem dX1_beginCall_86 : decode cX1_beginCall 86 = .ok (.invokevirtual 90, 3) := by decide +kernel
theorem dX1_beginCall_89 : decode cX1_beginCall 89 = .ok (.invokevirtual 111, 3) := by decide +kernel
theorem dX1_beginCall_92 : decode cX1_beginCall 92 = .ok (.iload 4, 2) := by decide +kernel
theorem dX1_beginCall_94 : decode cX1_beginCall 94 = .ok (.ireturn, 1) := by decide +kernel
theorem dX1_lookAt_0 : decode cX1_lookAt 0 = .ok (.aload_n 0, 1) := by decide +kernel
theorem dX1_lookAt_1 : decode cX1_lookAt 1 = .ok (.iload_n 1, 1) := by decide +kernel
theorem dX1_lookAt_2 : decode cX1_lookAt 2 = .ok (.invokevirtual 114, 3) := by decide +kernel
theorem dX1_lookAt_5 : decode cX1_lookAt 5 = .ok (.istore_n 2, 1) := by decide +kernel
theorem dX1_lookAt_6 : decode cX1_lookAt 6 = .ok (.aload_n 0, 1) := by decide +kernel
theorem dX1_lookAt_7 : decode cX1_lookAt 7 = .ok (.getfield 12, 3) := by decide +kernel
theorem dX1_lookAt_10 : decode cX1_lookAt 10 = .ok (.iload_n 1, 1) := by decide +kernel
theorem dX1_lookAt_11 : decode cX1_lookAt 11 = .ok (.invokevirtual 117, 3) := by decide +kernel
theorem dX1_lookAt_14 : decode cX1_lookAt 14 = .ok (.ifCond .eq 9, 3) := by decide +kernel
theorem dX1_lookAt_17 : decode cX1_lookAt 17 = .ok (.aload_n 0, 1) := by decide +kernel
theorem dX1_lookAt_18 : decode cX1_lookAt 18 = .ok (.iload_n 1, 1) := by decide +kernel
theorem dX1_lookAt_19 : decode cX1_lookAt 19 = .ok (.iload_n 2, 1) := by decide +kernel
theorem dX1_lookAt_20 : decode cX1_lookAt 20 = .ok (.invokevirtual 120, 3) := by decide +kernel
theorem dX1_lookAt_23 : decode cX1_lookAt 23 = .ok (.aload_n 0, 1) := by decide +kernel
theorem dX1_lookAt_24 : decode cX1_lookAt 24 = .ok (.getfield 54, 3) := by decide +kernel
theorem dX1_lookAt_27 : decode cX1_lookAt 27 = .ok (.ifCond .eq 4, 3) := by decide +kernel
theorem dX1_lookAt_30 : decode cX1_lookAt 30 = .ok (.return_, 1) := by decide +kernel
theorem dX1_lookAt_31 : decode cX1_lookAt 31 = .ok (.aload_n 0, 1) := by decide +kernel
theorem dX1_lookAt_32 : decode cX1_lookAt 32 = .ok (.getfield 34, 3) := by decide +kernel
theorem dX1_lookAt_35 : decode cX1_lookAt 35 = .ok (.getfield 123, 3) := by decide +kernel
theorem dX1_lookAt_38 : decode cX1_lookAt 38 = .ok (.iload_n 2, 1) := by decide +kernel
theorem dX1_lookAt_39 : decode cX1_lookAt 39 = .ok (.iaload, 1) := by decide +kernel
theorem dX1_lookAt_40 : decode cX1_lookAt 40 = .ok (.tableswitch 210 1 9 #[52, 73, 90, 116, 131, 140, 158, 179, 188], 52) := by decide +kernel
theorem dX1_lookAt_92 : decode cX1_lookAt 92 = .ok (.aload_n 0, 1) := by decide +kernel
theorem dX1_lookAt_93 : decode cX1_lookAt 93 = .ok (.getfield 12, 3) := by decide +kernel
theorem dX1_lookAt_96 : decode cX1_lookAt 96 = .ok (.iload_n 1, 1) := by decide +kernel
theorem dX1_lookAt_97 : decode cX1_lookAt 97 = .ok (.aload_n 0, 1) := by decide +kernel
theorem dX1_lookAt_98 : decode cX1_lookAt 98 = .ok (.getfield 34, 3) := by decide +kernel
theorem dX1_lookAt_101 : decode cX1_lookAt 101 = .ok (.getfield 126, 3) := by decide +kernel
theorem dX1_lookAt_104 : decode cX1_lookAt 104 = .ok (.iload_n 2, 1) := by decide +kernel
theorem dX1_lookAt_105 : decode cX1_lookAt 105 = .ok (.iaload, 1) := by decide +kernel
theorem dX1_lookAt_106 : decode cX1_lookAt 106 = .ok (.iconst (-1), 1) := by decide +kernel
theorem dX1_lookAt_107 : decode cX1_lookAt 107 = .ok (.invokevirtual 129, 3) := by decide +kernel
theorem dX1_lookAt_110 : decode cX1_lookAt 110 = .ok (.goto 146, 3) := by decide +kernel
theorem dX1_lookAt_113 : decode cX1_lookAt 113 = .ok (.aload_n 0, 1) := by decide +kernel
theorem dX1_lookAt_114 : decode cX1_lookAt 114 = .ok (.iload_n 1, 1) := by decide +kernel
theorem dX1_lookAt_115 : decode cX1_lookAt 115 = .ok (.aload_n 0, 1) := by decide +kernel
theorem dX1_lookAt_116 : decode cX1_lookAt 116 = .ok (.getfield 34, 3) := by decide +kernel
theorem dX1_lookAt_119 : decode cX1_lookAt 119 = .ok (.getfield 126, 3) := by decide +kernel
theorem dX1_lookAt_122 : decode cX1_lookAt 122 = .ok (.iload_n 2, 1) := by decide +kernel
theorem dX1_lookAt_123 : decode cX1_lookAt 123 = .ok (.iaload, 1) := by decide +kernel
theorem dX1_lookAt_124 : decode cX1_lookAt 124 = .ok (.invokevirtual 133, 3) := by decide +kernel
theorem dX1_lookAt_127 : decode cX1_lookAt 127 = .ok (.goto 129, 3) := by decide +kernel
theorem dX1_lookAt_130 : decode cX1_lookAt 130 = .ok (.aload_n 0, 1) := by decide +kernel
theorem dX1_lookAt_131 : decode cX1_lookAt 131 = .ok (.getfield 12, 3) := by decide +kernel
theorem dX1_lookAt_134 : decode cX1_lookAt 134 = .ok (.iload_n 1, 1) := by decide +kernel
theorem dX1_lookAt_135 : decode cX1_lookAt 135 = .ok (.aload_n 0, 1) := by decide +kernel
theorem dX1_lookAt_136 : decode cX1_lookAt 136 = .ok (.iload_n 1, 1) := by decide +kernel
theorem dX1_lookAt_137 : decode cX1_lookAt 137 = .ok (.aload_n 0, 1) := by decide +kernel
theorem dX1_lookAt_138 : decode cX1_lookAt 138 = .ok (.getfield 34, 3) := by decide +kernel
theorem dX1_lookAt_141 : decode cX1_lookAt 141 = .ok (.getfield 126, 3) := by decide +kernel
theorem dX1_lookAt_144 : decode cX1_lookAt 144 = .ok (.iload_n 2, 1) := by decide +kernel
theorem dX1_lookAt_145 : decode cX1_lookAt 145 = .ok (.iaload, 1) := by decide +kernel
theorem dX1_lookAt_146 : decode cX1_lookAt 146 = .ok (.iconst 0, 1) := by decide +kernel
theorem dX1_lookAt_147 : decode cX1_lookAt 147 = .ok (.invokevirtual 136, 3) := by decide +kernel
theorem dX1_lookAt_150 : decode cX1_lookAt 150 = .ok (.invokevirtual 139, 3) := by decide +kernel
theorem dX1_lookAt_153 : decode cX1_lookAt 153 = .ok (.goto 103, 3) := by decide +kernel
theorem dX1_lookAt_156 : decode cX1_lookAt 156 = .ok (.aload_n 0, 1) := by decide +kernel
theorem dX1_lookAt_157 : decode cX1_lookAt 157 = .ok (.iload_n 1, 1) := by decide +kernel
theorem dX1_lookAt_158 : decode cX1_lookAt 158 = .ok (.aload_n 0, 1) := by decide +kernel
theorem dX1_lookAt_159 : decode cX1_lookAt 159 = .ok (.iload_n 1, 1) := by decide +kernel
theorem dX1_lookAt_160 : decode cX1_lookAt 160 = .ok (.iload_n 2, 1) := by decide +kernel
theorem dX1_lookAt_161 : decode cX1_lookAt 161 = .ok (.iconst 0, 1) := by decide +kernel
theorem dX1_lookAt_162 : decode cX1_lookAt 162 = .ok (.invokevirtual 136, 3) := by decide +kernel
theorem dX1_lookAt_165 : decode cX1_lookAt 165 = .ok (.invokevirtual 142, 3) := by decide +kernel
theorem dX1_lookAt_168 : decode cX1_lookAt 168 = .ok (.goto 88, 3) := by decide +kernel
theorem dX1_lookAt_171 : decode cX1_lookAt 171 = .ok (.aload_n 0, 1) := by decide +kernel
theorem dX1_lookAt_172 : decode cX1_lookAt 172 = .ok (.iload_n 1, 1) := by decide +kernel
theorem dX1_lookAt_173 : decode cX1_lookAt 173 = .ok (.iload_n 2, 1) := by decide +kernel
theorem dX1_lookAt_174 : decode cX1_lookAt 174 = .ok (.invokevirtual 145, 3) := by decide +kernel
theorem dX1_lookAt_177 : decode cX1_lookAt 177 = .ok (.goto 79, 3) := by decide +kernel
theorem dX1_lookAt_180 : decode cX1_lookAt 180 = .ok (.aload_n 0, 1) := by decide +kernel
theorem dX1_lookAt_181 : decode cX1_lookAt 181 = .ok (.getfield 12, 3) := by decide +kernel
theorem dX1_lookAt_184 : decode cX1_lookAt 184 = .ok (.iload_n 1, 1) := by decide +kernel
theorem dX1_lookAt_185 : decode cX1_lookAt 185 = .ok (.aload_n 0, 1) := by decide +kernel
theorem dX1_lookAt_186 : decode cX1_lookAt 186 = .ok (.iload_n 1, 1) := by decide +kernel
theorem dX1_lookAt_187 : decode cX1_lookAt 187 = .ok (.iload_n 2, 1) := by decide +kernel
theorem dX1_lookAt_188 : decode cX1_lookAt 188 = .ok (.iconst 1, 1) := by decide +kernel
theorem dX1_lookAt_189 : decode cX1_lookAt 189 = .ok (.invokevirtual 136, 3) := by decide +kernel
theorem dX1_lookAt_192 : decode cX1_lookAt 192 = .ok (.invokevirtual 139, 3) := by decide +kernel
theorem dX1_lookAt_195 : decode cX1_lookAt 195 = .ok (.goto 61, 3) := by decide +kernel
theorem dX1_lookAt_198 : decode cX1_lookAt 198 = .ok (.aload_n 0, 1) := by decide +kernel
theorem dX1_lookAt_199 : decode cX1_lookAt 199 = .ok (.getfield 12, 3) := by decide +kernel
theorem dX1_lookAt_202 : decode cX1_lookAt 202 = .ok (.iload_n 1, 1) := by decide +kernel
theorem dX1_lookAt_203 : decode cX1_lookAt 203 = .ok (.aload_n 0, 1) := by decide +kernel
theorem dX1_lookAt_204 : decode cX1_lookAt 204 = .ok (.aload_n 0, 1) := by decide +kernel
theorem dX1_lookAt_205 : decode cX1_lookAt 205 = .ok (.getfield 18, 3) := by decide +kernel
theorem dX1_lookAt_208 : decode cX1_lookAt 208 = .ok (.iload_n 1, 1) := by decide +kernel
theorem dX1_lookAt_209 : decode cX1_lookAt 209 = .ok (.iaload, 1) := by decide +kernel
theorem dX1_lookAt_210 : decode cX1_lookAt 210 = .ok (.invokevirtual 90, 3) := by decide +kernel
theorem dX1_lookAt_213 : decode cX1_lookAt 213 = .ok (.invokevirtual 139, 3) := by decide +kernel
theorem dX1_lookAt_216 : decode cX1_lookAt 216 = .ok (.goto 40, 3) := by decide +kernel
theorem dX1_lookAt_219 : decode cX1_lookAt 219 = .ok (.aload_n 0, 1) := by decide +kernel
theorem dX1_lookAt_220 : decode cX1_lookAt 220 = .ok (.iload_n 1, 1) := by decide +kernel
theorem dX1_lookAt_221 : decode cX1_lookAt 221 = .ok (.iload_n 2, 1) := by decide +kernel
theorem dX1_lookAt_222 : decode cX1_lookAt 222 = .ok (.invokevirtual 148, 3) := by decide +kernel
theorem dX1_lookAt_225 : decode cX1_lookAt 225 = .ok (.goto 31, 3) := by decide +kernel
theorem dX1_lookAt_228 : decode cX1_lookAt 228 = .ok (.aload_n 0, 1) := by decide +kernel
theorem dX1_lookAt_229 : decode cX1_lookAt 229 = .ok (.iload_n 1, 1) := by decide +kernel
theorem dX1_lookAt_230 : decode cX1_lookAt 230 = .ok (.aload_n 0, 1) := by decide +kernel
theorem dX1_lookAt_231 : decode cX1_lookAt 231 = .ok (.iload_n 1, 1) := by decide +kernel
theorem dX1_lookAt_232 : decode cX1_lookAt 232 = .ok (.iload_n 2, 1) := by decide +kernel
theorem dX1_lookAt_233 : decode cX1_lookAt 233 = .ok (.iconst 0, 1) := by decide +kernel
theorem dX1_lookAt_234 : decode cX1_lookAt 234 = .ok (.invokevirtual 136, 3) := by decide +kernel
theorem dX1_lookAt_237 : decode cX1_lookAt 237 = .ok (.aload_n 0, 1) := by decide +kernel
theorem dX1_lookAt_238 : decode cX1_lookAt 238 = .ok (.iload_n 1, 1) := by decide +kernel
theorem dX1_lookAt_239 : decode cX1_lookAt 239 = .ok (.iload_n 2, 1) := by decide +kernel
theorem dX1_lookAt_240 : decode cX1_lookAt 240 = .ok (.iconst 1, 1) := by decide +kernel
theorem dX1_lookAt_241 : decode cX1_lookAt 241 = .ok (.invokevirtual 136, 3) := by decide +kernel
theorem dX1_lookAt_244 : decode cX1_lookAt 244 = .ok (.invokevirtual 151, 3) := by decide +kernel
theorem dX1_lookAt_247 : decode cX1_lookAt 247 = .ok (.goto 9, 3) := by decide +kernel
theorem dX1_lookAt_250 : decode cX1_lookAt 250 = .ok (.aload_n 0, 1) := by decide +kernel
theorem dX1_lookAt_251 : decode cX1_lookAt 251 = .ok (.iload_n 1, 1) := by decide +kernel
theorem dX1_lookAt_252 : decode cX1_lookAt 252 = .ok (.iload_n 2, 1) := by decide +kernel
theorem dX1_lookAt_253 : decode cX1_lookAt 253 = .ok (.invokevirtual 154, 3) := by decide +kernel
theorem dX1_lookAt_256 : decode cX1_lookAt 256 = .ok (.return_, 1) := by decide +kernel
theorem dX1_reachInside_0 : decode cX1_reachInside 0 = .ok (.aload_n 0, 1) := by decide +kernel
theorem dX1_reachInside_1 : decode cX1_reachInside 1 = .ok (.getfield 34, 3) := by decide +kernel
theorem dX1_reachInside_4 : decode cX1_reachInside 4 = .ok (.getfield 123, 3) := by decide +kernel
theorem dX1_reachInside_7 : decode cX1_reachInside 7 = .ok (.iload_n 2, 1) := by decide +kernel
theorem dX1_reachInside_8 : decode cX1_reachInside 8 = .ok (.iaload, 1) := by decide +kernel
theorem dX1_reachInside_9 : decode cX1_reachInside 9 = .ok (.istore_n 3, 1) := by decide +kernel
theorem dX1_reachInside_10 : decode cX1_reachInside 10 = .ok (.iload_n 3, 1) := by decide +kernel
theorem dX1_reachInside_11 : decode cX1_reachInside 11 = .ok (.iconst 5, 1) := by decide +kernel
theorem dX1_reachInside_12 : decode cX1_reachInside 12 = .ok (.if_icmp .ne 7, 3) := by decide +kernel
theorem dX1_reachInside_15 : decode cX1_reachInside 15 = .ok (.iconst 1, 1) := by decide +kernel
theorem dX1_reachInside_16 : decode cX1_reachInside 16 = .ok (.goto 12, 3) := by decide +kernel
theorem dX1_reachInside_19 : decode cX1_reachInside 19 = .ok (.aload_n 0, 1) := by decide +kernel
theorem dX1_reachInside_20 : decode cX1_reachInside 20 = .ok (.getfield 34, 3) := by decide +kernel
theorem dX1_reachInside_23 : decode cX1_reachInside 23 = .ok (.getfield 157, 3) := by decide +kernel
theorem dX1_reachInside_26 : decode cX1_reachInside 26 = .ok (.iload_n 2, 1) := by decide +kernel
theorem dX1_reachInside_27 : decode cX1_reachInside 27 = .ok (.iaload, 1) := by decide +kernel
theorem dX1_reachInside_28 : decode cX1_reachInside 28 = .ok (.istore 4, 2) := by decide +kernel
theorem dX1_reachInside_30 : decode cX1_reachInside 30 = .ok (.iconst 0, 1) := by decide +kernel
theorem dX1_reachInside_31 : decode cX1_reachInside 31 = .ok (.istore 5, 2) := by decide +kernel
theorem dX1_reachInside_33 : decode cX1_reachInside 33 = .ok (.iload 5, 2) := by decide +kernel
theorem dX1_reachInside_35 : decode cX1_reachInside 35 = .ok (.iload 4, 2) := by decide +kernel
theorem dX1_reachInside_37 : decode cX1_reachInside 37 = .ok (.if_icmp .ge 24, 3) := by decide +kernel
theorem dX1_reachInside_40 : decode cX1_reachInside 40 = .ok (.aload_n 0, 1) := by decide +kernel
theorem dX1_reachInside_41 : decode cX1_reachInside 41 = .ok (.getfield 12, 3) := by decide +kernel
theorem dX1_reachInside_44 : decode cX1_reachInside 44 = .ok (.aload_n 0, 1) := by decide +kernel
theorem dX1_reachInside_45 : decode cX1_reachInside 45 = .ok (.iload_n 1, 1) := by decide +kernel
theorem dX1_reachInside_46 : decode cX1_reachInside 46 = .ok (.iload_n 2, 1) := by decide +kernel
theorem dX1_reachInside_47 : decode cX1_reachInside 47 = .ok (.iload 5, 2) := by decide +kernel
theorem dX1_reachInside_49 : decode cX1_reachInside 49 = .ok (.invokevirtual 136, 3) := by decide +kernel
theorem dX1_reachInside_52 : decode cX1_reachInside 52 = .ok (.invokevirtual 111, 3) := by decide +kernel
theorem dX1_reachInside_55 : decode cX1_reachInside 55 = .ok (.iinc 5 1, 3) := by decide +kernel
theorem dX1_reachInside_58 : decode cX1_reachInside 58 = .ok (.goto (-25), 3) := by decide +kernel
theorem dX1_reachInside_61 : decode cX1_reachInside 61 = .ok (.iload_n 3, 1) := by decide +kernel
theorem dX1_reachInside_62 : decode cX1_reachInside 62 = .ok (.bipush 7, 2) := by decide +kernel
theorem dX1_reachInside_64 : decode cX1_reachInside 64 = .ok (.if_icmp .ne 24, 3) := by decide +kernel
theorem dX1_reachInside_67 : decode cX1_reachInside 67 = .ok (.aload_n 0, 1) := by decide +kernel
theorem dX1_reachInside_68 : decode cX1_reachInside 68 = .ok (.getfield 18, 3) := by decide +kernel
theorem dX1_reachInside_71 : decode cX1_reachInside 71 = .ok (.iload_n 1, 1) := by decide +kernel
theorem dX1_reachInside_72 : decode cX1_reachInside 72 = .ok (.aload_n 0, 1) := by decide +kernel
theorem dX1_reachInside_73 : decode cX1_reachInside 73 = .ok (.aload_n 0, 1) := by decide +kernel
theorem dX1_reachInside_74 : decode cX1_reachInside 74 = .ok (.getfield 34, 3) := by decide +kernel
theorem dX1_reachInside_77 : decode cX1_reachInside 77 = .ok (.getfield 126, 3) := by decide +kernel
theorem dX1_reachInside_80 : decode cX1_reachInside 80 = .ok (.iload_n 2, 1) := by decide +kernel
theorem dX1_reachInside_81 : decode cX1_reachInside 81 = .ok (.iaload, 1) := by decide +kernel
theorem dX1_reachInside_82 : decode cX1_reachInside 82 = .ok (.iload_n 1, 1) := by decide +kernel
theorem dX1_reachInside_83 : decode cX1_reachInside 83 = .ok (.iconst (-1), 1) := by decide +kernel
theorem dX1_reachInside_84 : decode cX1_reachInside 84 = .ok (.invokevirtual 68, 3) := by decide +kernel
theorem dX1_reachInside_87 : decode cX1_reachInside 87 = .ok (.iastore, 1) := by decide +kernel
theorem dX1_reachInside_88 : decode cX1_reachInside 88 = .ok (.return_, 1) := by decide +kernel
theorem dX1_workOutArgument_0 : decode cX1_workOutArgument 0 = .ok (.iload_n 1, 1) := by decide +kernel
theorem dX1_workOutArgument_1 : decode cX1_workOutArgument 1 = .ok (.bipush 60, 2) := by decide +kernel
theorem dX1_workOutArgument_3 : decode cX1_workOutArgument 3 = .ok (.idiv, 1) := by decide +kernel
theorem dX1_workOutArgument_4 : decode cX1_workOutArgument 4 = .ok (.istore_n 3, 1) := by decide +kernel
theorem dX1_workOutArgument_5 : decode cX1_workOutArgument 5 = .ok (.aload_n 0, 1) := by decide +kernel
theorem dX1_workOutArgument_6 : decode cX1_workOutArgument 6 = .ok (.getfield 25, 3) := by decide +kernel
theorem dX1_workOutArgument_9 : decode cX1_workOutArgument 9 = .ok (.iload_n 3, 1) := by decide +kernel
theorem dX1_workOutArgument_10 : decode cX1_workOutArgument 10 = .ok (.iaload, 1) := by decide +kernel
theorem dX1_workOutArgument_11 : decode cX1_workOutArgument 11 = .ok (.istore 4, 2) := by decide +kernel
theorem dX1_workOutArgument_13 : decode cX1_workOutArgument 13 = .ok (.iload 4, 2) := by decide +kernel
theorem dX1_workOutArgument_15 : decode cX1_workOutArgument 15 = .ok (.iconst (-1), 1) := by decide +kernel
theorem dX1_workOutArgument_16 : decode cX1_workOutArgument 16 = .ok (.if_icmp .ne 39, 3) := by decide +kernel
theorem dX1_workOutArgument_19 : decode cX1_workOutArgument 19 = .ok (.aload_n 0, 1) := by decide +kernel
theorem dX1_workOutArgument_20 : decode cX1_workOutArgument 20 = .ok (.getfield 12, 3) := by decide +kernel
theorem dX1_workOutArgument_23 : decode cX1_workOutArgument 23 = .ok (.iload_n 1, 1) := by decide +kernel
theorem dX1_workOutArgument_24 : decode cX1_workOutArgument 24 = .ok (.iload_n 2, 1) := by decide +kernel
theorem dX1_workOutArgument_25 : decode cX1_workOutArgument 25 = .ok (.ifCond .ne 10, 3) := by decide +kernel
theorem dX1_workOutArgument_28 : decode cX1_workOutArgument 28 = .ok (.aload_n 0, 1) := by decide +kernel
theorem dX1_workOutArgument_29 : decode cX1_workOutArgument 29 = .ok (.getfield 38, 3) := by decide +kernel
theorem dX1_workOutArgument_32 : decode cX1_workOutArgument 32 = .ok (.goto 16, 3) := by decide +kernel
theorem dX1_workOutArgument_35 : decode cX1_workOutArgument 35 = .ok (.iload_n 2, 1) := by decide +kernel
theorem dX1_workOutArgument_36 : decode cX1_workOutArgument 36 = .ok (.iconst 1, 1) := by decide +kernel
theorem dX1_workOutArgument_37 : decode cX1_workOutArgument 37 = .ok (.if_icmp .ne 10, 3) := by decide +kernel
theorem dX1_workOutArgument_40 : decode cX1_workOutArgument 40 = .ok (.aload_n 0, 1) := by decide +kernel
theorem dX1_workOutArgument_41 : decode cX1_workOutArgument 41 = .ok (.getfield 42, 3) := by decide +kernel
theorem dX1_workOutArgument_44 : decode cX1_workOutArgument 44 = .ok (.goto 4, 3) := by decide +kernel
theorem dX1_workOutArgument_47 : decode cX1_workOutArgument 47 = .ok (.iconst 0, 1) := by decide +kernel
theorem dX1_workOutArgument_48 : decode cX1_workOutArgument 48 = .ok (.iconst (-1), 1) := by decide +kernel
theorem dX1_workOutArgument_49 : decode cX1_workOutArgument 49 = .ok (.invokevirtual 129, 3) := by decide +kernel
theorem dX1_workOutArgument_52 : decode cX1_workOutArgument 52 = .ok (.goto 100, 3) := by decide +kernel
theorem dX1_workOutArgument_55 : decode cX1_workOutArgument 55 = .ok (.aload_n 0, 1) := by decide +kernel
theorem dX1_workOutArgument_56 : decode cX1_workOutArgument 56 = .ok (.getfield 28, 3) := by decide +kernel
theorem dX1_workOutArgument_59 : decode cX1_workOutArgument 59 = .ok (.iload_n 3, 1) := by decide +kernel
theorem dX1_workOutArgument_60 : decode cX1_workOutArgument 60 = .ok (.iaload, 1) := by decide +kernel
theorem dX1_workOutArgument_61 : decode cX1_workOutArgument 61 = .ok (.iconst (-1), 1) := by decide +kernel
theorem dX1_workOutArgument_62 : decode cX1_workOutArgument 62 = .ok (.if_icmp .ne 27, 3) := by decide +kernel
theorem dX1_workOutArgument_65 : decode cX1_workOutArgument 65 = .ok (.aload_n 0, 1) := by decide +kernel
theorem dX1_workOutArgument_66 : decode cX1_workOutArgument 66 = .ok (.getfield 12, 3) := by decide +kernel
theorem dX1_workOutArgument_69 : decode cX1_workOutArgument 69 = .ok (.iload_n 1, 1) := by decide +kernel
theorem dX1_workOutArgument_70 : decode cX1_workOutArgument 70 = .ok (.aload_n 0, 1) := by decide +kernel
theorem dX1_workOutArgument_71 : decode cX1_workOutArgument 71 = .ok (.iload 4, 2) := by decide +kernel
theorem dX1_workOutArgument_73 : decode cX1_workOutArgument 73 = .ok (.aload_n 0, 1) := by decide +kernel
theorem dX1_workOutArgument_74 : decode cX1_workOutArgument 74 = .ok (.iload 4, 2) := by decide +kernel
theorem dX1_workOutArgument_76 : decode cX1_workOutArgument 76 = .ok (.invokevirtual 114, 3) := by decide +kernel
theorem dX1_workOutArgument_79 : decode cX1_workOutArgument 79 = .ok (.iload_n 2, 1) := by decide +kernel
theorem dX1_workOutArgument_80 : decode cX1_workOutArgument 80 = .ok (.invokevirtual 136, 3) := by decide +kernel
theorem dX1_workOutArgument_83 : decode cX1_workOutArgument 83 = .ok (.invokevirtual 139, 3) := by decide +kernel
theorem dX1_workOutArgument_86 : decode cX1_workOutArgument 86 = .ok (.goto 66, 3) := by decide +kernel
theorem dX1_workOutArgument_89 : decode cX1_workOutArgument 89 = .ok (.iload_n 2, 1) := by decide +kernel
theorem dX1_workOutArgument_90 : decode cX1_workOutArgument 90 = .ok (.ifCond .ne 21, 3) := by decide +kernel
theorem dX1_workOutArgument_93 : decode cX1_workOutArgument 93 = .ok (.aload_n 0, 1) := by decide +kernel
theorem dX1_workOutArgument_94 : decode cX1_workOutArgument 94 = .ok (.getfield 12, 3) := by decide +kernel
theorem dX1_workOutArgument_97 : decode cX1_workOutArgument 97 = .ok (.iload_n 1, 1) := by decide +kernel
theorem dX1_workOutArgument_98 : decode cX1_workOutArgument 98 = .ok (.aload_n 0, 1) := by decide +kernel
theorem dX1_workOutArgument_99 : decode cX1_workOutArgument 99 = .ok (.getfield 28, 3) := by decide +kernel
theorem dX1_workOutArgument_102 : decode cX1_workOutArgument 102 = .ok (.iload_n 3, 1) := by decide +kernel
theorem dX1_workOutArgument_103 : decode cX1_workOutArgument 103 = .ok (.iaload, 1) := by decide +kernel
theorem dX1_workOutArgument_104 : decode cX1_workOutArgument 104 = .ok (.iconst (-1), 1) := by decide +kernel
theorem dX1_workOutArgument_105 : decode cX1_workOutArgument 105 = .ok (.invokevirtual 129, 3) := by decide +kernel
theorem dX1_workOutArgument_108 : decode cX1_workOutArgument 108 = .ok (.goto 44, 3) := by decide +kernel
theorem dX1_workOutArgument_111 : decode cX1_workOutArgument 111 = .ok (.iload_n 2, 1) := by decide +kernel
theorem dX1_workOutArgument_112 : decode cX1_workOutArgument 112 = .ok (.iconst 1, 1) := by decide +kernel
theorem dX1_workOutArgument_113 : decode cX1_workOutArgument 113 = .ok (.if_icmp .ne 16, 3) := by decide +kernel
theorem dX1_workOutArgument_116 : decode cX1_workOutArgument 116 = .ok (.aload_n 0, 1) := by decide +kernel
theorem dX1_workOutArgument_117 : decode cX1_workOutArgument 117 = .ok (.getfield 12, 3) := by decide +kernel
theorem dX1_workOutArgument_120 : decode cX1_workOutArgument 120 = .ok (.iload_n 1, 1) := by decide +kernel
theorem dX1_workOutArgument_121 : decode cX1_workOutArgument 121 = .ok (.iload 4, 2) := by decide +kernel
theorem dX1_workOutArgument_123 : decode cX1_workOutArgument 123 = .ok (.invokevirtual 139, 3) := by decide +kernel
theorem dX1_workOutArgument_126 : decode cX1_workOutArgument 126 = .ok (.goto 26, 3) := by decide +kernel
theorem dX1_workOutArgument_129 : decode cX1_workOutArgument 129 = .ok (.aload_n 0, 1) := by decide +kernel
theorem dX1_workOutArgument_130 : decode cX1_workOutArgument 130 = .ok (.getfield 12, 3) := by decide +kernel
theorem dX1_workOutArgument_133 : decode cX1_workOutArgument 133 = .ok (.iload_n 1, 1) := by decide +kernel
theorem dX1_workOutArgument_134 : decode cX1_workOutArgument 134 = .ok (.aload_n 0, 1) := by decide +kernel
theorem dX1_workOutArgument_135 : decode cX1_workOutArgument 135 = .ok (.iload 4, 2) := by decide +kernel
theorem dX1_workOutArgument_137 : decode cX1_workOutArgument 137 = .ok (.aload_n 0, 1) := by decide +kernel
theorem dX1_workOutArgument_138 : decode cX1_workOutArgument 138 = .ok (.iload 4, 2) := by decide +kernel
theorem dX1_workOutArgument_140 : decode cX1_workOutArgument 140 = .ok (.invokevirtual 114, 3) := by decide +kernel
theorem dX1_workOutArgument_143 : decode cX1_workOutArgument 143 = .ok (.iload_n 2, 1) := by decide +kernel
theorem dX1_workOutArgument_144 : decode cX1_workOutArgument 144 = .ok (.iconst 1, 1) := by decide +kernel
theorem dX1_workOutArgument_145 : decode cX1_workOutArgument 145 = .ok (.isub, 1) := by decide +kernel
theorem dX1_workOutArgument_146 : decode cX1_workOutArgument 146 = .ok (.invokevirtual 136, 3) := by decide +kernel
theorem dX1_workOutArgument_149 : decode cX1_workOutArgument 149 = .ok (.invokevirtual 139, 3) := by decide +kernel
theorem dX1_workOutArgument_152 : decode cX1_workOutArgument 152 = .ok (.return_, 1) := by decide +kernel
theorem dX1_negate_0 : decode cX1_negate 0 = .ok (.aload_n 0, 1) := by decide +kernel
theorem dX1_negate_1 : decode cX1_negate 1 = .ok (.getfield 12, 3) := by decide +kernel
theorem dX1_negate_4 : decode cX1_negate 4 = .ok (.iload_n 1, 1) := by decide +kernel
theorem dX1_negate_5 : decode cX1_negate 5 = .ok (.iload_n 2, 1) := by decide +kernel
theorem dX1_negate_6 : decode cX1_negate 6 = .ok (.invokevirtual 160, 3) := by decide +kernel
theorem dX1_negate_9 : decode cX1_negate 9 = .ok (.ifCond .eq 21, 3) := by decide +kernel
theorem dX1_negate_12 : decode cX1_negate 12 = .ok (.aload_n 0, 1) := by decide +kernel
theorem dX1_negate_13 : decode cX1_negate 13 = .ok (.getfield 12, 3) := by decide +kernel
theorem dX1_negate_16 : decode cX1_negate 16 = .ok (.iload_n 1, 1) := by decide +kernel
theorem dX1_negate_17 : decode cX1_negate 17 = .ok (.aload_n 0, 1) := by decide +kernel
theorem dX1_negate_18 : decode cX1_negate 18 = .ok (.getfield 12, 3) := by decide +kernel
theorem dX1_negate_21 : decode cX1_negate 21 = .ok (.iload_n 2, 1) := by decide +kernel
theorem dX1_negate_22 : decode cX1_negate 22 = .ok (.invokevirtual 98, 3) := by decide +kernel
theorem dX1_negate_25 : decode cX1_negate 25 = .ok (.ineg, 1) := by decide +kernel
theorem dX1_negate_26 : decode cX1_negate 26 = .ok (.iconst (-1), 1) := by decide +kernel
theorem dX1_negate_27 : decode cX1_negate 27 = .ok (.invokevirtual 129, 3) := by decide +kernel
theorem dX1_negate_30 : decode cX1_negate 30 = .ok (.return_, 1) := by decide +kernel
theorem dX1_choose_0 : decode cX1_choose 0 = .ok (.aload_n 0, 1) := by decide +kernel
theorem dX1_choose_1 : decode cX1_choose 1 = .ok (.iload_n 1, 1) := by decide +kernel
theorem dX1_choose_2 : decode cX1_choose 2 = .ok (.iload_n 2, 1) := by decide +kernel
theorem dX1_choose_3 : decode cX1_choose 3 = .ok (.iconst 0, 1) := by decide +kernel
theorem dX1_choose_4 : decode cX1_choose 4 = .ok (.invokevirtual 136, 3) := by decide +kernel
theorem dX1_choose_7 : decode cX1_choose 7 = .ok (.istore_n 3, 1) := by decide +kernel
theorem dX1_choose_8 : decode cX1_choose 8 = .ok (.aload_n 0, 1) := by decide +kernel
theorem dX1_choose_9 : decode cX1_choose 9 = .ok (.getfield 12, 3) := by decide +kernel
theorem dX1_choose_12 : decode cX1_choose 12 = .ok (.iload_n 1, 1) := by decide +kernel
theorem dX1_choose_13 : decode cX1_choose 13 = .ok (.iload_n 3, 1) := by decide +kernel
theorem dX1_choose_14 : decode cX1_choose 14 = .ok (.invokevirtual 160, 3) := by decide +kernel
theorem dX1_choose_17 : decode cX1_choose 17 = .ok (.ifCond .eq 46, 3) := by decide +kernel
theorem dX1_choose_20 : decode cX1_choose 20 = .ok (.aload_n 0, 1) := by decide +kernel
theorem dX1_choose_21 : decode cX1_choose 21 = .ok (.iload_n 1, 1) := by decide +kernel
theorem dX1_choose_22 : decode cX1_choose 22 = .ok (.iload_n 2, 1) := by decide +kernel
theorem dX1_choose_23 : decode cX1_choose 23 = .ok (.aload_n 0, 1) := by decide +kernel
theorem dX1_choose_24 : decode cX1_choose 24 = .ok (.getfield 12, 3) := by decide +kernel
theorem dX1_choose_27 : decode cX1_choose 27 = .ok (.iload_n 3, 1) := by decide +kernel
theorem dX1_choose_28 : decode cX1_choose 28 = .ok (.invokevirtual 98, 3) := by decide +kernel
theorem dX1_choose_31 : decode cX1_choose 31 = .ok (.ifCond .eq 7, 3) := by decide +kernel
theorem dX1_choose_34 : decode cX1_choose 34 = .ok (.iconst 1, 1) := by decide +kernel
theorem dX1_choose_35 : decode cX1_choose 35 = .ok (.goto 4, 3) := by decide +kernel
theorem dX1_choose_38 : decode cX1_choose 38 = .ok (.iconst 2, 1) := by decide +kernel
theorem dX1_choose_39 : decode cX1_choose 39 = .ok (.invokevirtual 136, 3) := by decide +kernel
theorem dX1_choose_42 : decode cX1_choose 42 = .ok (.istore 4, 2) := by decide +kernel
theorem dX1_choose_44 : decode cX1_choose 44 = .ok (.aload_n 0, 1) := by decide +kernel
theorem dX1_choose_45 : decode cX1_choose 45 = .ok (.getfield 12, 3) := by decide +kernel
theorem dX1_choose_48 : decode cX1_choose 48 = .ok (.iload 4, 2) := by decide +kernel
theorem dX1_choose_50 : decode cX1_choose 50 = .ok (.invokevirtual 111, 3) := by decide +kernel
theorem dX1_choose_53 : decode cX1_choose 53 = .ok (.aload_n 0, 1) := by decide +kernel
theorem dX1_choose_54 : decode cX1_choose 54 = .ok (.getfield 12, 3) := by decide +kernel
theorem dX1_choose_57 : decode cX1_choose 57 = .ok (.iload_n 1, 1) := by decide +kernel
theorem dX1_choose_58 : decode cX1_choose 58 = .ok (.iload 4, 2) := by decide +kernel
theorem dX1_choose_60 : decode cX1_choose 60 = .ok (.invokevirtual 139, 3) := by decide +kernel
theorem dX1_choose_63 : decode cX1_choose 63 = .ok (.return_, 1) := by decide +kernel
theorem dX1_makeCells_0 : decode cX1_makeCells 0 = .ok (.aload_n 0, 1) := by decide +kernel
theorem dX1_makeCells_1 : decode cX1_makeCells 1 = .ok (.iload_n 1, 1) := by decide +kernel
theorem dX1_makeCells_2 : decode cX1_makeCells 2 = .ok (.iload_n 2, 1) := by decide +kernel
theorem dX1_makeCells_3 : decode cX1_makeCells 3 = .ok (.iconst 0, 1) := by decide +kernel
theorem dX1_makeCells_4 : decode cX1_makeCells 4 = .ok (.invokevirtual 136, 3) := by decide +kernel
theorem dX1_makeCells_7 : decode cX1_makeCells 7 = .ok (.istore_n 3, 1) := by decide +kernel
theorem dX1_makeCells_8 : decode cX1_makeCells 8 = .ok (.aload_n 0, 1) := by decide +kernel
theorem dX1_makeCells_9 : decode cX1_makeCells 9 = .ok (.getfield 12, 3) := by decide +kernel
theorem dX1_makeCells_12 : decode cX1_makeCells 12 = .ok (.iload_n 1, 1) := by decide +kernel
theorem dX1_makeCells_13 : decode cX1_makeCells 13 = .ok (.iload_n 3, 1) := by decide +kernel
theorem dX1_makeCells_14 : decode cX1_makeCells 14 = .ok (.invokevirtual 160, 3) := by decide +kernel
theorem dX1_makeCells_17 : decode cX1_makeCells 17 = .ok (.ifCond .ne 4, 3) := by decide +kernel
theorem dX1_makeCells_20 : decode cX1_makeCells 20 = .ok (.return_, 1) := by decide +kernel
theorem dX1_makeCells_21 : decode cX1_makeCells 21 = .ok (.iconst 0, 1) := by decide +kernel
theorem dX1_makeCells_22 : decode cX1_makeCells 22 = .ok (.aload_n 0, 1) := by decide +kernel
theorem dX1_makeCells_23 : decode cX1_makeCells 23 = .ok (.getfield 12, 3) := by decide +kernel
theorem dX1_makeCells_26 : decode cX1_makeCells 26 = .ok (.iload_n 3, 1) := by decide +kernel
theorem dX1_makeCells_27 : decode cX1_makeCells 27 = .ok (.invokevirtual 98, 3) := by decide +kernel
theorem dX1_makeCells_30 : decode cX1_makeCells 30 = .ok (.bipush 40, 2) := by decide +kernel
theorem dX1_makeCells_32 : decode cX1_makeCells 32 = .ok (.invokestatic 45, 3) := by decide +kernel
theorem dX1_makeCells_35 : decode cX1_makeCells 35 = .ok (.invokestatic 164, 3) := by decide +kernel
theorem dX1_makeCells_38 : decode cX1_makeCells 38 = .ok (.istore 4, 2) := by decide +kernel
theorem dX1_makeCells_40 : decode cX1_makeCells 40 = .ok (.aload_n 0, 1) := by decide +kernel
theorem dX1_makeCells_41 : decode cX1_makeCells 41 = .ok (.getfield 58, 3) := by decide +kernel
theorem dX1_makeCells_44 : decode cX1_makeCells 44 = .ok (.istore 5, 2) := by decide +kernel
theorem dX1_makeCells_46 : decode cX1_makeCells 46 = .ok (.iconst 0, 1) := by decide +kernel
theorem dX1_makeCells_47 : decode cX1_makeCells 47 = .ok (.istore 6, 2) := by decide +kernel
theorem dX1_makeCells_49 : decode cX1_makeCells 49 = .ok (.iload 6, 2) := by decide +kernel
theorem dX1_makeCells_51 : decode cX1_makeCells 51 = .ok (.iload 4, 2) := by decide +kernel
theorem dX1_makeCells_53 : decode cX1_makeCells 53 = .ok (.if_icmp .ge 33, 3) := by decide +kernel
theorem dX1_makeCells_56 : decode cX1_makeCells 56 = .ok (.aload_n 0, 1) := by decide +kernel
theorem dX1_makeCells_57 : decode cX1_makeCells 57 = .ok (.getfield 54, 3) := by decide +kernel
theorem dX1_makeCells_60 : decode cX1_makeCells 60 = .ok (.ifCond .ne 26, 3) := by decide +kernel
theorem dX1_makeCells_63 : decode cX1_makeCells 63 = .ok (.aload_n 0, 1) := by decide +kernel
theorem dX1_makeCells_64 : decode cX1_makeCells 64 = .ok (.aload_n 0, 1) := by decide +kernel
theorem dX1_makeCells_65 : decode cX1_makeCells 65 = .ok (.getfield 34, 3) := by decide +kernel
theorem dX1_makeCells_68 : decode cX1_makeCells 68 = .ok (.getfield 126, 3) := by decide +kernel
theorem dX1_makeCells_71 : decode cX1_makeCells 71 = .ok (.iload_n 2, 1) := by decide +kernel
theorem dX1_makeCells_72 : decode cX1_makeCells 72 = .ok (.iaload, 1) := by decide +kernel
theorem dX1_makeCells_73 : decode cX1_makeCells 73 = .ok (.iload_n 1, 1) := by decide +kernel
theorem dX1_makeCells_74 : decode cX1_makeCells 74 = .ok (.iload 6, 2) := by decide +kernel
theorem dX1_makeCells_76 : decode cX1_makeCells 76 = .ok (.invokevirtual 68, 3) := by decide +kernel
theorem dX1_makeCells_79 : decode cX1_makeCells 79 = .ok (.pop, 1) := by decide +kernel
theorem dX1_makeCells_80 : decode cX1_makeCells 80 = .ok (.iinc 6 1, 3) := by decide +kernel
theorem dX1_makeCells_83 : decode cX1_makeCells 83 = .ok (.goto (-34), 3) := by decide +kernel
theorem dX1_makeCells_86 : decode cX1_makeCells 86 = .ok (.aload_n 0, 1) := by decide +kernel
theorem dX1_makeCells_87 : decode cX1_makeCells 87 = .ok (.dup, 1) := by decide +kernel
theorem dX1_makeCells_88 : decode cX1_makeCells 88 = .ok (.getfield 61, 3) := by decide +kernel
theorem dX1_makeCells_91 : decode cX1_makeCells 91 = .ok (.iload 4, 2) := by decide +kernel
theorem dX1_makeCells_93 : decode cX1_makeCells 93 = .ok (.iadd, 1) := by decide +kernel
theorem dX1_makeCells_94 : decode cX1_makeCells 94 = .ok (.putfield 61, 3) := by decide +kernel
theorem dX1_makeCells_97 : decode cX1_makeCells 97 = .ok (.aload_n 0, 1) := by decide +kernel
theorem dX1_makeCells_98 : decode cX1_makeCells 98 = .ok (.getfield 12, 3) := by decide +kernel
theorem dX1_makeCells_101 : decode cX1_makeCells 101 = .ok (.iload_n 1, 1) := by decide +kernel
theorem dX1_makeCells_102 : decode cX1_makeCells 102 = .ok (.iload 4, 2) := by decide +kernel
theorem dX1_makeCells_104 : decode cX1_makeCells 104 = .ok (.iload 5, 2) := by decide +kernel
theorem dX1_makeCells_106 : decode cX1_makeCells 106 = .ok (.invokevirtual 129, 3) := by decide +kernel
theorem dX1_makeCells_109 : decode cX1_makeCells 109 = .ok (.return_, 1) := by decide +kernel
theorem dX1_fetch_0 : decode cX1_fetch 0 = .ok (.aload_n 0, 1) := by decide +kernel
theorem dX1_fetch_1 : decode cX1_fetch 1 = .ok (.getfield 12, 3) := by decide +kernel
theorem dX1_fetch_4 : decode cX1_fetch 4 = .ok (.iload_n 1, 1) := by decide +kernel
theorem dX1_fetch_5 : decode cX1_fetch 5 = .ok (.iload_n 2, 1) := by decide +kernel
theorem dX1_fetch_6 : decode cX1_fetch 6 = .ok (.invokevirtual 160, 3) := by decide +kernel
theorem dX1_fetch_9 : decode cX1_fetch 9 = .ok (.ifCond .eq 15, 3) := by decide +kernel
theorem dX1_fetch_12 : decode cX1_fetch 12 = .ok (.aload_n 0, 1) := by decide +kernel
theorem dX1_fetch_13 : decode cX1_fetch 13 = .ok (.getfield 12, 3) := by decide +kernel
theorem dX1_fetch_16 : decode cX1_fetch 16 = .ok (.iload_n 1, 1) := by decide +kernel
theorem dX1_fetch_17 : decode cX1_fetch 17 = .ok (.iload_n 3, 1) := by decide +kernel
theorem dX1_fetch_18 : decode cX1_fetch 18 = .ok (.invokevirtual 160, 3) := by decide +kernel
theorem dX1_fetch_21 : decode cX1_fetch 21 = .ok (.ifCond .ne 4, 3) := by decide +kernel
theorem dX1_fetch_24 : decode cX1_fetch 24 = .ok (.return_, 1) := by decide +kernel
theorem dX1_fetch_25 : decode cX1_fetch 25 = .ok (.aload_n 0, 1) := by decide +kernel
theorem dX1_fetch_26 : decode cX1_fetch 26 = .ok (.getfield 12, 3) := by decide +kernel
theorem dX1_fetch_29 : decode cX1_fetch 29 = .ok (.iload_n 3, 1) := by decide +kernel
theorem dX1_fetch_30 : decode cX1_fetch 30 = .ok (.invokevirtual 98, 3) := by decide +kernel
theorem dX1_fetch_33 : decode cX1_fetch 33 = .ok (.istore 4, 2) := by decide +kernel
theorem dX1_fetch_35 : decode cX1_fetch 35 = .ok (.aload_n 0, 1) := by decide +kernel
theorem dX1_fetch_36 : decode cX1_fetch 36 = .ok (.getfield 12, 3) := by decide +kernel
theorem dX1_fetch_39 : decode cX1_fetch 39 = .ok (.iload_n 2, 1) := by decide +kernel
theorem dX1_fetch_40 : decode cX1_fetch 40 = .ok (.invokevirtual 167, 3) := by decide +kernel
theorem dX1_fetch_43 : decode cX1_fetch 43 = .ok (.iconst (-1), 1) := by decide +kernel
theorem dX1_fetch_44 : decode cX1_fetch 44 = .ok (.if_icmp .eq 25, 3) := by decide +kernel
theorem dX1_fetch_47 : decode cX1_fetch 47 = .ok (.iload 4, 2) := by decide +kernel
theorem dX1_fetch_49 : decode cX1_fetch 49 = .ok (.ifCond .lt 20, 3) := by decide +kernel
theorem dX1_fetch_52 : decode cX1_fetch 52 = .ok (.iload 4, 2) := by decide +kernel
theorem dX1_fetch_54 : decode cX1_fetch 54 = .ok (.aload_n 0, 1) := by decide +kernel
theorem dX1_fetch_55 : decode cX1_fetch 55 = .ok (.getfield 12, 3) := by decide +kernel
theorem dX1_fetch_58 : decode cX1_fetch 58 = .ok (.iload_n 2, 1) := by decide +kernel
theorem dX1_fetch_59 : decode cX1_fetch 59 = .ok (.invokevirtual 98, 3) := by decide +kernel
theorem dX1_fetch_62 : decode cX1_fetch 62 = .ok (.if_icmp .ge 7, 3) := by decide +kernel
theorem dX1_fetch_65 : decode cX1_fetch 65 = .ok (.iconst 1, 1) := by decide +kernel
theorem dX1_fetch_66 : decode cX1_fetch 66 = .ok (.goto 4, 3) := by decide +kernel
theorem dX1_fetch_69 : decode cX1_fetch 69 = .ok (.iconst 0, 1) := by decide +kernel
theorem dX1_fetch_70 : decode cX1_fetch 70 = .ok (.istore 5, 2) := by decide +kernel
theorem dX1_fetch_72 : decode cX1_fetch 72 = .ok (.iload 5, 2) := by decide +kernel
theorem dX1_fetch_74 : decode cX1_fetch 74 = .ok (.ifCond .eq 29, 3) := by decide +kernel
theorem dX1_fetch_77 : decode cX1_fetch 77 = .ok (.aload_n 0, 1) := by decide +kernel
theorem dX1_fetch_78 : decode cX1_fetch 78 = .ok (.getfield 12, 3) := by decide +kernel
theorem dX1_fetch_81 : decode cX1_fetch 81 = .ok (.iload_n 1, 1) := by decide +kernel
theorem dX1_fetch_82 : decode cX1_fetch 82 = .ok (.aload_n 0, 1) := by decide +kernel
theorem dX1_fetch_83 : decode cX1_fetch 83 = .ok (.aload_n 0, 1) := by decide +kernel
theorem dX1_fetch_84 : decode cX1_fetch 84 = .ok (.getfield 12, 3) := by decide +kernel
theorem dX1_fetch_87 : decode cX1_fetch 87 = .ok (.iload_n 2, 1) := by decide +kernel
theorem dX1_fetch_88 : decode cX1_fetch 88 = .ok (.invokevirtual 167, 3) := by decide +kernel
theorem dX1_fetch_91 : decode cX1_fetch 91 = .ok (.iload 4, 2) := by decide +kernel
theorem dX1_fetch_93 : decode cX1_fetch 93 = .ok (.iadd, 1) := by decide +kernel
theorem dX1_fetch_94 : decode cX1_fetch 94 = .ok (.invokevirtual 90, 3) := by decide +kernel
theorem dX1_fetch_97 : decode cX1_fetch 97 = .ok (.invokevirtual 139, 3) := by decide +kernel
theorem dX1_fetch_100 : decode cX1_fetch 100 = .ok (.goto 13, 3) := by decide +kernel
theorem dX1_fetch_103 : decode cX1_fetch 103 = .ok (.aload_n 0, 1) := by decide +kernel
theorem dX1_fetch_104 : decode cX1_fetch 104 = .ok (.getfield 12, 3) := by decide +kernel
theorem dX1_fetch_107 : decode cX1_fetch 107 = .ok (.iload_n 1, 1) := by decide +kernel
theorem dX1_fetch_108 : decode cX1_fetch 108 = .ok (.iconst 0, 1) := by decide +kernel
theorem dX1_fetch_109 : decode cX1_fetch 109 = .ok (.iconst (-1), 1) := by decide +kernel
theorem dX1_fetch_110 : decode cX1_fetch 110 = .ok (.invokevirtual 129, 3) := by decide +kernel
theorem dX1_fetch_113 : decode cX1_fetch 113 = .ok (.return_, 1) := by decide +kernel
theorem dX1_combine_0 : decode cX1_combine 0 = .ok (.aload_n 0, 1) := by decide +kernel
theorem dX1_combine_1 : decode cX1_combine 1 = .ok (.iload_n 1, 1) := by decide +kernel
theorem dX1_combine_2 : decode cX1_combine 2 = .ok (.iload_n 2, 1) := by decide +kernel
theorem dX1_combine_3 : decode cX1_combine 3 = .ok (.iconst 0, 1) := by decide +kernel
theorem dX1_combine_4 : decode cX1_combine 4 = .ok (.invokevirtual 136, 3) := by decide +kernel
theorem dX1_combine_7 : decode cX1_combine 7 = .ok (.istore_n 3, 1) := by decide +kernel
theorem dX1_combine_8 : decode cX1_combine 8 = .ok (.aload_n 0, 1) := by decide +kernel
theorem dX1_combine_9 : decode cX1_combine 9 = .ok (.iload_n 1, 1) := by decide +kernel
theorem dX1_combine_10 : decode cX1_combine 10 = .ok (.iload_n 2, 1) := by decide +kernel
theorem dX1_combine_11 : decode cX1_combine 11 = .ok (.iconst 1, 1) := by decide +kernel
theorem dX1_combine_12 : decode cX1_combine 12 = .ok (.invokevirtual 136, 3) := by decide +kernel
theorem dX1_combine_15 : decode cX1_combine 15 = .ok (.istore 4, 2) := by decide +kernel
theorem dX1_combine_17 : decode cX1_combine 17 = .ok (.aload_n 0, 1) := by decide +kernel
theorem dX1_combine_18 : decode cX1_combine 18 = .ok (.getfield 12, 3) := by decide +kernel
theorem dX1_combine_21 : decode cX1_combine 21 = .ok (.iload_n 1, 1) := by decide +kernel
theorem dX1_combine_22 : decode cX1_combine 22 = .ok (.iload_n 3, 1) := by decide +kernel
theorem dX1_combine_23 : decode cX1_combine 23 = .ok (.invokevirtual 160, 3) := by decide +kernel
theorem dX1_combine_26 : decode cX1_combine 26 = .ok (.ifCond .eq 62, 3) := by decide +kernel
theorem dX1_combine_29 : decode cX1_combine 29 = .ok (.aload_n 0, 1) := by decide +kernel
theorem dX1_combine_30 : decode cX1_combine 30 = .ok (.getfield 12, 3) := by decide +kernel
theorem dX1_combine_33 : decode cX1_combine 33 = .ok (.iload_n 1, 1) := by decide +kernel
theorem dX1_combine_34 : decode cX1_combine 34 = .ok (.iload 4, 2) := by decide +kernel
theorem dX1_combine_36 : decode cX1_combine 36 = .ok (.invokevirtual 160, 3) := by decide +kernel
theorem dX1_combine_39 : decode cX1_combine 39 = .ok (.ifCond .eq 49, 3) := by decide +kernel
theorem dX1_combine_42 : decode cX1_combine 42 = .ok (.aload_n 0, 1) := by decide +kernel
theorem dX1_combine_43 : decode cX1_combine 43 = .ok (.getfield 12, 3) := by decide +kernel
theorem dX1_combine_46 : decode cX1_combine 46 = .ok (.iload_n 3, 1) := by decide +kernel
theorem dX1_combine_47 : decode cX1_combine 47 = .ok (.invokevirtual 98, 3) := by decide +kernel
theorem dX1_combine_50 : decode cX1_combine 50 = .ok (.istore 5, 2) := by decide +kernel
theorem dX1_combine_52 : decode cX1_combine 52 = .ok (.aload_n 0, 1) := by decide +kernel
theorem dX1_combine_53 : decode cX1_combine 53 = .ok (.getfield 12, 3) := by decide +kernel
theorem dX1_combine_56 : decode cX1_combine 56 = .ok (.iload 4, 2) := by decide +kernel
theorem dX1_combine_58 : decode cX1_combine 58 = .ok (.invokevirtual 98, 3) := by decide +kernel
theorem dX1_combine_61 : decode cX1_combine 61 = .ok (.istore 6, 2) := by decide +kernel
theorem dX1_combine_63 : decode cX1_combine 63 = .ok (.aload_n 0, 1) := by decide +kernel
theorem dX1_combine_64 : decode cX1_combine 64 = .ok (.getfield 12, 3) := by decide +kernel
theorem dX1_combine_67 : decode cX1_combine 67 = .ok (.iload_n 1, 1) := by decide +kernel
theorem dX1_combine_68 : decode cX1_combine 68 = .ok (.aload_n 0, 1) := by decide +kernel
theorem dX1_combine_69 : decode cX1_combine 69 = .ok (.getfield 34, 3) := by decide +kernel
theorem dX1_combine_72 : decode cX1_combine 72 = .ok (.getfield 123, 3) := by decide +kernel
theorem dX1_combine_75 : decode cX1_combine 75 = .ok (.iload_n 2, 1) := by decide +kernel
theorem dX1_combine_76 : decode cX1_combine 76 = .ok (.iaload, 1) := by decide +kernel
theorem dX1_combine_77 : decode cX1_combine 77 = .ok (.iload 5, 2) := by decide +kernel
theorem dX1_combine_79 : decode cX1_combine 79 = .ok (.iload 6, 2) := by decide +kernel
theorem dX1_combine_81 : decode cX1_combine 81 = .ok (.invokestatic 170, 3) := by decide +kernel
theorem dX1_combine_84 : decode cX1_combine 84 = .ok (.iconst (-1), 1) := by decide +kernel
theorem dX1_combine_85 : decode cX1_combine 85 = .ok (.invokevirtual 129, 3) := by decide +kernel
theorem dX1_combine_88 : decode cX1_combine 88 = .ok (.return_, 1) := by decide +kernel
theorem dX1_combined_0 : decode cX1_combined 0 = .ok (.iload_n 0, 1) := by decide +kernel
theorem dX1_combined_1 : decode cX1_combined 1 = .ok (.lookupswitch 125 #[(37, 91), (42, 75), (43, 67), (45, 71), (47, 79), (60, 103), (62, 114)], 67) := by decide +kernel
theorem dX1_combined_68 : decode cX1_combined 68 = .ok (.iload_n 1, 1) := by decide +kernel
theorem dX1_combined_69 : decode cX1_combined 69 = .ok (.iload_n 2, 1) := by decide +kernel
theorem dX1_combined_70 : decode cX1_combined 70 = .ok (.iadd, 1) := by decide +kernel
theorem dX1_combined_71 : decode cX1_combined 71 = .ok (.ireturn, 1) := by decide +kernel
theorem dX1_combined_72 : decode cX1_combined 72 = .ok (.iload_n 1, 1) := by decide +kernel
theorem dX1_combined_73 : decode cX1_combined 73 = .ok (.iload_n 2, 1) := by decide +kernel
theorem dX1_combined_74 : decode cX1_combined 74 = .ok (.isub, 1) := by decide +kernel
theorem dX1_combined_75 : decode cX1_combined 75 = .ok (.ireturn, 1) := by decide +kernel
theorem dX1_combined_76 : decode cX1_combined 76 = .ok (.iload_n 1, 1) := by decide +kernel
theorem dX1_combined_77 : decode cX1_combined 77 = .ok (.iload_n 2, 1) := by decide +kernel
theorem dX1_combined_78 : decode cX1_combined 78 = .ok (.imul, 1) := by decide +kernel
theorem dX1_combined_79 : decode cX1_combined 79 = .ok (.ireturn, 1) := by decide +kernel
theorem dX1_combined_80 : decode cX1_combined 80 = .ok (.iload_n 2, 1) := by decide +kernel
theorem dX1_combined_81 : decode cX1_combined 81 = .ok (.ifCond .ne 7, 3) := by decide +kernel
theorem dX1_combined_84 : decode cX1_combined 84 = .ok (.iconst 0, 1) := by decide +kernel
theorem dX1_combined_85 : decode cX1_combined 85 = .ok (.goto 6, 3) := by decide +kernel
theorem dX1_combined_88 : decode cX1_combined 88 = .ok (.iload_n 1, 1) := by decide +kernel
theorem dX1_combined_89 : decode cX1_combined 89 = .ok (.iload_n 2, 1) := by decide +kernel
theorem dX1_combined_90 : decode cX1_combined 90 = .ok (.idiv, 1) := by decide +kernel
theorem dX1_combined_91 : decode cX1_combined 91 = .ok (.ireturn, 1) := by decide +kernel
theorem dX1_combined_92 : decode cX1_combined 92 = .ok (.iload_n 2, 1) := by decide +kernel
theorem dX1_combined_93 : decode cX1_combined 93 = .ok (.ifCond .ne 7, 3) := by decide +kernel
theorem dX1_combined_96 : decode cX1_combined 96 = .ok (.iconst 0, 1) := by decide +kernel
theorem dX1_combined_97 : decode cX1_combined 97 = .ok (.goto 6, 3) := by decide +kernel
theorem dX1_combined_100 : decode cX1_combined 100 = .ok (.iload_n 1, 1) := by decide +kernel
theorem dX1_combined_101 : decode cX1_combined 101 = .ok (.iload_n 2, 1) := by decide +kernel
theorem dX1_combined_102 : decode cX1_combined 102 = .ok (.irem, 1) := by decide +kernel
theorem dX1_combined_103 : decode cX1_combined 103 = .ok (.ireturn, 1) := by decide +kernel
theorem dX1_combined_104 : decode cX1_combined 104 = .ok (.iload_n 1, 1) := by decide +kernel
theorem dX1_combined_105 : decode cX1_combined 105 = .ok (.iload_n 2, 1) := by decide +kernel
theorem dX1_combined_106 : decode cX1_combined 106 = .ok (.if_icmp .ge 7, 3) := by decide +kernel
theorem dX1_combined_109 : decode cX1_combined 109 = .ok (.iconst 1, 1) := by decide +kernel
theorem dX1_combined_110 : decode cX1_combined 110 = .ok (.goto 4, 3) := by decide +kernel
theorem dX1_combined_113 : decode cX1_combined 113 = .ok (.iconst 0, 1) := by decide +kernel
theorem dX1_combined_114 : decode cX1_combined 114 = .ok (.ireturn, 1) := by decide +kernel
theorem dX1_combined_115 : decode cX1_combined 115 = .ok (.iload_n 1, 1) := by decide +kernel
theorem dX1_combined_116 : decode cX1_combined 116 = .ok (.iload_n 2, 1) := by decide +kernel
theorem dX1_combined_117 : decode cX1_combined 117 = .ok (.if_icmp .le 7, 3) := by decide +kernel
theorem dX1_combined_120 : decode cX1_combined 120 = .ok (.iconst 1, 1) := by decide +kernel
theorem dX1_combined_121 : decode cX1_combined 121 = .ok (.goto 4, 3) := by decide +kernel
theorem dX1_combined_124 : decode cX1_combined 124 = .ok (.iconst 0, 1) := by decide +kernel
theorem dX1_combined_125 : decode cX1_combined 125 = .ok (.ireturn, 1) := by decide +kernel
theorem dX1_combined_126 : decode cX1_combined 126 = .ok (.iload_n 1, 1) := by decide +kernel
theorem dX1_combined_127 : decode cX1_combined 127 = .ok (.iload_n 2, 1) := by decide +kernel
theorem dX1_combined_128 : decode cX1_combined 128 = .ok (.if_icmp .ne 7, 3) := by decide +kernel
theorem dX1_combined_131 : decode cX1_combined 131 = .ok (.iconst 1, 1) := by decide +kernel
theorem dX1_combined_132 : decode cX1_combined 132 = .ok (.goto 4, 3) := by decide +kernel
theorem dX1_combined_135 : decode cX1_combined 135 = .ok (.iconst 0, 1) := by decide +kernel
theorem dX1_combined_136 : decode cX1_combined 136 = .ok (.ireturn, 1) := by decide +kernel
theorem dX1_partOf_0 : decode cX1_partOf 0 = .ok (.aload_n 0, 1) := by decide +kernel
theorem dX1_partOf_1 : decode cX1_partOf 1 = .ok (.getfield 22, 3) := by decide +kernel
theorem dX1_partOf_4 : decode cX1_partOf 4 = .ok (.iload_n 1, 1) := by decide +kernel
theorem dX1_partOf_5 : decode cX1_partOf 5 = .ok (.bipush 60, 2) := by decide +kernel
theorem dX1_partOf_7 : decode cX1_partOf 7 = .ok (.idiv, 1) := by decide +kernel
theorem dX1_partOf_8 : decode cX1_partOf 8 = .ok (.iaload, 1) := by decide +kernel
theorem dX1_partOf_9 : decode cX1_partOf 9 = .ok (.bipush 60, 2) := by decide +kernel
theorem dX1_partOf_11 : decode cX1_partOf 11 = .ok (.imul, 1) := by decide +kernel
theorem dX1_partOf_12 : decode cX1_partOf 12 = .ok (.iload_n 1, 1) := by decide +kernel
theorem dX1_partOf_13 : decode cX1_partOf 13 = .ok (.bipush 60, 2) := by decide +kernel
theorem dX1_partOf_15 : decode cX1_partOf 15 = .ok (.irem, 1) := by decide +kernel
theorem dX1_partOf_16 : decode cX1_partOf 16 = .ok (.iadd, 1) := by decide +kernel
theorem dX1_partOf_17 : decode cX1_partOf 17 = .ok (.ireturn, 1) := by decide +kernel
theorem dX1_rootOf_0 : decode cX1_rootOf 0 = .ok (.iload_n 1, 1) := by decide +kernel
theorem dX1_rootOf_1 : decode cX1_rootOf 1 = .ok (.bipush 60, 2) := by decide +kernel
theorem dX1_rootOf_3 : decode cX1_rootOf 3 = .ok (.imul, 1) := by decide +kernel
theorem dX1_rootOf_4 : decode cX1_rootOf 4 = .ok (.aload_n 0, 1) := by decide +kernel
theorem dX1_rootOf_5 : decode cX1_rootOf 5 = .ok (.getfield 34, 3) := by decide +kernel
theorem dX1_rootOf_8 : decode cX1_rootOf 8 = .ok (.getfield 173, 3) := by decide +kernel
theorem dX1_rootOf_11 : decode cX1_rootOf 11 = .ok (.aload_n 0, 1) := by decide +kernel
theorem dX1_rootOf_12 : decode cX1_rootOf 12 = .ok (.getfield 22, 3) := by decide +kernel
theorem dX1_rootOf_15 : decode cX1_rootOf 15 = .ok (.iload_n 1, 1) := by decide +kernel
theorem dX1_rootOf_16 : decode cX1_rootOf 16 = .ok (.iaload, 1) := by decide +kernel
theorem dX1_rootOf_17 : decode cX1_rootOf 17 = .ok (.iaload, 1) := by decide +kernel
theorem dX1_rootOf_18 : decode cX1_rootOf 18 = .ok (.bipush 60, 2) := by decide +kernel
theorem dX1_rootOf_20 : decode cX1_rootOf 20 = .ok (.irem, 1) := by decide +kernel
theorem dX1_rootOf_21 : decode cX1_rootOf 21 = .ok (.iadd, 1) := by decide +kernel
theorem dX1_rootOf_22 : decode cX1_rootOf 22 = .ok (.ireturn, 1) := by decide +kernel
theorem dX1_inside_0 : decode cX1_inside 0 = .ok (.iload_n 1, 1) := by decide +kernel
theorem dX1_inside_1 : decode cX1_inside 1 = .ok (.iload_n 1, 1) := by decide +kernel
theorem dX1_inside_2 : decode cX1_inside 2 = .ok (.bipush 60, 2) := by decide +kernel
theorem dX1_inside_4 : decode cX1_inside 4 = .ok (.irem, 1) := by decide +kernel
theorem dX1_inside_5 : decode cX1_inside 5 = .ok (.isub, 1) := by decide +kernel
theorem dX1_inside_6 : decode cX1_inside 6 = .ok (.istore 4, 2) := by decide +kernel
theorem dX1_inside_8 : decode cX1_inside 8 = .ok (.iload 4, 2) := by decide +kernel
theorem dX1_inside_10 : decode cX1_inside 10 = .ok (.aload_n 0, 1) := by decide +kernel
theorem dX1_inside_11 : decode cX1_inside 11 = .ok (.getfield 34, 3) := by decide +kernel
theorem dX1_inside_14 : decode cX1_inside 14 = .ok (.iload_n 2, 1) := by decide +kernel
theorem dX1_inside_15 : decode cX1_inside 15 = .ok (.iload_n 3, 1) := by decide +kernel
theorem dX1_inside_16 : decode cX1_inside 16 = .ok (.invokevirtual 176, 3) := by decide +kernel
theorem dX1_inside_19 : decode cX1_inside 19 = .ok (.bipush 60, 2) := by decide +kernel
theorem dX1_inside_21 : decode cX1_inside 21 = .ok (.irem, 1) := by decide +kernel
theorem dX1_inside_22 : decode cX1_inside 22 = .ok (.iadd, 1) := by decide +kernel
theorem dX1_inside_23 : decode cX1_inside 23 = .ok (.ireturn, 1) := by decide +kernel
theorem dX2_init_0 : decode cX2_init 0 = .ok (.aload_n 0, 1) := by decide +kernel
theorem dX2_init_1 : decode cX2_init 1 = .ok (.invokespecial 3, 3) := by decide +kernel
theorem dX2_init_4 : decode cX2_init 4 = .ok (.aload_n 0, 1) := by decide +kernel
theorem dX2_init_5 : decode cX2_init 5 = .ok (.bipush 12, 2) := by decide +kernel
theorem dX2_init_7 : decode cX2_init 7 = .ok (.newarray .int, 2) := by decide +kernel
theorem dX2_init_9 : decode cX2_init 9 = .ok (.putfield 9, 3) := by decide +kernel
theorem dX2_init_12 : decode cX2_init 12 = .ok (.aload_n 0, 1) := by decide +kernel
theorem dX2_init_13 : decode cX2_init 13 = .ok (.bipush 12, 2) := by decide +kernel
theorem dX2_init_15 : decode cX2_init 15 = .ok (.newarray .int, 2) := by decide +kernel
theorem dX2_init_17 : decode cX2_init 17 = .ok (.putfield 13, 3) := by decide +kernel
theorem dX2_init_20 : decode cX2_init 20 = .ok (.aload_n 0, 1) := by decide +kernel
theorem dX2_init_21 : decode cX2_init 21 = .ok (.bipush 12, 2) := by decide +kernel
theorem dX2_init_23 : decode cX2_init 23 = .ok (.newarray .int, 2) := by decide +kernel
theorem dX2_init_25 : decode cX2_init 25 = .ok (.putfield 16, 3) := by decide +kernel
theorem dX2_init_28 : decode cX2_init 28 = .ok (.aload_n 0, 1) := by decide +kernel
theorem dX2_init_29 : decode cX2_init 29 = .ok (.sipush 720, 3) := by decide +kernel
theorem dX2_init_32 : decode cX2_init 32 = .ok (.newarray .int, 2) := by decide +kernel
theorem dX2_init_34 : decode cX2_init 34 = .ok (.putfield 19, 3) := by decide +kernel
theorem dX2_init_37 : decode cX2_init 37 = .ok (.aload_n 0, 1) := by decide +kernel
theorem dX2_init_38 : decode cX2_init 38 = .ok (.sipush 720, 3) := by decide +kernel
theorem dX2_init_41 : decode cX2_init 41 = .ok (.newarray .int, 2) := by decide +kernel
theorem dX2_init_43 : decode cX2_init 43 = .ok (.putfield 22, 3) := by decide +kernel
theorem dX2_init_46 : decode cX2_init 46 = .ok (.aload_n 0, 1) := by decide +kernel
theorem dX2_init_47 : decode cX2_init 47 = .ok (.sipush 720, 3) := by decide +kernel
theorem dX2_init_50 : decode cX2_init 50 = .ok (.newarray .int, 2) := by decide +kernel
theorem dX2_init_52 : decode cX2_init 52 = .ok (.putfield 25, 3) := by decide +kernel
theorem dX2_init_55 : decode cX2_init 55 = .ok (.aload_n 0, 1) := by decide +kernel
theorem dX2_init_56 : decode cX2_init 56 = .ok (.sipush 4320, 3) := by decide +kernel
theorem dX2_init_59 : decode cX2_init 59 = .ok (.newarray .int, 2) := by decide +kernel
theorem dX2_init_61 : decode cX2_init 61 = .ok (.putfield 28, 3) := by decide +kernel
theorem dX2_init_64 : decode cX2_init 64 = .ok (.return_, 1) := by decide +kernel
theorem dX2_isFull_0 : decode cX2_isFull 0 = .ok (.aload_n 0, 1) := by decide +kernel
theorem dX2_isFull_1 : decode cX2_isFull 1 = .ok (.getfield 13, 3) := by decide +kernel
theorem dX2_isFull_4 : decode cX2_isFull 4 = .ok (.iload_n 1, 1) := by decide +kernel
theorem dX2_isFull_5 : decode cX2_isFull 5 = .ok (.iaload, 1) := by decide +kernel
theorem dX2_isFull_6 : decode cX2_isFull 6 = .ok (.bipush 60, 2) := by decide +kernel
theorem dX2_isFull_8 : decode cX2_isFull 8 = .ok (.if_icmp .lt 7, 3) := by decide +kernel
theorem dX2_isFull_11 : decode cX2_isFull 11 = .ok (.iconst 1, 1) := by decide +kernel
theorem dX2_isFull_12 : decode cX2_isFull 12 = .ok (.goto 4, 3) := by decide +kernel
theorem dX2_isFull_15 : decode cX2_isFull 15 = .ok (.iconst 0, 1) := by decide +kernel
theorem dX2_isFull_16 : decode cX2_isFull 16 = .ok (.ireturn, 1) := by decide +kernel
theorem dX2_addPart_0 : decode cX2_addPart 0 = .ok (.iload_n 1, 1) := by decide +kernel
theorem dX2_addPart_1 : decode cX2_addPart 1 = .ok (.bipush 60, 2) := by decide +kernel
theorem dX2_addPart_3 : decode cX2_addPart 3 = .ok (.imul, 1) := by decide +kernel
theorem dX2_addPart_4 : decode cX2_addPart 4 = .ok (.aload_n 0, 1) := by decide +kernel
theorem dX2_addPart_5 : decode cX2_addPart 5 = .ok (.getfield 13, 3) := by decide +kernel
theorem dX2_addPart_8 : decode cX2_addPart 8 = .ok (.iload_n 1, 1) := by decide +kernel
theorem dX2_addPart_9 : decode cX2_addPart 9 = .ok (.iaload, 1) := by decide +kernel
theorem dX2_addPart_10 : decode cX2_addPart 10 = .ok (.iadd, 1) := by decide +kernel
theorem dX2_addPart_11 : decode cX2_addPart 11 = .ok (.istore 4, 2) := by decide +kernel
theorem dX2_addPart_13 : decode cX2_addPart 13 = .ok (.aload_n 0, 1) := by decide +kernel
theorem dX2_addPart_14 : decode cX2_addPart 14 = .ok (.getfield 13, 3) := by decide +kernel
theorem dX2_addPart_17 : decode cX2_addPart 17 = .ok (.iload_n 1, 1) := by decide +kernel
theorem dX2_addPart_18 : decode cX2_addPart 18 = .ok (.dup2, 1) := by decide +kernel
theorem dX2_addPart_19 : decode cX2_addPart 19 = .ok (.iaload, 1) := by decide +kernel
theorem dX2_addPart_20 : decode cX2_addPart 20 = .ok (.iconst 1, 1) := by decide +kernel
theorem dX2_addPart_21 : decode cX2_addPart 21 = .ok (.iadd, 1) := by decide +kernel
theorem dX2_addPart_22 : decode cX2_addPart 22 = .ok (.iastore, 1) := by decide +kernel
theorem dX2_addPart_23 : decode cX2_addPart 23 = .ok (.aload_n 0, 1) := by decide +kernel
theorem dX2_addPart_24 : decode cX2_addPart 24 = .ok (.getfield 19, 3) := by decide +kernel
theorem dX2_addPart_27 : decode cX2_addPart 27 = .ok (.iload 4, 2) := by decide +kernel
theorem dX2_addPart_29 : decode cX2_addPart 29 = .ok (.iload_n 2, 1) := by decide +kernel
theorem dX2_addPart_30 : decode cX2_addPart 30 = .ok (.iastore, 1) := by decide +kernel
theorem dX2_addPart_31 : decode cX2_addPart 31 = .ok (.aload_n 0, 1) := by decide +kernel
theorem dX2_addPart_32 : decode cX2_addPart 32 = .ok (.getfield 22, 3) := by decide +kernel
theorem dX2_addPart_35 : decode cX2_addPart 35 = .ok (.iload 4, 2) := by decide +kernel
theorem dX2_addPart_37 : decode cX2_addPart 37 = .ok (.iload_n 3, 1) := by decide +kernel
theorem dX2_addPart_38 : decode cX2_addPart 38 = .ok (.iastore, 1) := by decide +kernel
theorem dX2_addPart_39 : decode cX2_addPart 39 = .ok (.aload_n 0, 1) := by decide +kernel
theorem dX2_addPart_40 : decode cX2_addPart 40 = .ok (.getfield 25, 3) := by decide +kernel
theorem dX2_addPart_43 : decode cX2_addPart 43 = .ok (.iload 4, 2) := by decide +kernel
theorem dX2_addPart_45 : decode cX2_addPart 45 = .ok (.iconst 0, 1) := by decide +kernel
theorem dX2_addPart_46 : decode cX2_addPart 46 = .ok (.iastore, 1) := by decide +kernel
theorem dX2_addPart_47 : decode cX2_addPart 47 = .ok (.iload 4, 2) := by decide +kernel
theorem dX2_addPart_49 : decode cX2_addPart 49 = .ok (.ireturn, 1) := by decide +kernel
theorem dX2_attach_0 : decode cX2_attach 0 = .ok (.aload_n 0, 1) := by decide +kernel
theorem dX2_attach_1 : decode cX2_attach 1 = .ok (.getfield 25, 3) := by decide +kernel
theorem dX2_attach_4 : decode cX2_attach 4 = .ok (.iload_n 1, 1) := by decide +kernel
theorem dX2_attach_5 : decode cX2_attach 5 = .ok (.iaload, 1) := by decide +kernel
theorem dX2_attach_6 : decode cX2_attach 6 = .ok (.bipush 6, 2) := by decide +kernel
theorem dX2_attach_8 : decode cX2_attach 8 = .ok (.if_icmp .ge 20, 3) := by decide +kernel
theorem dX2_attach_11 : decode cX2_attach 11 = .ok (.aload_n 0, 1) := by decide +kernel
theorem dX2_attach_12 : decode cX2_attach 12 = .ok (.getfield 28, 3) := by decide +kernel
theorem dX2_attach_15 : decode cX2_attach 15 = .ok (.iload_n 1, 1) := by decide +kernel
theorem dX2_attach_16 : decode cX2_attach 16 = .ok (.bipush 6, 2) := by decide +kernel
theorem dX2_attach_18 : decode cX2_attach 18 = .ok (.imul, 1) := by decide +kernel
theorem dX2_attach_19 : decode cX2_attach 19 = .ok (.aload_n 0, 1) := by decide +kernel
theorem dX2_attach_20 : decode cX2_attach 20 = .ok (.getfield 25, 3) := by decide +kernel
theorem dX2_attach_23 : decode cX2_attach 23 = .ok (.iload_n 1, 1) := by decide +kernel
theorem dX2_attach_24 : decode cX2_attach 24 = .ok (.iaload, 1) := by decide +kernel
theorem dX2_attach_25 : decode cX2_attach 25 = .ok (.iadd, 1) := by decide +kernel
theorem dX2_attach_26 : decode cX2_attach 26 = .ok (.iload_n 2, 1) := by decide +kernel
theorem dX2_attach_27 : decode cX2_attach 27 = .ok (.iastore, 1) := by decide +kernel
theorem dX2_attach_28 : decode cX2_attach 28 = .ok (.aload_n 0, 1) := by decide +kernel
theorem dX2_attach_29 : decode cX2_attach 29 = .ok (.getfield 25, 3) := by decide +kernel
theorem dX2_attach_32 : decode cX2_attach 32 = .ok (.iload_n 1, 1) := by decide +kernel
theorem dX2_attach_33 : decode cX2_attach 33 = .ok (.dup2, 1) := by decide +kernel
theorem dX2_attach_34 : decode cX2_attach 34 = .ok (.iaload, 1) := by decide +kernel
theorem dX2_attach_35 : decode cX2_attach 35 = .ok (.iconst 1, 1) := by decide +kernel
theorem dX2_attach_36 : decode cX2_attach 36 = .ok (.iadd, 1) := by decide +kernel
theorem dX2_attach_37 : decode cX2_attach 37 = .ok (.iastore, 1) := by decide +kernel
theorem dX2_attach_38 : decode cX2_attach 38 = .ok (.return_, 1) := by decide +kernel
theorem dX2_childOf_0 : decode cX2_childOf 0 = .ok (.aload_n 0, 1) := by decide +kernel
theorem dX2_childOf_1 : decode cX2_childOf 1 = .ok (.getfield 28, 3) := by decide +kernel
theorem dX2_childOf_4 : decode cX2_childOf 4 = .ok (.iload_n 1, 1) := by decide +kernel
theorem dX2_childOf_5 : decode cX2_childOf 5 = .ok (.bipush 6, 2) := by decide +kernel
theorem dX2_childOf_7 : decode cX2_childOf 7 = .ok (.imul, 1) := by decide +kernel
theorem dX2_childOf_8 : decode cX2_childOf 8 = .ok (.iload_n 2, 1) := by decide +kernel
theorem dX2_childOf_9 : decode cX2_childOf 9 = .ok (.iadd, 1) := by decide +kernel
theorem dX2_childOf_10 : decode cX2_childOf 10 = .ok (.iaload, 1) := by decide +kernel
theorem dX2_childOf_11 : decode cX2_childOf 11 = .ok (.ireturn, 1) := by decide +kernel
theorem dX3_init_0 : decode cX3_init 0 = .ok (.aload_n 0, 1) := by decide +kernel
theorem dX3_init_1 : decode cX3_init 1 = .ok (.invokespecial 7, 3) := by decide +kernel
theorem dX3_init_4 : decode cX3_init 4 = .ok (.aload_n 0, 1) := by decide +kernel
theorem dX3_init_5 : decode cX3_init 5 = .ok (.new 13, 3) := by decide +kernel
theorem dX3_init_8 : decode cX3_init 8 = .ok (.dup, 1) := by decide +kernel
theorem dX3_init_9 : decode cX3_init 9 = .ok (.invokespecial 15, 3) := by decide +kernel
theorem dX3_init_12 : decode cX3_init 12 = .ok (.putfield 16, 3) := by decide +kernel
theorem dX3_init_15 : decode cX3_init 15 = .ok (.aload_n 0, 1) := by decide +kernel
theorem dX3_init_16 : decode cX3_init 16 = .ok (.bipush 12, 2) := by decide +kernel
theorem dX3_init_18 : decode cX3_init 18 = .ok (.newarray .long, 2) := by decide +kernel
theorem dX3_init_20 : decode cX3_init 20 = .ok (.putfield 20, 3) := by decide +kernel
theorem dX3_init_23 : decode cX3_init 23 = .ok (.aload_n 0, 1) := by decide +kernel
theorem dX3_init_24 : decode cX3_init 24 = .ok (.bipush 6, 2) := by decide +kernel
theorem dX3_init_26 : decode cX3_init 26 = .ok (.newarray .long, 2) := by decide +kernel
theorem dX3_init_28 : decode cX3_init 28 = .ok (.putfield 24, 3) := by decide +kernel
theorem dX3_init_31 : decode cX3_init 31 = .ok (.aload_n 0, 1) := by decide +kernel
theorem dX3_init_32 : decode cX3_init 32 = .ok (.sipush 720, 3) := by decide +kernel
theorem dX3_init_35 : decode cX3_init 35 = .ok (.newarray .long, 2) := by decide +kernel
theorem dX3_init_37 : decode cX3_init 37 = .ok (.putfield 27, 3) := by decide +kernel
theorem dX3_init_40 : decode cX3_init 40 = .ok (.aload_n 0, 1) := by decide +kernel
theorem dX3_init_41 : decode cX3_init 41 = .ok (.sipush 720, 3) := by decide +kernel
theorem dX3_init_44 : decode cX3_init 44 = .ok (.newarray .int, 2) := by decide +kernel
theorem dX3_init_46 : decode cX3_init 46 = .ok (.putfield 30, 3) := by decide +kernel
theorem dX3_init_49 : decode cX3_init 49 = .ok (.aload_n 0, 1) := by decide +kernel
theorem dX3_init_50 : decode cX3_init 50 = .ok (.bipush 81, 2) := by decide +kernel
theorem dX3_init_52 : decode cX3_init 52 = .ok (.newarray .int, 2) := by decide +kernel
theorem dX3_init_54 : decode cX3_init 54 = .ok (.putfield 34, 3) := by decide +kernel
theorem dX3_init_57 : decode cX3_init 57 = .ok (.aload_n 0, 1) := by decide +kernel
theorem dX3_init_58 : decode cX3_init 58 = .ok (.new 1, 3) := by decide +kernel
theorem dX3_init_61 : decode cX3_init 61 = .ok (.dup, 1) := by decide +kernel
theorem dX3_init_62 : decode cX3_init 62 = .ok (.invokespecial 37, 3) := by decide +kernel
theorem dX3_init_65 : decode cX3_init 65 = .ok (.putfield 38, 3) := by decide +kernel
theorem dX3_init_68 : decode cX3_init 68 = .ok (.return_, 1) := by decide +kernel
theorem dX3_readText_0 : decode cX3_readText 0 = .ok (.aload_n 0, 1) := by decide +kernel
theorem dX3_readText_1 : decode cX3_readText 1 = .ok (.getfield 38, 3) := by decide +kernel
theorem dX3_readText_4 : decode cX3_readText 4 = .ok (.iconst 0, 1) := by decide +kernel
theorem dX3_readText_5 : decode cX3_readText 5 = .ok (.putfield 42, 3) := by decide +kernel
theorem dX3_readText_8 : decode cX3_readText 8 = .ok (.aload_n 0, 1) := by decide +kernel
theorem dX3_readText_9 : decode cX3_readText 9 = .ok (.iconst 0, 1) := by decide +kernel
theorem dX3_readText_10 : decode cX3_readText 10 = .ok (.putfield 46, 3) := by decide +kernel
theorem dX3_readText_13 : decode cX3_readText 13 = .ok (.aload_n 0, 1) := by decide +kernel
theorem dX3_readText_14 : decode cX3_readText 14 = .ok (.iconst (-1), 1) := by decide +kernel
theorem dX3_readText_15 : decode cX3_readText 15 = .ok (.putfield 49, 3) := by decide +kernel
theorem dX3_readText_18 : decode cX3_readText 18 = .ok (.aload_n 0, 1) := by decide +kernel
theorem dX3_readText_19 : decode cX3_readText 19 = .ok (.getfield 16, 3) := by decide +kernel
theorem dX3_readText_22 : decode cX3_readText 22 = .ok (.invokevirtual 52, 3) := by decide +kernel
theorem dX3_readText_25 : decode cX3_readText 25 = .ok (.iconst 0, 1) := by decide +kernel
theorem dX3_readText_26 : decode cX3_readText 26 = .ok (.istore_n 1, 1) := by decide +kernel
theorem dX3_readText_27 : decode cX3_readText 27 = .ok (.iload_n 1, 1) := by decide +kernel
theorem dX3_readText_28 : decode cX3_readText 28 = .ok (.aload_n 0, 1) := by decide +kernel
theorem dX3_readText_29 : decode cX3_readText 29 = .ok (.getfield 16, 3) := by decide +kernel
theorem dX3_readText_32 : decode cX3_readText 32 = .ok (.getfield 55, 3) := by decide +kernel
theorem dX3_readText_35 : decode cX3_readText 35 = .ok (.if_icmp .ge 94, 3) := by decide +kernel
theorem dX3_readText_38 : decode cX3_readText 38 = .ok (.aload_n 0, 1) := by decide +kernel
theorem dX3_readText_39 : decode cX3_readText 39 = .ok (.getfield 49, 3) := by decide +kernel
theorem dX3_readText_42 : decode cX3_readText 42 = .ok (.iconst (-1), 1) := by decide +kernel
theorem dX3_readText_43 : decode cX3_readText 43 = .ok (.if_icmp .ne 86, 3) := by decide +kernel
theorem dX3_readText_46 : decode cX3_readText 46 = .ok (.aload_n 0, 1) := by decide +kernel
theorem dX3_readText_47 : decode cX3_readText 47 = .ok (.getfield 16, 3) := by decide +kernel
theorem dX3_readText_50 : decode cX3_readText 50 = .ok (.getfield 58, 3) := by decide +kernel
theorem dX3_readText_53 : decode cX3_readText 53 = .ok (.ifCond .eq 76, 3) := by decide +kernel
theorem dX3_readText_56 : decode cX3_readText 56 = .ok (.aload_n 0, 1) := by decide +kernel
theorem dX3_readText_57 : decode cX3_readText 57 = .ok (.getfield 46, 3) := by decide +kernel
theorem dX3_readText_60 : decode cX3_readText 60 = .ok (.bipush 6, 2) := by decide +kernel
theorem dX3_readText_62 : decode cX3_readText 62 = .ok (.if_icmp .ne 10, 3) := by decide +kernel
theorem dX3_readText_65 : decode cX3_readText 65 = .ok (.aload_n 0, 1) := by decide +kernel
theorem dX3_readText_66 : decode cX3_readText 66 = .ok (.invokevirtual 61, 3) := by decide +kernel
theorem dX3_readText_69 : decode cX3_readText 69 = .ok (.goto 39, 3) := by decide +kernel
theorem dX3_readText_72 : decode cX3_readText 72 = .ok (.aload_n 0, 1) := by decide +kernel
theorem dX3_readText_73 : decode cX3_readText 73 = .ok (.getfield 46, 3) := by decide +kernel
theorem dX3_readText_76 : decode cX3_readText 76 = .ok (.bipush 7, 2) := by decide +kernel
theorem dX3_readText_78 : decode cX3_readText 78 = .ok (.if_icmp .ne 10, 3) := by decide +kernel
theorem dX3_readText_81 : decode cX3_readText 81 = .ok (.aload_n 0, 1) := by decide +kernel
theorem dX3_readText_82 : decode cX3_readText 82 = .ok (.invokevirtual 64, 3) := by decide +kernel
theorem dX3_readText_85 : decode cX3_readText 85 = .ok (.goto 23, 3) := by decide +kernel
theorem dX3_readText_88 : decode cX3_readText 88 = .ok (.aload_n 0, 1) := by decide +kernel
theorem dX3_readText_89 : decode cX3_readText 89 = .ok (.getfield 46, 3) := by decide +kernel
theorem dX3_readText_92 : decode cX3_readText 92 = .ok (.bipush 6, 2) := by decide +kernel
theorem dX3_readText_94 : decode cX3_readText 94 = .ok (.if_icmp .ge 10, 3) := by decide +kernel
theorem dX3_readText_97 : decode cX3_readText 97 = .ok (.aload_n 0, 1) := by decide +kernel
theorem dX3_readText_98 : decode cX3_readText 98 = .ok (.invokevirtual 67, 3) := by decide +kernel
theorem dX3_readText_101 : decode cX3_readText 101 = .ok (.goto 7, 3) := by decide +kernel
theorem dX3_readText_104 : decode cX3_readText 104 = .ok (.aload_n 0, 1) := by decide +kernel
theorem dX3_readText_105 : decode cX3_readText 105 = .ok (.invokevirtual 70, 3) := by decide +kernel
theorem dX3_readText_108 : decode cX3_readText 108 = .ok (.aload_n 0, 1) := by decide +kernel
theorem dX3_readText_109 : decode cX3_readText 109 = .ok (.getfield 49, 3) := by decide +kernel
theorem dX3_readText_112 : decode cX3_readText 112 = .ok (.iconst (-1), 1) := by decide +kernel
theorem dX3_readText_113 : decode cX3_readText 113 = .ok (.if_icmp .ne 10, 3) := by decide +kernel
theorem dX3_readText_116 : decode cX3_readText 116 = .ok (.aload_n 0, 1) := by decide +kernel
theorem dX3_readText_117 : decode cX3_readText 117 = .ok (.getfield 16, 3) := by decide +kernel
theorem dX3_readText_120 : decode cX3_readText 120 = .ok (.invokevirtual 73, 3) := by decide +kernel
theorem dX3_readText_123 : decode cX3_readText 123 = .ok (.iinc 1 1, 3) := by decide +kernel
theorem dX3_readText_126 : decode cX3_readText 126 = .ok (.goto (-99), 3) := by decide +kernel
theorem dX3_readText_129 : decode cX3_readText 129 = .ok (.aload_n 0, 1) := by decide +kernel
theorem dX3_readText_130 : decode cX3_readText 130 = .ok (.getfield 46, 3) := by decide +kernel
theorem dX3_readText_133 : decode cX3_readText 133 = .ok (.ifCond .ne 17, 3) := by decide +kernel
theorem dX3_readText_136 : decode cX3_readText 136 = .ok (.aload_n 0, 1) := by decide +kernel
theorem dX3_readText_137 : decode cX3_readText 137 = .ok (.getfield 38, 3) := by decide +kernel
theorem dX3_readText_140 : decode cX3_readText 140 = .ok (.getfield 42, 3) := by decide +kernel
theorem dX3_readText_143 : decode cX3_readText 143 = .ok (.ifCond .le 7, 3) := by decide +kernel
theorem dX3_readText_146 : decode cX3_readText 146 = .ok (.iconst 1, 1) := by decide +kernel
theorem dX3_readText_147 : decode cX3_readText 147 = .ok (.goto 4, 3) := by decide +kernel
theorem dX3_readText_150 : decode cX3_readText 150 = .ok (.iconst 0, 1) := by decide +kernel
theorem dX3_readText_151 : decode cX3_readText 151 = .ok (.istore_n 1, 1) := by decide +kernel
theorem dX3_readText_152 : decode cX3_readText 152 = .ok (.aload_n 0, 1) := by decide +kernel
theorem dX3_readText_153 : decode cX3_readText 153 = .ok (.getfield 49, 3) := by decide +kernel
theorem dX3_readText_156 : decode cX3_readText 156 = .ok (.iconst (-1), 1) := by decide +kernel
theorem dX3_readText_157 : decode cX3_readText 157 = .ok (.if_icmp .ne 11, 3) := by decide +kernel
theorem dX3_readText_160 : decode cX3_readText 160 = .ok (.iload_n 1, 1) := by decide +kernel
theorem dX3_readText_161 : decode cX3_readText 161 = .ok (.ifCond .ne 7, 3) := by decide +kernel
theorem dX3_readText_164 : decode cX3_readText 164 = .ok (.aload_n 0, 1) := by decide +kernel
theorem dX3_readText_165 : decode cX3_readText 165 = .ok (.invokevirtual 76, 3) := by decide +kernel
theorem dX3_readText_168 : decode cX3_readText 168 = .ok (.aload_n 0, 1) := by decide +kernel
theorem dX3_readText_169 : decode cX3_readText 169 = .ok (.getfield 49, 3) := by decide +kernel
theorem dX3_readText_172 : decode cX3_readText 172 = .ok (.iconst (-1), 1) := by decide +kernel
theorem dX3_readText_173 : decode cX3_readText 173 = .ok (.if_icmp .ne 7, 3) := by decide +kernel
theorem dX3_readText_176 : decode cX3_readText 176 = .ok (.aload_n 0, 1) := by decide +kernel
theorem dX3_readText_177 : decode cX3_readText 177 = .ok (.invokevirtual 79, 3) := by decide +kernel
theorem dX3_readText_180 : decode cX3_readText 180 = .ok (.aload_n 0, 1) := by decide +kernel
theorem dX3_readText_181 : decode cX3_readText 181 = .ok (.getfield 49, 3) := by decide +kernel
theorem dX3_readText_184 : decode cX3_readText 184 = .ok (.ireturn, 1) := by decide +kernel
theorem dX3_exchangeFor_0 : decode cX3_exchangeFor 0 = .ok (.aload_n 0, 1) := by decide +kernel
theorem dX3_exchangeFor_1 : decode cX3_exchangeFor 1 = .ok (.getfield 38, 3) := by decide +kernel
theorem dX3_exchangeFor_4 : decode cX3_exchangeFor 4 = .ok (.astore_n 2, 1) := by decide +kernel
theorem dX3_exchangeFor_5 : decode cX3_exchangeFor 5 = .ok (.aload_n 0, 1) := by decide +kernel
theorem dX3_exchangeFor_6 : decode cX3_exchangeFor 6 = .ok (.aload_n 1, 1) := by decide +kernel
theorem dX3_exchangeFor_7 : decode cX3_exchangeFor 7 = .ok (.putfield 38, 3) := by decide +kernel
theorem dX3_exchangeFor_10 : decode cX3_exchangeFor 10 = .ok (.aload_n 2, 1) := by decide +kernel
theorem dX3_exchangeFor_11 : decode cX3_exchangeFor 11 = .ok (.areturn, 1) := by decide +kernel
theorem dX3_takeOfHead_0 : decode cX3_takeOfHead 0 = .ok (.aload_n 0, 1) := by decide +kernel
theorem dX3_takeOfHead_1 : decode cX3_takeOfHead 1 = .ok (.getfield 46, 3) := by decide +kernel
theorem dX3_takeOfHead_4 : decode cX3_takeOfHead 4 = .ok (.tableswitch 117 0 4 #[36, 43, 53, 80, 87], 36) := by decide +kernel
theorem dX3_takeOfHead_40 : decode cX3_takeOfHead 40 = .ok (.aload_n 0, 1) := by decide +kernel
theorem dX3_takeOfHead_41 : decode cX3_takeOfHead 41 = .ok (.invokevirtual 82, 3) := by decide +kernel
theorem dX3_takeOfHead_44 : decode cX3_takeOfHead 44 = .ok (.goto 85, 3) := by decide +kernel
theorem dX3_takeOfHead_47 : decode cX3_takeOfHead 47 = .ok (.aload_n 0, 1) := by decide +kernel
theorem dX3_takeOfHead_48 : decode cX3_takeOfHead 48 = .ok (.bipush 40, 2) := by decide +kernel
theorem dX3_takeOfHead_50 : decode cX3_takeOfHead 50 = .ok (.iconst 2, 1) := by decide +kernel
theorem dX3_takeOfHead_51 : decode cX3_takeOfHead 51 = .ok (.invokevirtual 85, 3) := by decide +kernel
theorem dX3_takeOfHead_54 : decode cX3_takeOfHead 54 = .ok (.goto 75, 3) := by decide +kernel
theorem dX3_takeOfHead_57 : decode cX3_takeOfHead 57 = .ok (.aload_n 0, 1) := by decide +kernel
theorem dX3_takeOfHead_58 : decode cX3_takeOfHead 58 = .ok (.getfield 16, 3) := by decide +kernel
theorem dX3_takeOfHead_61 : decode cX3_takeOfHead 61 = .ok (.getfield 58, 3) := by decide +kernel
theorem dX3_takeOfHead_64 : decode cX3_takeOfHead 64 = .ok (.bipush 41, 2) := by decide +kernel
theorem dX3_takeOfHead_66 : decode cX3_takeOfHead 66 = .ok (.if_icmp .ne 11, 3) := by decide +kernel
theorem dX3_takeOfHead_69 : decode cX3_takeOfHead 69 = .ok (.aload_n 0, 1) := by decide +kernel
theorem dX3_takeOfHead_70 : decode cX3_takeOfHead 70 = .ok (.iconst 5, 1) := by decide +kernel
theorem dX3_takeOfHead_71 : decode cX3_takeOfHead 71 = .ok (.putfield 46, 3) := by decide +kernel
theorem dX3_takeOfHead_74 : decode cX3_takeOfHead 74 = .ok (.goto 55, 3) := by decide +kernel
theorem dX3_takeOfHead_77 : decode cX3_takeOfHead 77 = .ok (.aload_n 0, 1) := by decide +kernel
theorem dX3_takeOfHead_78 : decode cX3_takeOfHead 78 = .ok (.invokevirtual 89, 3) := by decide +kernel
theorem dX3_takeOfHead_81 : decode cX3_takeOfHead 81 = .ok (.goto 48, 3) := by decide +kernel
theorem dX3_takeOfHead_84 : decode cX3_takeOfHead 84 = .ok (.aload_n 0, 1) := by decide +kernel
theorem dX3_takeOfHead_85 : decode cX3_takeOfHead 85 = .ok (.invokevirtual 89, 3) := by decide +kernel
theorem dX3_takeOfHead_88 : decode cX3_takeOfHead 88 = .ok (.goto 41, 3) := by decide +kernel
theorem dX3_takeOfHead_91 : decode cX3_takeOfHead 91 = .ok (.aload_n 0, 1) := by decide +kernel
theorem dX3_takeOfHead_92 : decode cX3_takeOfHead 92 = .ok (.getfield 16, 3) := by decide +kernel
theorem dX3_takeOfHead_95 : decode cX3_takeOfHead 95 = .ok (.getfield 58, 3) := by decide +kernel
theorem dX3_takeOfHead_98 : decode cX3_takeOfHead 98 = .ok (.bipush 44, 2) := by decide +kernel
theorem dX3_takeOfHead_100 : decode cX3_takeOfHead 100 = .ok (.if_icmp .ne 11, 3) := by decide +kernel
theorem dX3_takeOfHead_103 : decode cX3_takeOfHead 103 = .ok (.aload_n 0, 1) := by decide +kernel
theorem dX3_takeOfHead_104 : decode cX3_takeOfHead 104 = .ok (.iconst 3, 1) := by decide +kernel
theorem dX3_takeOfHead_105 : decode cX3_takeOfHead 105 = .ok (.putfield 46, 3) := by decide +kernel
theorem dX3_takeOfHead_108 : decode cX3_takeOfHead 108 = .ok (.goto 21, 3) := by decide +kernel
theorem dX3_takeOfHead_111 : decode cX3_takeOfHead 111 = .ok (.aload_n 0, 1) := by decide +kernel
theorem dX3_takeOfHead_112 : decode cX3_takeOfHead 112 = .ok (.bipush 41, 2) := by decide +kernel
theorem dX3_takeOfHead_114 : decode cX3_takeOfHead 114 = .ok (.iconst 5, 1) := by decide +kernel
theorem dX3_takeOfHead_115 : decode cX3_takeOfHead 115 = .ok (.invokevirtual 85, 3) := by decide +kernel
theorem dX3_takeOfHead_118 : decode cX3_takeOfHead 118 = .ok (.goto 11, 3) := by decide +kernel
theorem dX3_takeOfHead_121 : decode cX3_takeOfHead 121 = .ok (.aload_n 0, 1) := by decide +kernel
theorem dX3_takeOfHead_122 : decode cX3_takeOfHead 122 = .ok (.bipush 61, 2) := by decide +kernel
theorem dX3_takeOfHead_124 : decode cX3_takeOfHead 124 = .ok (.bipush 6, 2) := by decide +kernel
theorem dX3_takeOfHead_126 : decode cX3_takeOfHead 126 = .ok (.invokevirtual 85, 3) := by decide +kernel
theorem dX3_takeOfHead_129 : decode cX3_takeOfHead 129 = .ok (.return_, 1) := by decide +kernel
theorem dX3_takeDefinitionName_0 : decode cX3_takeDefinitionName 0 = .ok (.aload_n 0, 1) := by decide +kernel
theorem dX3_takeDefinitionName_1 : decode cX3_takeDefinitionName 1 = .ok (.aload_n 0, 1) := by decide +kernel
theorem dX3_takeDefinitionName_2 : decode cX3_takeDefinitionName 2 = .ok (.getfield 38, 3) := by decide +kernel
theorem dX3_takeDefinitionName_5 : decode cX3_takeDefinitionName 5 = .ok (.getfield 42, 3) := by decide +kernel
theorem dX3_takeDefinitionName_8 : decode cX3_takeDefinitionName 8 = .ok (.putfield 92, 3) := by decide +kernel
theorem dX3_takeDefinitionName_11 : decode cX3_takeDefinitionName 11 = .ok (.aload_n 0, 1) := by decide +kernel
theorem dX3_takeDefinitionName_12 : decode cX3_takeDefinitionName 12 = .ok (.getfield 16, 3) := by decide +kernel
theorem dX3_takeDefinitionName_15 : decode cX3_takeDefinitionName 15 = .ok (.getfield 58, 3) := by decide +kernel
theorem dX3_takeDefinitionName_18 : decode cX3_takeDefinitionName 18 = .ok (.iconst 2, 1) := by decide +kernel
theorem dX3_takeDefinitionName_19 : decode cX3_takeDefinitionName 19 = .ok (.if_icmp .ne 27, 3) := by decide +kernel
theorem dX3_takeDefinitionName_22 : decode cX3_takeDefinitionName 22 = .ok (.aload_n 0, 1) := by decide +kernel
theorem dX3_takeDefinitionName_23 : decode cX3_takeDefinitionName 23 = .ok (.getfield 92, 3) := by decide +kernel
theorem dX3_takeDefinitionName_26 : decode cX3_takeDefinitionName 26 = .ok (.bipush 12, 2) := by decide +kernel
theorem dX3_takeDefinitionName_28 : decode cX3_takeDefinitionName 28 = .ok (.if_icmp .eq 18, 3) := by decide +kernel
theorem dX3_takeDefinitionName_31 : decode cX3_takeDefinitionName 31 = .ok (.aload_n 0, 1) := by decide +kernel
theorem dX3_takeDefinitionName_32 : decode cX3_takeDefinitionName 32 = .ok (.aload_n 0, 1) := by decide +kernel
theorem dX3_takeDefinitionName_33 : decode cX3_takeDefinitionName 33 = .ok (.getfield 16, 3) := by decide +kernel
theorem dX3_takeDefinitionName_36 : decode cX3_takeDefinitionName 36 = .ok (.getfield 95, 3) := by decide +kernel
theorem dX3_takeDefinitionName_39 : decode cX3_takeDefinitionName 39 = .ok (.invokevirtual 99, 3) := by decide +kernel
theorem dX3_takeDefinitionName_42 : decode cX3_takeDefinitionName 42 = .ok (.iconst (-1), 1) := by decide +kernel
theorem dX3_takeDefinitionName_43 : decode cX3_takeDefinitionName 43 = .ok (.if_icmp .eq 8, 3) := by decide +kernel
theorem dX3_takeDefinitionName_46 : decode cX3_takeDefinitionName 46 = .ok (.aload_n 0, 1) := by decide +kernel
theorem dX3_takeDefinitionName_47 : decode cX3_takeDefinitionName 47 = .ok (.invokevirtual 76, 3) := by decide +kernel
theorem dX3_takeDefinitionName_50 : decode cX3_takeDefinitionName 50 = .ok (.return_, 1) := by decide +kernel
theorem dX3_takeDefinitionName_51 : decode cX3_takeDefinitionName 51 = .ok (.aload_n 0, 1) := by decide +kernel
theorem dX3_takeDefinitionName_52 : decode cX3_takeDefinitionName 52 = .ok (.getfield 20, 3) := by decide +kernel
theorem dX3_takeDefinitionName_55 : decode cX3_takeDefinitionName 55 = .ok (.aload_n 0, 1) := by decide +kernel
theorem dX3_takeDefinitionName_56 : decode cX3_takeDefinitionName 56 = .ok (.getfield 92, 3) := by decide +kernel
theorem dX3_takeDefinitionName_59 : decode cX3_takeDefinitionName 59 = .ok (.aload_n 0, 1) := by decide +kernel
theorem dX3_takeDefinitionName_60 : decode cX3_takeDefinitionName 60 = .ok (.getfield 16, 3) := by decide +kernel
theorem dX3_takeDefinitionName_63 : decode cX3_takeDefinitionName 63 = .ok (.getfield 95, 3) := by decide +kernel
theorem dX3_takeDefinitionName_66 : decode cX3_takeDefinitionName 66 = .ok (.lastore, 1) := by decide +kernel
theorem dX3_takeDefinitionName_67 : decode cX3_takeDefinitionName 67 = .ok (.aload_n 0, 1) := by decide +kernel
theorem dX3_takeDefinitionName_68 : decode cX3_takeDefinitionName 68 = .ok (.getfield 38, 3) := by decide +kernel
theorem dX3_takeDefinitionName_71 : decode cX3_takeDefinitionName 71 = .ok (.getfield 103, 3) := by decide +kernel
theorem dX3_takeDefinitionName_74 : decode cX3_takeDefinitionName 74 = .ok (.aload_n 0, 1) := by decide +kernel
theorem dX3_takeDefinitionName_75 : decode cX3_takeDefinitionName 75 = .ok (.getfield 92, 3) := by decide +kernel
theorem dX3_takeDefinitionName_78 : decode cX3_takeDefinitionName 78 = .ok (.iconst 0, 1) := by decide +kernel
theorem dX3_takeDefinitionName_79 : decode cX3_takeDefinitionName 79 = .ok (.iastore, 1) := by decide +kernel
theorem dX3_takeDefinitionName_80 : decode cX3_takeDefinitionName 80 = .ok (.aload_n 0, 1) := by decide +kernel
theorem dX3_takeDefinitionName_81 : decode cX3_takeDefinitionName 81 = .ok (.getfield 38, 3) := by decide +kernel
theorem dX3_takeDefinitionName_84 : decode cX3_takeDefinitionName 84 = .ok (.getfield 106, 3) := by decide +kernel
theorem dX3_takeDefinitionName_87 : decode cX3_takeDefinitionName 87 = .ok (.aload_n 0, 1) := by decide +kernel
theorem dX3_takeDefinitionName_88 : decode cX3_takeDefinitionName 88 = .ok (.getfield 92, 3) := by decide +kernel
theorem dX3_takeDefinitionName_91 : decode cX3_takeDefinitionName 91 = .ok (.iconst 0, 1) := by decide +kernel
theorem dX3_takeDefinitionName_92 : decode cX3_takeDefinitionName 92 = .ok (.iastore, 1) := by decide +kernel
theorem dX3_takeDefinitionName_93 : decode cX3_takeDefinitionName 93 = .ok (.aload_n 0, 1) := by decide +kernel
theorem dX3_takeDefinitionName_94 : decode cX3_takeDefinitionName 94 = .ok (.iconst 0, 1) := by decide +kernel
theorem dX3_takeDefinitionName_95 : decode cX3_takeDefinitionName 95 = .ok (.putfield 109, 3) := by decide +kernel
theorem dX3_takeDefinitionName_98 : decode cX3_takeDefinitionName 98 = .ok (.aload_n 0, 1) := by decide +kernel
theorem dX3_takeDefinitionName_99 : decode cX3_takeDefinitionName 99 = .ok (.iconst 0, 1) := by decide +kernel
theorem dX3_takeDefinitionName_100 : decode cX3_takeDefinitionName 100 = .ok (.putfield 112, 3) := by decide +kernel
theorem dX3_takeDefinitionName_103 : decode cX3_takeDefinitionName 103 = .ok (.aload_n 0, 1) := by decide +kernel
theorem dX3_takeDefinitionName_104 : decode cX3_takeDefinitionName 104 = .ok (.iconst (-1), 1) := by decide +kernel
theorem dX3_takeDefinitionName_105 : decode cX3_takeDefinitionName 105 = .ok (.iconst 1, 1) := by decide +kernel
theorem dX3_takeDefinitionName_106 : decode cX3_takeDefinitionName 106 = .ok (.invokevirtual 115, 3) := by decide +kernel
theorem dX3_takeDefinitionName_109 : decode cX3_takeDefinitionName 109 = .ok (.return_, 1) := by decide +kernel
theorem dX3_takeArgumentName_0 : decode cX3_takeArgumentName 0 = .ok (.aload_n 0, 1) := by decide +kernel
theorem dX3_takeArgumentName_1 : decode cX3_takeArgumentName 1 = .ok (.getfield 38, 3) := by decide +kernel
theorem dX3_takeArgumentName_4 : decode cX3_takeArgumentName 4 = .ok (.getfield 103, 3) := by decide +kernel
theorem dX3_takeArgumentName_7 : decode cX3_takeArgumentName 7 = .ok (.aload_n 0, 1) := by decide +kernel
theorem dX3_takeArgumentName_8 : decode cX3_takeArgumentName 8 = .ok (.getfield 92, 3) := by decide +kernel
theorem dX3_takeArgumentName_11 : decode cX3_takeArgumentName 11 = .ok (.iaload, 1) := by decide +kernel
theorem dX3_takeArgumentName_12 : decode cX3_takeArgumentName 12 = .ok (.istore_n 1, 1) := by decide +kernel
theorem dX3_takeArgumentName_13 : decode cX3_takeArgumentName 13 = .ok (.aload_n 0, 1) := by decide +kernel
theorem dX3_takeArgumentName_14 : decode cX3_takeArgumentName 14 = .ok (.getfield 16, 3) := by decide +kernel
theorem dX3_takeArgumentName_17 : decode cX3_takeArgumentName 17 = .ok (.getfield 58, 3) := by decide +kernel
theorem dX3_takeArgumentName_20 : decode cX3_takeArgumentName 20 = .ok (.iconst 2, 1) := by decide +kernel
theorem dX3_takeArgumentName_21 : decode cX3_takeArgumentName 21 = .ok (.if_icmp .ne 24, 3) := by decide +kernel
theorem dX3_takeArgumentName_24 : decode cX3_takeArgumentName 24 = .ok (.iload_n 1, 1) := by decide +kernel
theorem dX3_takeArgumentName_25 : decode cX3_takeArgumentName 25 = .ok (.bipush 6, 2) := by decide +kernel
theorem dX3_takeArgumentName_27 : decode cX3_takeArgumentName 27 = .ok (.if_icmp .eq 18, 3) := by decide +kernel
theorem dX3_takeArgumentName_30 : decode cX3_takeArgumentName 30 = .ok (.aload_n 0, 1) := by decide +kernel
theorem dX3_takeArgumentName_31 : decode cX3_takeArgumentName 31 = .ok (.aload_n 0, 1) := by decide +kernel
theorem dX3_takeArgumentName_32 : decode cX3_takeArgumentName 32 = .ok (.getfield 16, 3) := by decide +kernel
theorem dX3_takeArgumentName_35 : decode cX3_takeArgumentName 35 = .ok (.getfield 95, 3) := by decide +kernel
theorem dX3_takeArgumentName_38 : decode cX3_takeArgumentName 38 = .ok (.invokevirtual 118, 3) := by decide +kernel
theorem dX3_takeArgumentName_41 : decode cX3_takeArgumentName 41 = .ok (.iconst (-1), 1) := by decide +kernel
theorem dX3_takeArgumentName_42 : decode cX3_takeArgumentName 42 = .ok (.if_icmp .eq 8, 3) := by decide +kernel
theorem dX3_takeArgumentName_45 : decode cX3_takeArgumentName 45 = .ok (.aload_n 0, 1) := by decide +kernel
theorem dX3_takeArgumentName_46 : decode cX3_takeArgumentName 46 = .ok (.invokevirtual 76, 3) := by decide +kernel
theorem dX3_takeArgumentName_49 : decode cX3_takeArgumentName 49 = .ok (.return_, 1) := by decide +kernel
theorem dX3_takeArgumentName_50 : decode cX3_takeArgumentName 50 = .ok (.aload_n 0, 1) := by decide +kernel
theorem dX3_takeArgumentName_51 : decode cX3_takeArgumentName 51 = .ok (.getfield 24, 3) := by decide +kernel
theorem dX3_takeArgumentName_54 : decode cX3_takeArgumentName 54 = .ok (.iload_n 1, 1) := by decide +kernel
theorem dX3_takeArgumentName_55 : decode cX3_takeArgumentName 55 = .ok (.aload_n 0, 1) := by decide +kernel
theorem dX3_takeArgumentName_56 : decode cX3_takeArgumentName 56 = .ok (.getfield 16, 3) := by decide +kernel
theorem dX3_takeArgumentName_59 : decode cX3_takeArgumentName 59 = .ok (.getfield 95, 3) := by decide +kernel
theorem dX3_takeArgumentName_62 : decode cX3_takeArgumentName 62 = .ok (.lastore, 1) := by decide +kernel
theorem dX3_takeArgumentName_63 : decode cX3_takeArgumentName 63 = .ok (.aload_n 0, 1) := by decide +kernel
theorem dX3_takeArgumentName_64 : decode cX3_takeArgumentName 64 = .ok (.getfield 38, 3) := by decide +kernel
theorem dX3_takeArgumentName_67 : decode cX3_takeArgumentName 67 = .ok (.getfield 103, 3) := by decide +kernel
theorem dX3_takeArgumentName_70 : decode cX3_takeArgumentName 70 = .ok (.aload_n 0, 1) := by decide +kernel
theorem dX3_takeArgumentName_71 : decode cX3_takeArgumentName 71 = .ok (.getfield 92, 3) := by decide +kernel
theorem dX3_takeArgumentName_74 : decode cX3_takeArgumentName 74 = .ok (.dup2, 1) := by decide +kernel
theorem dX3_takeArgumentName_75 : decode cX3_takeArgumentName 75 = .ok (.iaload, 1) := by decide +kernel
theorem dX3_takeArgumentName_76 : decode cX3_takeArgumentName 76 = .ok (.iconst 1, 1) := by decide +kernel
theorem dX3_takeArgumentName_77 : decode cX3_takeArgumentName 77 = .ok (.iadd, 1) := by decide +kernel
theorem dX3_takeArgumentName_78 : decode cX3_takeArgumentName 78 = .ok (.iastore, 1) := by decide +kernel
theorem dX3_takeArgumentName_79 : decode cX3_takeArgumentName 79 = .ok (.aload_n 0, 1) := by decide +kernel
theorem dX3_takeArgumentName_80 : decode cX3_takeArgumentName 80 = .ok (.iconst 4, 1) := by decide +kernel
theorem dX3_takeArgumentName_81 : decode cX3_takeArgumentName 81 = .ok (.putfield 46, 3) := by decide +kernel
theorem dX3_takeArgumentName_84 : decode cX3_takeArgumentName 84 = .ok (.return_, 1) := by decide +kernel
theorem dX3_takeBeginning_0 : decode cX3_takeBeginning 0 = .ok (.aload_n 0, 1) := by decide +kernel
theorem dX3_takeBeginning_1 : decode cX3_takeBeginning 1 = .ok (.getfield 16, 3) := by decide +kernel
theorem dX3_takeBeginning_4 : decode cX3_takeBeginning 4 = .ok (.getfield 58, 3) := by decide +kernel
theorem dX3_takeBeginning_7 : decode cX3_takeBeginning 7 = .ok (.bipush 40, 2) := by decide +kernel
theorem dX3_takeBeginning_9 : decode cX3_takeBeginning 9 = .ok (.if_icmp .eq 22, 3) := by decide +kernel
theorem dX3_takeBeginning_12 : decode cX3_takeBeginning 12 = .ok (.aload_n 0, 1) := by decide +kernel
theorem dX3_takeBeginning_13 : decode cX3_takeBeginning 13 = .ok (.getfield 38, 3) := by decide +kernel
theorem dX3_takeBeginning_16 : decode cX3_takeBeginning 16 = .ok (.aload_n 0, 1) := by decide +kernel
theorem dX3_takeBeginning_17 : decode cX3_takeBeginning 17 = .ok (.getfield 92, 3) := by decide +kernel
theorem dX3_takeBeginning_20 : decode cX3_takeBeginning 20 = .ok (.invokevirtual 121, 3) := by decide +kernel
theorem dX3_takeBeginning_23 : decode cX3_takeBeginning 23 = .ok (.ifCond .eq 8, 3) := by decide +kernel
theorem dX3_takeBeginning_26 : decode cX3_takeBeginning 26 = .ok (.aload_n 0, 1) := by decide +kernel
theorem dX3_takeBeginning_27 : decode cX3_takeBeginning 27 = .ok (.invokevirtual 76, 3) := by decide +kernel
theorem dX3_takeBeginning_30 : decode cX3_takeBeginning 30 = .ok (.return_, 1) := by decide +kernel
theorem dX3_takeBeginning_31 : decode cX3_takeBeginning 31 = .ok (.aload_n 0, 1) := by decide +kernel
theorem dX3_takeBeginning_32 : decode cX3_takeBeginning 32 = .ok (.getfield 16, 3) := by decide +kernel
theorem dX3_takeBeginning_35 : decode cX3_takeBeginning 35 = .ok (.getfield 58, 3) := by decide +kernel
theorem dX3_takeBeginning_38 : decode cX3_takeBeginning 38 = .ok (.lookupswitch 125 #[(2, 81), (3, 66), (4, 100), (7, 100), (9, 88), (40, 118), (45, 107)], 66) := by decide +kernel
theorem dX3_takeBeginning_104 : decode cX3_takeBeginning 104 = .ok (.aload_n 0, 1) := by decide +kernel
theorem dX3_takeBeginning_105 : decode cX3_takeBeginning 105 = .ok (.iconst 1, 1) := by decide +kernel
theorem dX3_takeBeginning_106 : decode cX3_takeBeginning 106 = .ok (.aload_n 0, 1) := by decide +kernel
theorem dX3_takeBeginning_107 : decode cX3_takeBeginning 107 = .ok (.getfield 16, 3) := by decide +kernel
theorem dX3_takeBeginning_110 : decode cX3_takeBeginning 110 = .ok (.getfield 125, 3) := by decide +kernel
theorem dX3_takeBeginning_113 : decode cX3_takeBeginning 113 = .ok (.invokevirtual 128, 3) := by decide +kernel
theorem dX3_takeBeginning_116 : decode cX3_takeBeginning 116 = .ok (.goto 51, 3) := by decide +kernel
theorem dX3_takeBeginning_119 : decode cX3_takeBeginning 119 = .ok (.aload_n 0, 1) := by decide +kernel
theorem dX3_takeBeginning_120 : decode cX3_takeBeginning 120 = .ok (.invokevirtual 131, 3) := by decide +kernel
theorem dX3_takeBeginning_123 : decode cX3_takeBeginning 123 = .ok (.goto 44, 3) := by decide +kernel
theorem dX3_takeBeginning_126 : decode cX3_takeBeginning 126 = .ok (.aload_n 0, 1) := by decide +kernel
theorem dX3_takeBeginning_127 : decode cX3_takeBeginning 127 = .ok (.bipush 8, 2) := by decide +kernel
theorem dX3_takeBeginning_129 : decode cX3_takeBeginning 129 = .ok (.bipush 10, 2) := by decide +kernel
theorem dX3_takeBeginning_131 : decode cX3_takeBeginning 131 = .ok (.invokevirtual 134, 3) := by decide +kernel
theorem dX3_takeBeginning_134 : decode cX3_takeBeginning 134 = .ok (.pop, 1) := by decide +kernel
theorem dX3_takeBeginning_135 : decode cX3_takeBeginning 135 = .ok (.goto 32, 3) := by decide +kernel
theorem dX3_takeBeginning_138 : decode cX3_takeBeginning 138 = .ok (.aload_n 0, 1) := by decide +kernel
theorem dX3_takeBeginning_139 : decode cX3_takeBeginning 139 = .ok (.invokevirtual 138, 3) := by decide +kernel
theorem dX3_takeBeginning_142 : decode cX3_takeBeginning 142 = .ok (.goto 25, 3) := by decide +kernel
theorem dX3_takeBeginning_145 : decode cX3_takeBeginning 145 = .ok (.aload_n 0, 1) := by decide +kernel
theorem dX3_takeBeginning_146 : decode cX3_takeBeginning 146 = .ok (.iconst 4, 1) := by decide +kernel
theorem dX3_takeBeginning_147 : decode cX3_takeBeginning 147 = .ok (.bipush 6, 2) := by decide +kernel
theorem dX3_takeBeginning_149 : decode cX3_takeBeginning 149 = .ok (.invokevirtual 134, 3) := by decide +kernel
theorem dX3_takeBeginning_152 : decode cX3_takeBeginning 152 = .ok (.pop, 1) := by decide +kernel
theorem dX3_takeBeginning_153 : decode cX3_takeBeginning 153 = .ok (.goto 14, 3) := by decide +kernel
theorem dX3_takeBeginning_156 : decode cX3_takeBeginning 156 = .ok (.aload_n 0, 1) := by decide +kernel
theorem dX3_takeBeginning_157 : decode cX3_takeBeginning 157 = .ok (.invokevirtual 141, 3) := by decide +kernel
theorem dX3_takeBeginning_160 : decode cX3_takeBeginning 160 = .ok (.goto 7, 3) := by decide +kernel
theorem dX3_takeBeginning_163 : decode cX3_takeBeginning 163 = .ok (.aload_n 0, 1) := by decide +kernel
theorem dX3_takeBeginning_164 : decode cX3_takeBeginning 164 = .ok (.invokevirtual 76, 3) := by decide +kernel
theorem dX3_takeBeginning_167 : decode cX3_takeBeginning 167 = .ok (.return_, 1) := by decide +kernel
theorem dX3_takeName_0 : decode cX3_takeName 0 = .ok (.aload_n 0, 1) := by decide +kernel
theorem dX3_takeName_1 : decode cX3_takeName 1 = .ok (.getfield 16, 3) := by decide +kernel
theorem dX3_takeName_4 : decode cX3_takeName 4 = .ok (.invokevirtual 144, 3) := by decide +kernel
theorem dX3_takeName_7 : decode cX3_takeName 7 = .ok (.ifCond .eq 18, 3) := by decide +kernel
theorem dX3_takeName_10 : decode cX3_takeName 10 = .ok (.aload_n 0, 1) := by decide +kernel
theorem dX3_takeName_11 : decode cX3_takeName 11 = .ok (.bipush 7, 2) := by decide +kernel
theorem dX3_takeName_13 : decode cX3_takeName 13 = .ok (.bipush 8, 2) := by decide +kernel
theorem dX3_takeName_15 : decode cX3_takeName 15 = .ok (.invokevirtual 134, 3) := by decide +kernel
theorem dX3_takeName_18 : decode cX3_takeName 18 = .ok (.istore_n 1, 1) := by decide +kernel
theorem dX3_takeName_19 : decode cX3_takeName 19 = .ok (.aload_n 0, 1) := by decide +kernel
theorem dX3_takeName_20 : decode cX3_takeName 20 = .ok (.iload_n 1, 1) := by decide +kernel
theorem dX3_takeName_21 : decode cX3_takeName 21 = .ok (.invokevirtual 148, 3) := by decide +kernel
theorem dX3_takeName_24 : decode cX3_takeName 24 = .ok (.return_, 1) := by decide +kernel
theorem dX3_takeName_25 : decode cX3_takeName 25 = .ok (.aload_n 0, 1) := by decide +kernel
theorem dX3_takeName_26 : decode cX3_takeName 26 = .ok (.aload_n 0, 1) := by decide +kernel
theorem dX3_takeName_27 : decode cX3_takeName 27 = .ok (.getfield 16, 3) := by decide +kernel
theorem dX3_takeName_30 : decode cX3_takeName 30 = .ok (.getfield 95, 3) := by decide +kernel
theorem dX3_takeName_33 : decode cX3_takeName 33 = .ok (.invokevirtual 152, 3) := by decide +kernel
theorem dX3_takeName_36 : decode cX3_takeName 36 = .ok (.istore_n 1, 1) := by decide +kernel
theorem dX3_takeName_37 : decode cX3_takeName 37 = .ok (.aload_n 0, 1) := by decide +kernel
theorem dX3_takeName_38 : decode cX3_takeName 38 = .ok (.aload_n 0, 1) := by decide +kernel
theorem dX3_takeName_39 : decode cX3_takeName 39 = .ok (.getfield 16, 3) := by decide +kernel
theorem dX3_takeName_42 : decode cX3_takeName 42 = .ok (.getfield 95, 3) := by decide +kernel
theorem dX3_takeName_45 : decode cX3_takeName 45 = .ok (.invokevirtual 118, 3) := by decide +kernel
theorem dX3_takeName_48 : decode cX3_takeName 48 = .ok (.istore_n 2, 1) := by decide +kernel
theorem dX3_takeName_49 : decode cX3_takeName 49 = .ok (.iload_n 1, 1) := by decide +kernel
theorem dX3_takeName_50 : decode cX3_takeName 50 = .ok (.iconst (-1), 1) := by decide +kernel
theorem dX3_takeName_51 : decode cX3_takeName 51 = .ok (.if_icmp .eq 12, 3) := by decide +kernel
theorem dX3_takeName_54 : decode cX3_takeName 54 = .ok (.aload_n 0, 1) := by decide +kernel
theorem dX3_takeName_55 : decode cX3_takeName 55 = .ok (.iconst 3, 1) := by decide +kernel
theorem dX3_takeName_56 : decode cX3_takeName 56 = .ok (.iload_n 1, 1) := by decide +kernel
theorem dX3_takeName_57 : decode cX3_takeName 57 = .ok (.invokevirtual 128, 3) := by decide +kernel
theorem dX3_takeName_60 : decode cX3_takeName 60 = .ok (.goto 21, 3) := by decide +kernel
theorem dX3_takeName_63 : decode cX3_takeName 63 = .ok (.iload_n 2, 1) := by decide +kernel
theorem dX3_takeName_64 : decode cX3_takeName 64 = .ok (.iconst (-1), 1) := by decide +kernel
theorem dX3_takeName_65 : decode cX3_takeName 65 = .ok (.if_icmp .eq 12, 3) := by decide +kernel
theorem dX3_takeName_68 : decode cX3_takeName 68 = .ok (.aload_n 0, 1) := by decide +kernel
theorem dX3_takeName_69 : decode cX3_takeName 69 = .ok (.iconst 2, 1) := by decide +kernel
theorem dX3_takeName_70 : decode cX3_takeName 70 = .ok (.iload_n 2, 1) := by decide +kernel
theorem dX3_takeName_71 : decode cX3_takeName 71 = .ok (.invokevirtual 128, 3) := by decide +kernel
theorem dX3_takeName_74 : decode cX3_takeName 74 = .ok (.goto 7, 3) := by decide +kernel
theorem dX3_takeName_77 : decode cX3_takeName 77 = .ok (.aload_n 0, 1) := by decide +kernel
theorem dX3_takeName_78 : decode cX3_takeName 78 = .ok (.invokevirtual 76, 3) := by decide +kernel
theorem dX3_takeName_81 : decode cX3_takeName 81 = .ok (.return_, 1) := by decide +kernel
theorem dX3_takeIfOrLet_0 : decode cX3_takeIfOrLet 0 = .ok (.aload_n 0, 1) := by decide +kernel
theorem dX3_takeIfOrLet_1 : decode cX3_takeIfOrLet 1 = .ok (.aload_n 0, 1) := by decide +kernel
theorem dX3_takeIfOrLet_2 : decode cX3_takeIfOrLet 2 = .ok (.invokevirtual 155, 3) := by decide +kernel
theorem dX3_takeIfOrLet_5 : decode cX3_takeIfOrLet 5 = .ok (.invokevirtual 159, 3) := by decide +kernel
theorem dX3_takeIfOrLet_8 : decode cX3_takeIfOrLet 8 = .ok (.ifCond .le 7, 3) := by decide +kernel
theorem dX3_takeIfOrLet_11 : decode cX3_takeIfOrLet 11 = .ok (.iconst 1, 1) := by decide +kernel
theorem dX3_takeIfOrLet_12 : decode cX3_takeIfOrLet 12 = .ok (.goto 4, 3) := by decide +kernel
theorem dX3_takeIfOrLet_15 : decode cX3_takeIfOrLet 15 = .ok (.iconst 0, 1) := by decide +kernel
theorem dX3_takeIfOrLet_16 : decode cX3_takeIfOrLet 16 = .ok (.istore_n 1, 1) := by decide +kernel
theorem dX3_takeIfOrLet_17 : decode cX3_takeIfOrLet 17 = .ok (.iload_n 1, 1) := by decide +kernel
theorem dX3_takeIfOrLet_18 : decode cX3_takeIfOrLet 18 = .ok (.ifCond .eq 10, 3) := by decide +kernel
theorem dX3_takeIfOrLet_21 : decode cX3_takeIfOrLet 21 = .ok (.aload_n 0, 1) := by decide +kernel
theorem dX3_takeIfOrLet_22 : decode cX3_takeIfOrLet 22 = .ok (.invokevirtual 76, 3) := by decide +kernel
theorem dX3_takeIfOrLet_25 : decode cX3_takeIfOrLet 25 = .ok (.goto 34, 3) := by decide +kernel
theorem dX3_takeIfOrLet_28 : decode cX3_takeIfOrLet 28 = .ok (.aload_n 0, 1) := by decide +kernel
theorem dX3_takeIfOrLet_29 : decode cX3_takeIfOrLet 29 = .ok (.getfield 16, 3) := by decide +kernel
theorem dX3_takeIfOrLet_32 : decode cX3_takeIfOrLet 32 = .ok (.getfield 58, 3) := by decide +kernel
theorem dX3_takeIfOrLet_35 : decode cX3_takeIfOrLet 35 = .ok (.iconst 4, 1) := by decide +kernel
theorem dX3_takeIfOrLet_36 : decode cX3_takeIfOrLet 36 = .ok (.if_icmp .ne 14, 3) := by decide +kernel
theorem dX3_takeIfOrLet_39 : decode cX3_takeIfOrLet 39 = .ok (.aload_n 0, 1) := by decide +kernel
theorem dX3_takeIfOrLet_40 : decode cX3_takeIfOrLet 40 = .ok (.iconst 5, 1) := by decide +kernel
theorem dX3_takeIfOrLet_41 : decode cX3_takeIfOrLet 41 = .ok (.bipush 6, 2) := by decide +kernel
theorem dX3_takeIfOrLet_43 : decode cX3_takeIfOrLet 43 = .ok (.invokevirtual 134, 3) := by decide +kernel
theorem dX3_takeIfOrLet_46 : decode cX3_takeIfOrLet 46 = .ok (.pop, 1) := by decide +kernel
theorem dX3_takeIfOrLet_47 : decode cX3_takeIfOrLet 47 = .ok (.goto 12, 3) := by decide +kernel
theorem dX3_takeIfOrLet_50 : decode cX3_takeIfOrLet 50 = .ok (.aload_n 0, 1) := by decide +kernel
theorem dX3_takeIfOrLet_51 : decode cX3_takeIfOrLet 51 = .ok (.bipush 6, 2) := by decide +kernel
theorem dX3_takeIfOrLet_53 : decode cX3_takeIfOrLet 53 = .ok (.bipush 13, 2) := by decide +kernel
theorem dX3_takeIfOrLet_55 : decode cX3_takeIfOrLet 55 = .ok (.invokevirtual 134, 3) := by decide +kernel
theorem dX3_takeIfOrLet_58 : decode cX3_takeIfOrLet 58 = .ok (.pop, 1) := by decide +kernel
theorem dX3_takeIfOrLet_59 : decode cX3_takeIfOrLet 59 = .ok (.return_, 1) := by decide +kernel
theorem dX3_takeParenthesis_0 : decode cX3_takeParenthesis 0 = .ok (.aload_n 0, 1) := by decide +kernel
theorem dX3_takeParenthesis_1 : decode cX3_takeParenthesis 1 = .ok (.getfield 112, 3) := by decide +kernel
theorem dX3_takeParenthesis_4 : decode cX3_takeParenthesis 4 = .ok (.bipush 20, 2) := by decide +kernel
theorem dX3_takeParenthesis_6 : decode cX3_takeParenthesis 6 = .ok (.if_icmp .ne 8, 3) := by decide +kernel
theorem dX3_takeParenthesis_9 : decode cX3_takeParenthesis 9 = .ok (.aload_n 0, 1) := by decide +kernel
theorem dX3_takeParenthesis_10 : decode cX3_takeParenthesis 10 = .ok (.invokevirtual 76, 3) := by decide +kernel
theorem dX3_takeParenthesis_13 : decode cX3_takeParenthesis 13 = .ok (.return_, 1) := by decide +kernel
theorem dX3_takeParenthesis_14 : decode cX3_takeParenthesis 14 = .ok (.aload_n 0, 1) := by decide +kernel
theorem dX3_takeParenthesis_15 : decode cX3_takeParenthesis 15 = .ok (.dup, 1) := by decide +kernel
theorem dX3_takeParenthesis_16 : decode cX3_takeParenthesis 16 = .ok (.getfield 112, 3) := by decide +kernel
theorem dX3_takeParenthesis_19 : decode cX3_takeParenthesis 19 = .ok (.iconst 1, 1) := by decide +kernel
theorem dX3_takeParenthesis_20 : decode cX3_takeParenthesis 20 = .ok (.iadd, 1) := by decide +kernel
theorem dX3_takeParenthesis_21 : decode cX3_takeParenthesis 21 = .ok (.putfield 112, 3) := by decide +kernel
theorem dX3_takeParenthesis_24 : decode cX3_takeParenthesis 24 = .ok (.aload_n 0, 1) := by decide +kernel
theorem dX3_takeParenthesis_25 : decode cX3_takeParenthesis 25 = .ok (.bipush (-2), 2) := by decide +kernel
theorem dX3_takeParenthesis_27 : decode cX3_takeParenthesis 27 = .ok (.bipush 6, 2) := by decide +kernel
theorem dX3_takeParenthesis_29 : decode cX3_takeParenthesis 29 = .ok (.invokevirtual 115, 3) := by decide +kernel
theorem dX3_takeParenthesis_32 : decode cX3_takeParenthesis 32 = .ok (.return_, 1) := by decide +kernel
theorem dX3_takeOfCallMakeLet_0 : decode cX3_takeOfCallMakeLet 0 = .ok (.aload_n 0, 1) := by decide +kernel
theorem dX3_takeOfCallMakeLet_1 : decode cX3_takeOfCallMakeLet 1 = .ok (.getfield 46, 3) := by decide +kernel
theorem dX3_takeOfCallMakeLet_4 : decode cX3_takeOfCallMakeLet 4 = .ok (.tableswitch 154 8 13 #[40, 51, 77, 88, 106, 136], 40) := by decide +kernel
theorem dX3_takeOfCallMakeLet_44 : decode cX3_takeOfCallMakeLet 44 = .ok (.aload_n 0, 1) := by decide +kernel
theorem dX3_takeOfCallMakeLet_45 : decode cX3_takeOfCallMakeLet 45 = .ok (.bipush 40, 2) := by decide +kernel
theorem dX3_takeOfCallMakeLet_47 : decode cX3_takeOfCallMakeLet 47 = .ok (.bipush 9, 2) := by decide +kernel
theorem dX3_takeOfCallMakeLet_49 : decode cX3_takeOfCallMakeLet 49 = .ok (.invokevirtual 85, 3) := by decide +kernel
theorem dX3_takeOfCallMakeLet_52 : decode cX3_takeOfCallMakeLet 52 = .ok (.goto 114, 3) := by decide +kernel
theorem dX3_takeOfCallMakeLet_55 : decode cX3_takeOfCallMakeLet 55 = .ok (.aload_n 0, 1) := by decide +kernel
theorem dX3_takeOfCallMakeLet_56 : decode cX3_takeOfCallMakeLet 56 = .ok (.getfield 16, 3) := by decide +kernel
theorem dX3_takeOfCallMakeLet_59 : decode cX3_takeOfCallMakeLet 59 = .ok (.getfield 58, 3) := by decide +kernel
theorem dX3_takeOfCallMakeLet_62 : decode cX3_takeOfCallMakeLet 62 = .ok (.bipush 41, 2) := by decide +kernel
theorem dX3_takeOfCallMakeLet_64 : decode cX3_takeOfCallMakeLet 64 = .ok (.if_icmp .ne 10, 3) := by decide +kernel
theorem dX3_takeOfCallMakeLet_67 : decode cX3_takeOfCallMakeLet 67 = .ok (.aload_n 0, 1) := by decide +kernel
theorem dX3_takeOfCallMakeLet_68 : decode cX3_takeOfCallMakeLet 68 = .ok (.invokevirtual 163, 3) := by decide +kernel
theorem dX3_takeOfCallMakeLet_71 : decode cX3_takeOfCallMakeLet 71 = .ok (.goto 95, 3) := by decide +kernel
theorem dX3_takeOfCallMakeLet_74 : decode cX3_takeOfCallMakeLet 74 = .ok (.aload_n 0, 1) := by decide +kernel
theorem dX3_takeOfCallMakeLet_75 : decode cX3_takeOfCallMakeLet 75 = .ok (.invokevirtual 61, 3) := by decide +kernel
theorem dX3_takeOfCallMakeLet_78 : decode cX3_takeOfCallMakeLet 78 = .ok (.goto 88, 3) := by decide +kernel
theorem dX3_takeOfCallMakeLet_81 : decode cX3_takeOfCallMakeLet 81 = .ok (.aload_n 0, 1) := by decide +kernel
theorem dX3_takeOfCallMakeLet_82 : decode cX3_takeOfCallMakeLet 82 = .ok (.bipush 40, 2) := by decide +kernel
theorem dX3_takeOfCallMakeLet_84 : decode cX3_takeOfCallMakeLet 84 = .ok (.bipush 6, 2) := by decide +kernel
theorem dX3_takeOfCallMakeLet_86 : decode cX3_takeOfCallMakeLet 86 = .ok (.invokevirtual 85, 3) := by decide +kernel
theorem dX3_takeOfCallMakeLet_89 : decode cX3_takeOfCallMakeLet 89 = .ok (.goto 77, 3) := by decide +kernel
theorem dX3_takeOfCallMakeLet_92 : decode cX3_takeOfCallMakeLet 92 = .ok (.aload_n 0, 1) := by decide +kernel
theorem dX3_takeOfCallMakeLet_93 : decode cX3_takeOfCallMakeLet 93 = .ok (.aload_n 0, 1) := by decide +kernel
theorem dX3_takeOfCallMakeLet_94 : decode cX3_takeOfCallMakeLet 94 = .ok (.invokevirtual 155, 3) := by decide +kernel
theorem dX3_takeOfCallMakeLet_97 : decode cX3_takeOfCallMakeLet 97 = .ok (.invokevirtual 148, 3) := by decide +kernel
theorem dX3_takeOfCallMakeLet_100 : decode cX3_takeOfCallMakeLet 100 = .ok (.aload_n 0, 1) := by decide +kernel
theorem dX3_takeOfCallMakeLet_101 : decode cX3_takeOfCallMakeLet 101 = .ok (.iconst 2, 1) := by decide +kernel
theorem dX3_takeOfCallMakeLet_102 : decode cX3_takeOfCallMakeLet 102 = .ok (.bipush 12, 2) := by decide +kernel
theorem dX3_takeOfCallMakeLet_104 : decode cX3_takeOfCallMakeLet 104 = .ok (.invokevirtual 85, 3) := by decide +kernel
theorem dX3_takeOfCallMakeLet_107 : decode cX3_takeOfCallMakeLet 107 = .ok (.goto 59, 3) := by decide +kernel
theorem dX3_takeOfCallMakeLet_110 : decode cX3_takeOfCallMakeLet 110 = .ok (.aload_n 0, 1) := by decide +kernel
theorem dX3_takeOfCallMakeLet_111 : decode cX3_takeOfCallMakeLet 111 = .ok (.getfield 16, 3) := by decide +kernel
theorem dX3_takeOfCallMakeLet_114 : decode cX3_takeOfCallMakeLet 114 = .ok (.getfield 58, 3) := by decide +kernel
theorem dX3_takeOfCallMakeLet_117 : decode cX3_takeOfCallMakeLet 117 = .ok (.bipush 41, 2) := by decide +kernel
theorem dX3_takeOfCallMakeLet_119 : decode cX3_takeOfCallMakeLet 119 = .ok (.if_icmp .ne 10, 3) := by decide +kernel
theorem dX3_takeOfCallMakeLet_122 : decode cX3_takeOfCallMakeLet 122 = .ok (.aload_n 0, 1) := by decide +kernel
theorem dX3_takeOfCallMakeLet_123 : decode cX3_takeOfCallMakeLet 123 = .ok (.invokevirtual 163, 3) := by decide +kernel
theorem dX3_takeOfCallMakeLet_126 : decode cX3_takeOfCallMakeLet 126 = .ok (.goto 40, 3) := by decide +kernel
theorem dX3_takeOfCallMakeLet_129 : decode cX3_takeOfCallMakeLet 129 = .ok (.aload_n 0, 1) := by decide +kernel
theorem dX3_takeOfCallMakeLet_130 : decode cX3_takeOfCallMakeLet 130 = .ok (.bipush 44, 2) := by decide +kernel
theorem dX3_takeOfCallMakeLet_132 : decode cX3_takeOfCallMakeLet 132 = .ok (.bipush 6, 2) := by decide +kernel
theorem dX3_takeOfCallMakeLet_134 : decode cX3_takeOfCallMakeLet 134 = .ok (.invokevirtual 85, 3) := by decide +kernel
theorem dX3_takeOfCallMakeLet_137 : decode cX3_takeOfCallMakeLet 137 = .ok (.goto 29, 3) := by decide +kernel
theorem dX3_takeOfCallMakeLet_140 : decode cX3_takeOfCallMakeLet 140 = .ok (.aload_n 0, 1) := by decide +kernel
theorem dX3_takeOfCallMakeLet_141 : decode cX3_takeOfCallMakeLet 141 = .ok (.aload_n 0, 1) := by decide +kernel
theorem dX3_takeOfCallMakeLet_142 : decode cX3_takeOfCallMakeLet 142 = .ok (.invokevirtual 155, 3) := by decide +kernel
theorem dX3_takeOfCallMakeLet_145 : decode cX3_takeOfCallMakeLet 145 = .ok (.invokevirtual 148, 3) := by decide +kernel
theorem dX3_takeOfCallMakeLet_148 : decode cX3_takeOfCallMakeLet 148 = .ok (.aload_n 0, 1) := by decide +kernel
theorem dX3_takeOfCallMakeLet_149 : decode cX3_takeOfCallMakeLet 149 = .ok (.iconst 2, 1) := by decide +kernel
theorem dX3_takeOfCallMakeLet_150 : decode cX3_takeOfCallMakeLet 150 = .ok (.bipush 14, 2) := by decide +kernel
theorem dX3_takeOfCallMakeLet_152 : decode cX3_takeOfCallMakeLet 152 = .ok (.invokevirtual 85, 3) := by decide +kernel
theorem dX3_takeOfCallMakeLet_155 : decode cX3_takeOfCallMakeLet 155 = .ok (.goto 11, 3) := by decide +kernel
theorem dX3_takeOfCallMakeLet_158 : decode cX3_takeOfCallMakeLet 158 = .ok (.aload_n 0, 1) := by decide +kernel
theorem dX3_takeOfCallMakeLet_159 : decode cX3_takeOfCallMakeLet 159 = .ok (.bipush 61, 2) := by decide +kernel
theorem dX3_takeOfCallMakeLet_161 : decode cX3_takeOfCallMakeLet 161 = .ok (.bipush 6, 2) := by decide +kernel
theorem dX3_takeOfCallMakeLet_163 : decode cX3_takeOfCallMakeLet 163 = .ok (.invokevirtual 85, 3) := by decide +kernel
theorem dX3_takeOfCallMakeLet_166 : decode cX3_takeOfCallMakeLet 166 = .ok (.return_, 1) := by decide +kernel
theorem dX3_takeContinuation_0 : decode cX3_takeContinuation 0 = .ok (.aload_n 0, 1) := by decide +kernel
theorem dX3_takeContinuation_1 : decode cX3_takeContinuation 1 = .ok (.getfield 16, 3) := by decide +kernel
theorem dX3_takeContinuation_4 : decode cX3_takeContinuation 4 = .ok (.getfield 58, 3) := by decide +kernel
theorem dX3_takeContinuation_7 : decode cX3_takeContinuation 7 = .ok (.invokestatic 166, 3) := by decide +kernel
theorem dX3_takeContinuation_10 : decode cX3_takeContinuation 10 = .ok (.istore_n 1, 1) := by decide +kernel
theorem dX3_takeContinuation_11 : decode cX3_takeContinuation 11 = .ok (.iload_n 1, 1) := by decide +kernel
theorem dX3_takeContinuation_12 : decode cX3_takeContinuation 12 = .ok (.ifCond .le 11, 3) := by decide +kernel
theorem dX3_takeContinuation_15 : decode cX3_takeContinuation 15 = .ok (.aload_n 0, 1) := by decide +kernel
theorem dX3_takeContinuation_16 : decode cX3_takeContinuation 16 = .ok (.iload_n 1, 1) := by decide +kernel
theorem dX3_takeContinuation_17 : decode cX3_takeContinuation 17 = .ok (.invokevirtual 169, 3) := by decide +kernel
theorem dX3_takeContinuation_20 : decode cX3_takeContinuation 20 = .ok (.goto 49, 3) := by decide +kernel
theorem dX3_takeContinuation_23 : decode cX3_takeContinuation 23 = .ok (.aload_n 0, 1) := by decide +kernel
theorem dX3_takeContinuation_24 : decode cX3_takeContinuation 24 = .ok (.getfield 16, 3) := by decide +kernel
theorem dX3_takeContinuation_27 : decode cX3_takeContinuation 27 = .ok (.getfield 58, 3) := by decide +kernel
theorem dX3_takeContinuation_30 : decode cX3_takeContinuation 30 = .ok (.bipush 91, 2) := by decide +kernel
theorem dX3_takeContinuation_32 : decode cX3_takeContinuation 32 = .ok (.if_icmp .eq 10, 3) := by decide +kernel
theorem dX3_takeContinuation_35 : decode cX3_takeContinuation 35 = .ok (.aload_n 0, 1) := by decide +kernel
theorem dX3_takeContinuation_36 : decode cX3_takeContinuation 36 = .ok (.invokevirtual 172, 3) := by decide +kernel
theorem dX3_takeContinuation_39 : decode cX3_takeContinuation 39 = .ok (.goto 30, 3) := by decide +kernel
theorem dX3_takeContinuation_42 : decode cX3_takeContinuation 42 = .ok (.aload_n 0, 1) := by decide +kernel
theorem dX3_takeContinuation_43 : decode cX3_takeContinuation 43 = .ok (.getfield 38, 3) := by decide +kernel
theorem dX3_takeContinuation_46 : decode cX3_takeContinuation 46 = .ok (.aload_n 0, 1) := by decide +kernel
theorem dX3_takeContinuation_47 : decode cX3_takeContinuation 47 = .ok (.getfield 92, 3) := by decide +kernel
theorem dX3_takeContinuation_50 : decode cX3_takeContinuation 50 = .ok (.invokevirtual 121, 3) := by decide +kernel
theorem dX3_takeContinuation_53 : decode cX3_takeContinuation 53 = .ok (.ifCond .eq 10, 3) := by decide +kernel
theorem dX3_takeContinuation_56 : decode cX3_takeContinuation 56 = .ok (.aload_n 0, 1) := by decide +kernel
theorem dX3_takeContinuation_57 : decode cX3_takeContinuation 57 = .ok (.invokevirtual 76, 3) := by decide +kernel
theorem dX3_takeContinuation_60 : decode cX3_takeContinuation 60 = .ok (.goto 9, 3) := by decide +kernel
theorem dX3_takeContinuation_63 : decode cX3_takeContinuation 63 = .ok (.aload_n 0, 1) := by decide +kernel
theorem dX3_takeContinuation_64 : decode cX3_takeContinuation 64 = .ok (.bipush 9, 2) := by decide +kernel
theorem dX3_takeContinuation_66 : decode cX3_takeContinuation 66 = .ok (.invokevirtual 175, 3) := by decide +kernel
theorem dX3_takeContinuation_69 : decode cX3_takeContinuation 69 = .ok (.return_, 1) := by decide +kernel
theorem dX3_takeSign_0 : decode cX3_takeSign 0 = .ok (.aload_n 0, 1) := by decide +kernel
theorem dX3_takeSign_1 : decode cX3_takeSign 1 = .ok (.iload_n 1, 1) := by decide +kernel
theorem dX3_takeSign_2 : decode cX3_takeSign 2 = .ok (.iconst 2, 1) := by decide +kernel
theorem dX3_takeSign_3 : decode cX3_takeSign 3 = .ok (.invokestatic 178, 3) := by decide +kernel
theorem dX3_takeSign_6 : decode cX3_takeSign 6 = .ok (.invokevirtual 183, 3) := by decide +kernel
theorem dX3_takeSign_9 : decode cX3_takeSign 9 = .ok (.iload_n 1, 1) := by decide +kernel
theorem dX3_takeSign_10 : decode cX3_takeSign 10 = .ok (.iconst 1, 1) := by decide +kernel
theorem dX3_takeSign_11 : decode cX3_takeSign 11 = .ok (.if_icmp .ne 19, 3) := by decide +kernel
theorem dX3_takeSign_14 : decode cX3_takeSign 14 = .ok (.aload_n 0, 1) := by decide +kernel
theorem dX3_takeSign_15 : decode cX3_takeSign 15 = .ok (.aload_n 0, 1) := by decide +kernel
theorem dX3_takeSign_16 : decode cX3_takeSign 16 = .ok (.invokevirtual 155, 3) := by decide +kernel
theorem dX3_takeSign_19 : decode cX3_takeSign 19 = .ok (.invokevirtual 159, 3) := by decide +kernel
theorem dX3_takeSign_22 : decode cX3_takeSign 22 = .ok (.iconst 1, 1) := by decide +kernel
theorem dX3_takeSign_23 : decode cX3_takeSign 23 = .ok (.if_icmp .ne 7, 3) := by decide +kernel
theorem dX3_takeSign_26 : decode cX3_takeSign 26 = .ok (.iconst 1, 1) := by decide +kernel
theorem dX3_takeSign_27 : decode cX3_takeSign 27 = .ok (.goto 4, 3) := by decide +kernel
theorem dX3_takeSign_30 : decode cX3_takeSign 30 = .ok (.iconst 0, 1) := by decide +kernel
theorem dX3_takeSign_31 : decode cX3_takeSign 31 = .ok (.istore_n 2, 1) := by decide +kernel
theorem dX3_takeSign_32 : decode cX3_takeSign 32 = .ok (.iload_n 2, 1) := by decide +kernel
theorem dX3_takeSign_33 : decode cX3_takeSign 33 = .ok (.ifCond .ne 17, 3) := by decide +kernel
theorem dX3_takeSign_36 : decode cX3_takeSign 36 = .ok (.aload_n 0, 1) := by decide +kernel
theorem dX3_takeSign_37 : decode cX3_takeSign 37 = .ok (.getfield 38, 3) := by decide +kernel
theorem dX3_takeSign_40 : decode cX3_takeSign 40 = .ok (.aload_n 0, 1) := by decide +kernel
theorem dX3_takeSign_41 : decode cX3_takeSign 41 = .ok (.getfield 92, 3) := by decide +kernel
theorem dX3_takeSign_44 : decode cX3_takeSign 44 = .ok (.invokevirtual 121, 3) := by decide +kernel
theorem dX3_takeSign_47 : decode cX3_takeSign 47 = .ok (.ifCond .eq 10, 3) := by decide +kernel
theorem dX3_takeSign_50 : decode cX3_takeSign 50 = .ok (.aload_n 0, 1) := by decide +kernel
theorem dX3_takeSign_51 : decode cX3_takeSign 51 = .ok (.invokevirtual 76, 3) := by decide +kernel
theorem dX3_takeSign_54 : decode cX3_takeSign 54 = .ok (.goto 14, 3) := by decide +kernel
theorem dX3_takeSign_57 : decode cX3_takeSign 57 = .ok (.aload_n 0, 1) := by decide +kernel
theorem dX3_takeSign_58 : decode cX3_takeSign 58 = .ok (.aload_n 0, 1) := by decide +kernel
theorem dX3_takeSign_59 : decode cX3_takeSign 59 = .ok (.getfield 16, 3) := by decide +kernel
theorem dX3_takeSign_62 : decode cX3_takeSign 62 = .ok (.getfield 58, 3) := by decide +kernel
theorem dX3_takeSign_65 : decode cX3_takeSign 65 = .ok (.invokevirtual 175, 3) := by decide +kernel
theorem dX3_takeSign_68 : decode cX3_takeSign 68 = .ok (.return_, 1) := by decide +kernel
theorem dX3_endExpression_0 : decode cX3_endExpression 0 = .ok (.aload_n 0, 1) := by decide +kernel
theorem dX3_endExpression_1 : decode cX3_endExpression 1 = .ok (.iconst 1, 1) := by decide +kernel
theorem dX3_endExpression_2 : decode cX3_endExpression 2 = .ok (.invokevirtual 183, 3) := by decide +kernel
theorem dX3_endExpression_5 : decode cX3_endExpression 5 = .ok (.aload_n 0, 1) := by decide +kernel
theorem dX3_endExpression_6 : decode cX3_endExpression 6 = .ok (.getfield 109, 3) := by decide +kernel
theorem dX3_endExpression_9 : decode cX3_endExpression 9 = .ok (.istore_n 1, 1) := by decide +kernel
theorem dX3_endExpression_10 : decode cX3_endExpression 10 = .ok (.iload_n 1, 1) := by decide +kernel
theorem dX3_endExpression_11 : decode cX3_endExpression 11 = .ok (.ifCond .le 24, 3) := by decide +kernel
theorem dX3_endExpression_14 : decode cX3_endExpression 14 = .ok (.aload_n 0, 1) := by decide +kernel
theorem dX3_endExpression_15 : decode cX3_endExpression 15 = .ok (.aload_n 0, 1) := by decide +kernel
theorem dX3_endExpression_16 : decode cX3_endExpression 16 = .ok (.invokevirtual 155, 3) := by decide +kernel
theorem dX3_endExpression_19 : decode cX3_endExpression 19 = .ok (.invokevirtual 186, 3) := by decide +kernel
theorem dX3_endExpression_22 : decode cX3_endExpression 22 = .ok (.ifCond .eq 13, 3) := by decide +kernel
theorem dX3_endExpression_25 : decode cX3_endExpression 25 = .ok (.aload_n 0, 1) := by decide +kernel
theorem dX3_endExpression_26 : decode cX3_endExpression 26 = .ok (.invokevirtual 189, 3) := by decide +kernel
theorem dX3_endExpression_29 : decode cX3_endExpression 29 = .ok (.iinc 1 (-1), 3) := by decide +kernel
theorem dX3_endExpression_32 : decode cX3_endExpression 32 = .ok (.goto (-22), 3) := by decide +kernel
theorem dX3_endExpression_35 : decode cX3_endExpression 35 = .ok (.aload_n 0, 1) := by decide +kernel
theorem dX3_endExpression_36 : decode cX3_endExpression 36 = .ok (.invokevirtual 155, 3) := by decide +kernel
theorem dX3_endExpression_39 : decode cX3_endExpression 39 = .ok (.istore_n 1, 1) := by decide +kernel
theorem dX3_endExpression_40 : decode cX3_endExpression 40 = .ok (.iload_n 1, 1) := by decide +kernel
theorem dX3_endExpression_41 : decode cX3_endExpression 41 = .ok (.iconst (-1), 1) := by decide +kernel
theorem dX3_endExpression_42 : decode cX3_endExpression 42 = .ok (.if_icmp .ne 10, 3) := by decide +kernel
theorem dX3_endExpression_45 : decode cX3_endExpression 45 = .ok (.aload_n 0, 1) := by decide +kernel
theorem dX3_endExpression_46 : decode cX3_endExpression 46 = .ok (.invokevirtual 192, 3) := by decide +kernel
theorem dX3_endExpression_49 : decode cX3_endExpression 49 = .ok (.goto 21, 3) := by decide +kernel
theorem dX3_endExpression_52 : decode cX3_endExpression 52 = .ok (.iload_n 1, 1) := by decide +kernel
theorem dX3_endExpression_53 : decode cX3_endExpression 53 = .ok (.bipush (-2), 2) := by decide +kernel
theorem dX3_endExpression_55 : decode cX3_endExpression 55 = .ok (.if_icmp .ne 10, 3) := by decide +kernel
theorem dX3_endExpression_58 : decode cX3_endExpression 58 = .ok (.aload_n 0, 1) := by decide +kernel
theorem dX3_endExpression_59 : decode cX3_endExpression 59 = .ok (.invokevirtual 195, 3) := by decide +kernel
theorem dX3_endExpression_62 : decode cX3_endExpression 62 = .ok (.goto 8, 3) := by decide +kernel
theorem dX3_endExpression_65 : decode cX3_endExpression 65 = .ok (.aload_n 0, 1) := by decide +kernel
theorem dX3_endExpression_66 : decode cX3_endExpression 66 = .ok (.iload_n 1, 1) := by decide +kernel
theorem dX3_endExpression_67 : decode cX3_endExpression 67 = .ok (.invokevirtual 198, 3) := by decide +kernel
theorem dX3_endExpression_70 : decode cX3_endExpression 70 = .ok (.return_, 1) := by decide +kernel
theorem dX3_endBody_0 : decode cX3_endBody 0 = .ok (.aload_n 0, 1) := by decide +kernel
theorem dX3_endBody_1 : decode cX3_endBody 1 = .ok (.getfield 38, 3) := by decide +kernel
theorem dX3_endBody_4 : decode cX3_endBody 4 = .ok (.getfield 201, 3) := by decide +kernel
theorem dX3_endBody_7 : decode cX3_endBody 7 = .ok (.aload_n 0, 1) := by decide +kernel
theorem dX3_endBody_8 : decode cX3_endBody 8 = .ok (.getfield 92, 3) := by decide +kernel
theorem dX3_endBody_11 : decode cX3_endBody 11 = .ok (.aload_n 0, 1) := by decide +kernel
theorem dX3_endBody_12 : decode cX3_endBody 12 = .ok (.getfield 204, 3) := by decide +kernel
theorem dX3_endBody_15 : decode cX3_endBody 15 = .ok (.iastore, 1) := by decide +kernel
theorem dX3_endBody_16 : decode cX3_endBody 16 = .ok (.aload_n 0, 1) := by decide +kernel
theorem dX3_endBody_17 : decode cX3_endBody 17 = .ok (.getfield 38, 3) := by decide +kernel
theorem dX3_endBody_20 : decode cX3_endBody 20 = .ok (.dup, 1) := by decide +kernel
theorem dX3_endBody_21 : decode cX3_endBody 21 = .ok (.getfield 42, 3) := by decide +kernel
theorem dX3_endBody_24 : decode cX3_endBody 24 = .ok (.iconst 1, 1) := by decide +kernel
theorem dX3_endBody_25 : decode cX3_endBody 25 = .ok (.iadd, 1) := by decide +kernel
theorem dX3_endBody_26 : decode cX3_endBody 26 = .ok (.putfield 42, 3) := by decide +kernel
theorem dX3_endBody_29 : decode cX3_endBody 29 = .ok (.aload_n 0, 1) := by decide +kernel
theorem dX3_endBody_30 : decode cX3_endBody 30 = .ok (.bipush 59, 2) := by decide +kernel
theorem dX3_endBody_32 : decode cX3_endBody 32 = .ok (.iconst 0, 1) := by decide +kernel
theorem dX3_endBody_33 : decode cX3_endBody 33 = .ok (.invokevirtual 85, 3) := by decide +kernel
theorem dX3_endBody_36 : decode cX3_endBody 36 = .ok (.return_, 1) := by decide +kernel
theorem dX3_endParentheses_0 : decode cX3_endParentheses 0 = .ok (.aload_n 0, 1) := by decide +kernel
theorem dX3_endParentheses_1 : decode cX3_endParentheses 1 = .ok (.dup, 1) := by decide +kernel
theorem dX3_endParentheses_2 : decode cX3_endParentheses 2 = .ok (.getfield 109, 3) := by decide +kernel
theorem dX3_endParentheses_5 : decode cX3_endParentheses 5 = .ok (.iconst 1, 1) := by decide +kernel
theorem dX3_endParentheses_6 : decode cX3_endParentheses 6 = .ok (.isub, 1) := by decide +kernel
theorem dX3_endParentheses_7 : decode cX3_endParentheses 7 = .ok (.putfield 109, 3) := by decide +kernel
theorem dX3_endParentheses_10 : decode cX3_endParentheses 10 = .ok (.aload_n 0, 1) := by decide +kernel
theorem dX3_endParentheses_11 : decode cX3_endParentheses 11 = .ok (.dup, 1) := by decide +kernel
theorem dX3_endParentheses_12 : decode cX3_endParentheses 12 = .ok (.getfield 112, 3) := by decide +kernel
theorem dX3_endParentheses_15 : decode cX3_endParentheses 15 = .ok (.iconst 1, 1) := by decide +kernel
theorem dX3_endParentheses_16 : decode cX3_endParentheses 16 = .ok (.isub, 1) := by decide +kernel
theorem dX3_endParentheses_17 : decode cX3_endParentheses 17 = .ok (.putfield 112, 3) := by decide +kernel
theorem dX3_endParentheses_20 : decode cX3_endParentheses 20 = .ok (.aload_n 0, 1) := by decide +kernel
theorem dX3_endParentheses_21 : decode cX3_endParentheses 21 = .ok (.bipush 41, 2) := by decide +kernel
theorem dX3_endParentheses_23 : decode cX3_endParentheses 23 = .ok (.bipush 7, 2) := by decide +kernel
theorem dX3_endParentheses_25 : decode cX3_endParentheses 25 = .ok (.invokevirtual 85, 3) := by decide +kernel
theorem dX3_endParentheses_28 : decode cX3_endParentheses 28 = .ok (.return_, 1) := by decide +kernel
theorem dX3_endExpressionIn_0 : decode cX3_endExpressionIn 0 = .ok (.aload_n 0, 1) := by decide +kernel
theorem dX3_endExpressionIn_1 : decode cX3_endExpressionIn 1 = .ok (.getfield 38, 3) := by decide +kernel
theorem dX3_endExpressionIn_4 : decode cX3_endExpressionIn 4 = .ok (.getfield 207, 3) := by decide +kernel
theorem dX3_endExpressionIn_7 : decode cX3_endExpressionIn 7 = .ok (.iload_n 1, 1) := by decide +kernel
theorem dX3_endExpressionIn_8 : decode cX3_endExpressionIn 8 = .ok (.iaload, 1) := by decide +kernel
theorem dX3_endExpressionIn_9 : decode cX3_endExpressionIn 9 = .ok (.istore_n 2, 1) := by decide +kernel
theorem dX3_endExpressionIn_10 : decode cX3_endExpressionIn 10 = .ok (.iload_n 2, 1) := by decide +kernel
theorem dX3_endExpressionIn_11 : decode cX3_endExpressionIn 11 = .ok (.bipush 8, 2) := by decide +kernel
theorem dX3_endExpressionIn_13 : decode cX3_endExpressionIn 13 = .ok (.if_icmp .ne 19, 3) := by decide +kernel
theorem dX3_endExpressionIn_16 : decode cX3_endExpressionIn 16 = .ok (.aload_n 0, 1) := by decide +kernel
theorem dX3_endExpressionIn_17 : decode cX3_endExpressionIn 17 = .ok (.getfield 38, 3) := by decide +kernel
theorem dX3_endExpressionIn_20 : decode cX3_endExpressionIn 20 = .ok (.getfield 209, 3) := by decide +kernel
theorem dX3_endExpressionIn_23 : decode cX3_endExpressionIn 23 = .ok (.iload_n 1, 1) := by decide +kernel
theorem dX3_endExpressionIn_24 : decode cX3_endExpressionIn 24 = .ok (.iaload, 1) := by decide +kernel
theorem dX3_endExpressionIn_25 : decode cX3_endExpressionIn 25 = .ok (.ifCond .ne 7, 3) := by decide +kernel
theorem dX3_endExpressionIn_28 : decode cX3_endExpressionIn 28 = .ok (.iconst 1, 1) := by decide +kernel
theorem dX3_endExpressionIn_29 : decode cX3_endExpressionIn 29 = .ok (.goto 4, 3) := by decide +kernel
theorem dX3_endExpressionIn_32 : decode cX3_endExpressionIn 32 = .ok (.iconst 0, 1) := by decide +kernel
theorem dX3_endExpressionIn_33 : decode cX3_endExpressionIn 33 = .ok (.istore_n 3, 1) := by decide +kernel
theorem dX3_endExpressionIn_34 : decode cX3_endExpressionIn 34 = .ok (.iload_n 2, 1) := by decide +kernel
theorem dX3_endExpressionIn_35 : decode cX3_endExpressionIn 35 = .ok (.bipush 7, 2) := by decide +kernel
theorem dX3_endExpressionIn_37 : decode cX3_endExpressionIn 37 = .ok (.if_icmp .eq 13, 3) := by decide +kernel
theorem dX3_endExpressionIn_40 : decode cX3_endExpressionIn 40 = .ok (.iload_n 2, 1) := by decide +kernel
theorem dX3_endExpressionIn_41 : decode cX3_endExpressionIn 41 = .ok (.bipush 8, 2) := by decide +kernel
theorem dX3_endExpressionIn_43 : decode cX3_endExpressionIn 43 = .ok (.if_icmp .ne 11, 3) := by decide +kernel
theorem dX3_endExpressionIn_46 : decode cX3_endExpressionIn 46 = .ok (.iload_n 3, 1) := by decide +kernel
theorem dX3_endExpressionIn_47 : decode cX3_endExpressionIn 47 = .ok (.ifCond .ne 7, 3) := by decide +kernel
theorem dX3_endExpressionIn_50 : decode cX3_endExpressionIn 50 = .ok (.iconst 1, 1) := by decide +kernel
theorem dX3_endExpressionIn_51 : decode cX3_endExpressionIn 51 = .ok (.goto 4, 3) := by decide +kernel
theorem dX3_endExpressionIn_54 : decode cX3_endExpressionIn 54 = .ok (.iconst 0, 1) := by decide +kernel
theorem dX3_endExpressionIn_55 : decode cX3_endExpressionIn 55 = .ok (.istore 4, 2) := by decide +kernel
theorem dX3_endExpressionIn_57 : decode cX3_endExpressionIn 57 = .ok (.iload 4, 2) := by decide +kernel
theorem dX3_endExpressionIn_59 : decode cX3_endExpressionIn 59 = .ok (.ifCond .eq 15, 3) := by decide +kernel
theorem dX3_endExpressionIn_62 : decode cX3_endExpressionIn 62 = .ok (.aload_n 0, 1) := by decide +kernel
theorem dX3_endExpressionIn_63 : decode cX3_endExpressionIn 63 = .ok (.getfield 16, 3) := by decide +kernel
theorem dX3_endExpressionIn_66 : decode cX3_endExpressionIn 66 = .ok (.getfield 58, 3) := by decide +kernel
theorem dX3_endExpressionIn_69 : decode cX3_endExpressionIn 69 = .ok (.bipush 41, 2) := by decide +kernel
theorem dX3_endExpressionIn_71 : decode cX3_endExpressionIn 71 = .ok (.if_icmp .eq 21, 3) := by decide +kernel
theorem dX3_endExpressionIn_74 : decode cX3_endExpressionIn 74 = .ok (.iload_n 2, 1) := by decide +kernel
theorem dX3_endExpressionIn_75 : decode cX3_endExpressionIn 75 = .ok (.bipush 9, 2) := by decide +kernel
theorem dX3_endExpressionIn_77 : decode cX3_endExpressionIn 77 = .ok (.if_icmp .ne 22, 3) := by decide +kernel
theorem dX3_endExpressionIn_80 : decode cX3_endExpressionIn 80 = .ok (.aload_n 0, 1) := by decide +kernel
theorem dX3_endExpressionIn_81 : decode cX3_endExpressionIn 81 = .ok (.getfield 16, 3) := by decide +kernel
theorem dX3_endExpressionIn_84 : decode cX3_endExpressionIn 84 = .ok (.getfield 58, 3) := by decide +kernel
theorem dX3_endExpressionIn_87 : decode cX3_endExpressionIn 87 = .ok (.bipush 93, 2) := by decide +kernel
theorem dX3_endExpressionIn_89 : decode cX3_endExpressionIn 89 = .ok (.if_icmp .ne 10, 3) := by decide +kernel
theorem dX3_endExpressionIn_92 : decode cX3_endExpressionIn 92 = .ok (.aload_n 0, 1) := by decide +kernel
theorem dX3_endExpressionIn_93 : decode cX3_endExpressionIn 93 = .ok (.invokevirtual 189, 3) := by decide +kernel
theorem dX3_endExpressionIn_96 : decode cX3_endExpressionIn 96 = .ok (.goto 97, 3) := by decide +kernel
theorem dX3_endExpressionIn_99 : decode cX3_endExpressionIn 99 = .ok (.iload_n 3, 1) := by decide +kernel
theorem dX3_endExpressionIn_100 : decode cX3_endExpressionIn 100 = .ok (.ifCond .eq 36, 3) := by decide +kernel
theorem dX3_endExpressionIn_103 : decode cX3_endExpressionIn 103 = .ok (.aload_n 0, 1) := by decide +kernel
theorem dX3_endExpressionIn_104 : decode cX3_endExpressionIn 104 = .ok (.getfield 16, 3) := by decide +kernel
theorem dX3_endExpressionIn_107 : decode cX3_endExpressionIn 107 = .ok (.getfield 58, 3) := by decide +kernel
theorem dX3_endExpressionIn_110 : decode cX3_endExpressionIn 110 = .ok (.bipush 44, 2) := by decide +kernel
theorem dX3_endExpressionIn_112 : decode cX3_endExpressionIn 112 = .ok (.if_icmp .ne 24, 3) := by decide +kernel
theorem dX3_endExpressionIn_115 : decode cX3_endExpressionIn 115 = .ok (.aload_n 0, 1) := by decide +kernel
theorem dX3_endExpressionIn_116 : decode cX3_endExpressionIn 116 = .ok (.getfield 38, 3) := by decide +kernel
theorem dX3_endExpressionIn_119 : decode cX3_endExpressionIn 119 = .ok (.iload_n 1, 1) := by decide +kernel
theorem dX3_endExpressionIn_120 : decode cX3_endExpressionIn 120 = .ok (.aload_n 0, 1) := by decide +kernel
theorem dX3_endExpressionIn_121 : decode cX3_endExpressionIn 121 = .ok (.getfield 204, 3) := by decide +kernel
theorem dX3_endExpressionIn_124 : decode cX3_endExpressionIn 124 = .ok (.invokevirtual 212, 3) := by decide +kernel
theorem dX3_endExpressionIn_127 : decode cX3_endExpressionIn 127 = .ok (.aload_n 0, 1) := by decide +kernel
theorem dX3_endExpressionIn_128 : decode cX3_endExpressionIn 128 = .ok (.bipush 11, 2) := by decide +kernel
theorem dX3_endExpressionIn_130 : decode cX3_endExpressionIn 130 = .ok (.putfield 46, 3) := by decide +kernel
theorem dX3_endExpressionIn_133 : decode cX3_endExpressionIn 133 = .ok (.goto 60, 3) := by decide +kernel
theorem dX3_endExpressionIn_136 : decode cX3_endExpressionIn 136 = .ok (.iload 4, 2) := by decide +kernel
theorem dX3_endExpressionIn_138 : decode cX3_endExpressionIn 138 = .ok (.ifCond .eq 15, 3) := by decide +kernel
theorem dX3_endExpressionIn_141 : decode cX3_endExpressionIn 141 = .ok (.aload_n 0, 1) := by decide +kernel
theorem dX3_endExpressionIn_142 : decode cX3_endExpressionIn 142 = .ok (.getfield 16, 3) := by decide +kernel
theorem dX3_endExpressionIn_145 : decode cX3_endExpressionIn 145 = .ok (.getfield 58, 3) := by decide +kernel
theorem dX3_endExpressionIn_148 : decode cX3_endExpressionIn 148 = .ok (.bipush 44, 2) := by decide +kernel
theorem dX3_endExpressionIn_150 : decode cX3_endExpressionIn 150 = .ok (.if_icmp .eq 18, 3) := by decide +kernel
theorem dX3_endExpressionIn_153 : decode cX3_endExpressionIn 153 = .ok (.aload_n 0, 1) := by decide +kernel
theorem dX3_endExpressionIn_154 : decode cX3_endExpressionIn 154 = .ok (.getfield 16, 3) := by decide +kernel
theorem dX3_endExpressionIn_157 : decode cX3_endExpressionIn 157 = .ok (.getfield 58, 3) := by decide +kernel
theorem dX3_endExpressionIn_160 : decode cX3_endExpressionIn 160 = .ok (.aload_n 0, 1) := by decide +kernel
theorem dX3_endExpressionIn_161 : decode cX3_endExpressionIn 161 = .ok (.iload_n 1, 1) := by decide +kernel
theorem dX3_endExpressionIn_162 : decode cX3_endExpressionIn 162 = .ok (.invokevirtual 215, 3) := by decide +kernel
theorem dX3_endExpressionIn_165 : decode cX3_endExpressionIn 165 = .ok (.if_icmp .ne 24, 3) := by decide +kernel
theorem dX3_endExpressionIn_168 : decode cX3_endExpressionIn 168 = .ok (.aload_n 0, 1) := by decide +kernel
theorem dX3_endExpressionIn_169 : decode cX3_endExpressionIn 169 = .ok (.getfield 38, 3) := by decide +kernel
theorem dX3_endExpressionIn_172 : decode cX3_endExpressionIn 172 = .ok (.iload_n 1, 1) := by decide +kernel
theorem dX3_endExpressionIn_173 : decode cX3_endExpressionIn 173 = .ok (.aload_n 0, 1) := by decide +kernel
theorem dX3_endExpressionIn_174 : decode cX3_endExpressionIn 174 = .ok (.getfield 204, 3) := by decide +kernel
theorem dX3_endExpressionIn_177 : decode cX3_endExpressionIn 177 = .ok (.invokevirtual 212, 3) := by decide +kernel
theorem dX3_endExpressionIn_180 : decode cX3_endExpressionIn 180 = .ok (.aload_n 0, 1) := by decide +kernel
theorem dX3_endExpressionIn_181 : decode cX3_endExpressionIn 181 = .ok (.bipush 6, 2) := by decide +kernel
theorem dX3_endExpressionIn_183 : decode cX3_endExpressionIn 183 = .ok (.putfield 46, 3) := by decide +kernel
theorem dX3_endExpressionIn_186 : decode cX3_endExpressionIn 186 = .ok (.goto 7, 3) := by decide +kernel
theorem dX3_endExpressionIn_189 : decode cX3_endExpressionIn 189 = .ok (.aload_n 0, 1) := by decide +kernel
theorem dX3_endExpressionIn_190 : decode cX3_endExpressionIn 190 = .ok (.invokevirtual 76, 3) := by decide +kernel
theorem dX3_endExpressionIn_193 : decode cX3_endExpressionIn 193 = .ok (.return_, 1) := by decide +kernel
theorem dX3_wordBehind_0 : decode cX3_wordBehind 0 = .ok (.aload_n 0, 1) := by decide +kernel
theorem dX3_wordBehind_1 : decode cX3_wordBehind 1 = .ok (.getfield 38, 3) := by decide +kernel
theorem dX3_wordBehind_4 : decode cX3_wordBehind 4 = .ok (.getfield 207, 3) := by decide +kernel
theorem dX3_wordBehind_7 : decode cX3_wordBehind 7 = .ok (.iload_n 1, 1) := by decide +kernel
theorem dX3_wordBehind_8 : decode cX3_wordBehind 8 = .ok (.iaload, 1) := by decide +kernel
theorem dX3_wordBehind_9 : decode cX3_wordBehind 9 = .ok (.bipush 6, 2) := by decide +kernel
theorem dX3_wordBehind_11 : decode cX3_wordBehind 11 = .ok (.if_icmp .ne 6, 3) := by decide +kernel
theorem dX3_wordBehind_14 : decode cX3_wordBehind 14 = .ok (.bipush 8, 2) := by decide +kernel
theorem dX3_wordBehind_16 : decode cX3_wordBehind 16 = .ok (.ireturn, 1) := by decide +kernel
theorem dX3_wordBehind_17 : decode cX3_wordBehind 17 = .ok (.aload_n 0, 1) := by decide +kernel
theorem dX3_wordBehind_18 : decode cX3_wordBehind 18 = .ok (.getfield 38, 3) := by decide +kernel
theorem dX3_wordBehind_21 : decode cX3_wordBehind 21 = .ok (.getfield 207, 3) := by decide +kernel
theorem dX3_wordBehind_24 : decode cX3_wordBehind 24 = .ok (.iload_n 1, 1) := by decide +kernel
theorem dX3_wordBehind_25 : decode cX3_wordBehind 25 = .ok (.iaload, 1) := by decide +kernel
theorem dX3_wordBehind_26 : decode cX3_wordBehind 26 = .ok (.iconst 5, 1) := by decide +kernel
theorem dX3_wordBehind_27 : decode cX3_wordBehind 27 = .ok (.if_icmp .ne 22, 3) := by decide +kernel
theorem dX3_wordBehind_30 : decode cX3_wordBehind 30 = .ok (.aload_n 0, 1) := by decide +kernel
theorem dX3_wordBehind_31 : decode cX3_wordBehind 31 = .ok (.getfield 38, 3) := by decide +kernel
theorem dX3_wordBehind_34 : decode cX3_wordBehind 34 = .ok (.getfield 209, 3) := by decide +kernel
theorem dX3_wordBehind_37 : decode cX3_wordBehind 37 = .ok (.iload_n 1, 1) := by decide +kernel
theorem dX3_wordBehind_38 : decode cX3_wordBehind 38 = .ok (.iaload, 1) := by decide +kernel
theorem dX3_wordBehind_39 : decode cX3_wordBehind 39 = .ok (.ifCond .ne 7, 3) := by decide +kernel
theorem dX3_wordBehind_42 : decode cX3_wordBehind 42 = .ok (.iconst 5, 1) := by decide +kernel
theorem dX3_wordBehind_43 : decode cX3_wordBehind 43 = .ok (.goto 5, 3) := by decide +kernel
theorem dX3_wordBehind_46 : decode cX3_wordBehind 46 = .ok (.bipush 6, 2) := by decide +kernel
theorem dX3_wordBehind_48 : decode cX3_wordBehind 48 = .ok (.ireturn, 1) := by decide +kernel
theorem dX3_wordBehind_49 : decode cX3_wordBehind 49 = .ok (.iconst (-1), 1) := by decide +kernel
theorem dX3_wordBehind_50 : decode cX3_wordBehind 50 = .ok (.ireturn, 1) := by decide +kernel
theorem dX3_isInLastExpression_0 : decode cX3_isInLastExpression 0 = .ok (.iload_n 1, 1) := by decide +kernel
theorem dX3_isInLastExpression_1 : decode cX3_isInLastExpression 1 = .ok (.ifCond .ge 5, 3) := by decide +kernel
theorem dX3_isInLastExpression_4 : decode cX3_isInLastExpression 4 = .ok (.iconst 0, 1) := by decide +kernel
theorem dX3_isInLastExpression_5 : decode cX3_isInLastExpression 5 = .ok (.ireturn, 1) := by decide +kernel
theorem dX3_isInLastExpression_6 : decode cX3_isInLastExpression 6 = .ok (.aload_n 0, 1) := by decide +kernel
theorem dX3_isInLastExpression_7 : decode cX3_isInLastExpression 7 = .ok (.getfield 38, 3) := by decide +kernel
theorem dX3_isInLastExpression_10 : decode cX3_isInLastExpression 10 = .ok (.getfield 207, 3) := by decide +kernel
theorem dX3_isInLastExpression_13 : decode cX3_isInLastExpression 13 = .ok (.iload_n 1, 1) := by decide +kernel
theorem dX3_isInLastExpression_14 : decode cX3_isInLastExpression 14 = .ok (.iaload, 1) := by decide +kernel
theorem dX3_isInLastExpression_15 : decode cX3_isInLastExpression 15 = .ok (.istore_n 2, 1) := by decide +kernel
theorem dX3_isInLastExpression_16 : decode cX3_isInLastExpression 16 = .ok (.iload_n 2, 1) := by decide +kernel
theorem dX3_isInLastExpression_17 : decode cX3_isInLastExpression 17 = .ok (.iconst 5, 1) := by decide +kernel
theorem dX3_isInLastExpression_18 : decode cX3_isInLastExpression 18 = .ok (.if_icmp .ne 16, 3) := by decide +kernel
theorem dX3_isInLastExpression_21 : decode cX3_isInLastExpression 21 = .ok (.aload_n 0, 1) := by decide +kernel
theorem dX3_isInLastExpression_22 : decode cX3_isInLastExpression 22 = .ok (.getfield 38, 3) := by decide +kernel
theorem dX3_isInLastExpression_25 : decode cX3_isInLastExpression 25 = .ok (.getfield 209, 3) := by decide +kernel
theorem dX3_isInLastExpression_28 : decode cX3_isInLastExpression 28 = .ok (.iload_n 1, 1) := by decide +kernel
theorem dX3_isInLastExpression_29 : decode cX3_isInLastExpression 29 = .ok (.iaload, 1) := by decide +kernel
theorem dX3_isInLastExpression_30 : decode cX3_isInLastExpression 30 = .ok (.iconst 2, 1) := by decide +kernel
theorem dX3_isInLastExpression_31 : decode cX3_isInLastExpression 31 = .ok (.if_icmp .eq 22, 3) := by decide +kernel
theorem dX3_isInLastExpression_34 : decode cX3_isInLastExpression 34 = .ok (.iload_n 2, 1) := by decide +kernel
theorem dX3_isInLastExpression_35 : decode cX3_isInLastExpression 35 = .ok (.bipush 6, 2) := by decide +kernel
theorem dX3_isInLastExpression_37 : decode cX3_isInLastExpression 37 = .ok (.if_icmp .ne 20, 3) := by decide +kernel
theorem dX3_isInLastExpression_40 : decode cX3_isInLastExpression 40 = .ok (.aload_n 0, 1) := by decide +kernel
theorem dX3_isInLastExpression_41 : decode cX3_isInLastExpression 41 = .ok (.getfield 38, 3) := by decide +kernel
theorem dX3_isInLastExpression_44 : decode cX3_isInLastExpression 44 = .ok (.getfield 209, 3) := by decide +kernel
theorem dX3_isInLastExpression_47 : decode cX3_isInLastExpression 47 = .ok (.iload_n 1, 1) := by decide +kernel
theorem dX3_isInLastExpression_48 : decode cX3_isInLastExpression 48 = .ok (.iaload, 1) := by decide +kernel
theorem dX3_isInLastExpression_49 : decode cX3_isInLastExpression 49 = .ok (.iconst 1, 1) := by decide +kernel
theorem dX3_isInLastExpression_50 : decode cX3_isInLastExpression 50 = .ok (.if_icmp .ne 7, 3) := by decide +kernel
theorem dX3_isInLastExpression_53 : decode cX3_isInLastExpression 53 = .ok (.iconst 1, 1) := by decide +kernel
theorem dX3_isInLastExpression_54 : decode cX3_isInLastExpression 54 = .ok (.goto 4, 3) := by decide +kernel
theorem dX3_isInLastExpression_57 : decode cX3_isInLastExpression 57 = .ok (.iconst 0, 1) := by decide +kernel
theorem dX3_isInLastExpression_58 : decode cX3_isInLastExpression 58 = .ok (.ireturn, 1) := by decide +kernel
theorem dX3_addLeaf_0 : decode cX3_addLeaf 0 = .ok (.aload_n 0, 1) := by decide +kernel
theorem dX3_addLeaf_1 : decode cX3_addLeaf 1 = .ok (.aload_n 0, 1) := by decide +kernel
theorem dX3_addLeaf_2 : decode cX3_addLeaf 2 = .ok (.getfield 38, 3) := by decide +kernel
theorem dX3_addLeaf_5 : decode cX3_addLeaf 5 = .ok (.aload_n 0, 1) := by decide +kernel
theorem dX3_addLeaf_6 : decode cX3_addLeaf 6 = .ok (.getfield 92, 3) := by decide +kernel
theorem dX3_addLeaf_9 : decode cX3_addLeaf 9 = .ok (.iload_n 1, 1) := by decide +kernel
theorem dX3_addLeaf_10 : decode cX3_addLeaf 10 = .ok (.iload_n 2, 1) := by decide +kernel
theorem dX3_addLeaf_11 : decode cX3_addLeaf 11 = .ok (.invokevirtual 218, 3) := by decide +kernel
theorem dX3_addLeaf_14 : decode cX3_addLeaf 14 = .ok (.putfield 204, 3) := by decide +kernel
theorem dX3_addLeaf_17 : decode cX3_addLeaf 17 = .ok (.aload_n 0, 1) := by decide +kernel
theorem dX3_addLeaf_18 : decode cX3_addLeaf 18 = .ok (.bipush 7, 2) := by decide +kernel
theorem dX3_addLeaf_20 : decode cX3_addLeaf 20 = .ok (.putfield 46, 3) := by decide +kernel
theorem dX3_addLeaf_23 : decode cX3_addLeaf 23 = .ok (.return_, 1) := by decide +kernel
theorem dX3_beginPart_0 : decode cX3_beginPart 0 = .ok (.aload_n 0, 1) := by decide +kernel
theorem dX3_beginPart_1 : decode cX3_beginPart 1 = .ok (.getfield 38, 3) := by decide +kernel
theorem dX3_beginPart_4 : decode cX3_beginPart 4 = .ok (.aload_n 0, 1) := by decide +kernel
theorem dX3_beginPart_5 : decode cX3_beginPart 5 = .ok (.getfield 92, 3) := by decide +kernel
theorem dX3_beginPart_8 : decode cX3_beginPart 8 = .ok (.iload_n 1, 1) := by decide +kernel
theorem dX3_beginPart_9 : decode cX3_beginPart 9 = .ok (.iconst 0, 1) := by decide +kernel
theorem dX3_beginPart_10 : decode cX3_beginPart 10 = .ok (.invokevirtual 218, 3) := by decide +kernel
theorem dX3_beginPart_13 : decode cX3_beginPart 13 = .ok (.istore_n 3, 1) := by decide +kernel
theorem dX3_beginPart_14 : decode cX3_beginPart 14 = .ok (.aload_n 0, 1) := by decide +kernel
theorem dX3_beginPart_15 : decode cX3_beginPart 15 = .ok (.iload_n 3, 1) := by decide +kernel
theorem dX3_beginPart_16 : decode cX3_beginPart 16 = .ok (.iload_n 2, 1) := by decide +kernel
theorem dX3_beginPart_17 : decode cX3_beginPart 17 = .ok (.invokevirtual 115, 3) := by decide +kernel
theorem dX3_beginPart_20 : decode cX3_beginPart 20 = .ok (.iload_n 3, 1) := by decide +kernel
theorem dX3_beginPart_21 : decode cX3_beginPart 21 = .ok (.ireturn, 1) := by decide +kernel
theorem dX3_beginPartBehind_0 : decode cX3_beginPartBehind 0 = .ok (.aload_n 0, 1) := by decide +kernel
theorem dX3_beginPartBehind_1 : decode cX3_beginPartBehind 1 = .ok (.getfield 204, 3) := by decide +kernel
theorem dX3_beginPartBehind_4 : decode cX3_beginPartBehind 4 = .ok (.istore_n 2, 1) := by decide +kernel
theorem dX3_beginPartBehind_5 : decode cX3_beginPartBehind 5 = .ok (.aload_n 0, 1) := by decide +kernel
theorem dX3_beginPartBehind_6 : decode cX3_beginPartBehind 6 = .ok (.getfield 38, 3) := by decide +kernel
theorem dX3_beginPartBehind_9 : decode cX3_beginPartBehind 9 = .ok (.aload_n 0, 1) := by decide +kernel
theorem dX3_beginPartBehind_10 : decode cX3_beginPartBehind 10 = .ok (.iload_n 1, 1) := by decide +kernel
theorem dX3_beginPartBehind_11 : decode cX3_beginPartBehind 11 = .ok (.bipush 6, 2) := by decide +kernel
theorem dX3_beginPartBehind_13 : decode cX3_beginPartBehind 13 = .ok (.invokevirtual 134, 3) := by decide +kernel
theorem dX3_beginPartBehind_16 : decode cX3_beginPartBehind 16 = .ok (.iload_n 2, 1) := by decide +kernel
theorem dX3_beginPartBehind_17 : decode cX3_beginPartBehind 17 = .ok (.invokevirtual 212, 3) := by decide +kernel
theorem dX3_beginPartBehind_20 : decode cX3_beginPartBehind 20 = .ok (.return_, 1) := by decide +kernel
theorem dX3_begin_0 : decode cX3_begin 0 = .ok (.aload_n 0, 1) := by decide +kernel
theorem dX3_begin_1 : decode cX3_begin 1 = .ok (.getfield 34, 3) := by decide +kernel
theorem dX3_begin_4 : decode cX3_begin 4 = .ok (.aload_n 0, 1) := by decide +kernel
theorem dX3_begin_5 : decode cX3_begin 5 = .ok (.getfield 109, 3) := by decide +kernel
theorem dX3_begin_8 : decode cX3_begin 8 = .ok (.iload_n 1, 1) := by decide +kernel
theorem dX3_begin_9 : decode cX3_begin 9 = .ok (.iastore, 1) := by decide +kernel
theorem dX3_begin_10 : decode cX3_begin 10 = .ok (.aload_n 0, 1) := by decide +kernel
theorem dX3_begin_11 : decode cX3_begin 11 = .ok (.dup, 1) := by decide +kernel
theorem dX3_begin_12 : decode cX3_begin 12 = .ok (.getfield 109, 3) := by decide +kernel
theorem dX3_begin_15 : decode cX3_begin 15 = .ok (.iconst 1, 1) := by decide +kernel
theorem dX3_begin_16 : decode cX3_begin 16 = .ok (.iadd, 1) := by decide +kernel
theorem dX3_begin_17 : decode cX3_begin 17 = .ok (.putfield 109, 3) := by decide +kernel
theorem dX3_begin_20 : decode cX3_begin 20 = .ok (.aload_n 0, 1) := by decide +kernel
theorem dX3_begin_21 : decode cX3_begin 21 = .ok (.iload_n 2, 1) := by decide +kernel
theorem dX3_begin_22 : decode cX3_begin 22 = .ok (.putfield 46, 3) := by decide +kernel
theorem dX3_begin_25 : decode cX3_begin 25 = .ok (.return_, 1) := by decide +kernel
theorem dX3_end_0 : decode cX3_end 0 = .ok (.aload_n 0, 1) := by decide +kernel
theorem dX3_end_1 : decode cX3_end 1 = .ok (.dup, 1) := by decide +kernel
theorem dX3_end_2 : decode cX3_end 2 = .ok (.getfield 109, 3) := by decide +kernel
theorem dX3_end_5 : decode cX3_end 5 = .ok (.iconst 1, 1) := by decide +kernel
theorem dX3_end_6 : decode cX3_end 6 = .ok (.isub, 1) := by decide +kernel
theorem dX3_end_7 : decode cX3_end 7 = .ok (.putfield 109, 3) := by decide +kernel
theorem dX3_end_10 : decode cX3_end 10 = .ok (.aload_n 0, 1) := by decide +kernel
theorem dX3_end_11 : decode cX3_end 11 = .ok (.aload_n 0, 1) := by decide +kernel
theorem dX3_end_12 : decode cX3_end 12 = .ok (.getfield 34, 3) := by decide +kernel
theorem dX3_end_15 : decode cX3_end 15 = .ok (.aload_n 0, 1) := by decide +kernel
theorem dX3_end_16 : decode cX3_end 16 = .ok (.getfield 109, 3) := by decide +kernel
theorem dX3_end_19 : decode cX3_end 19 = .ok (.iaload, 1) := by decide +kernel
theorem dX3_end_20 : decode cX3_end 20 = .ok (.putfield 204, 3) := by decide +kernel
theorem dX3_end_23 : decode cX3_end 23 = .ok (.aload_n 0, 1) := by decide +kernel
theorem dX3_end_24 : decode cX3_end 24 = .ok (.bipush 7, 2) := by decide +kernel
theorem dX3_end_26 : decode cX3_end 26 = .ok (.putfield 46, 3) := by decide +kernel
theorem dX3_end_29 : decode cX3_end 29 = .ok (.return_, 1) := by decide +kernel
theorem dX3_endWithLatest_0 : decode cX3_endWithLatest 0 = .ok (.aload_n 0, 1) := by decide +kernel
theorem dX3_endWithLatest_1 : decode cX3_endWithLatest 1 = .ok (.getfield 38, 3) := by decide +kernel
theorem dX3_endWithLatest_4 : decode cX3_endWithLatest 4 = .ok (.aload_n 0, 1) := by decide +kernel
theorem dX3_endWithLatest_5 : decode cX3_endWithLatest 5 = .ok (.invokevirtual 155, 3) := by decide +kernel
theorem dX3_endWithLatest_8 : decode cX3_endWithLatest 8 = .ok (.aload_n 0, 1) := by decide +kernel
theorem dX3_endWithLatest_9 : decode cX3_endWithLatest 9 = .ok (.getfield 204, 3) := by decide +kernel
theorem dX3_endWithLatest_12 : decode cX3_endWithLatest 12 = .ok (.invokevirtual 212, 3) := by decide +kernel
theorem dX3_endWithLatest_15 : decode cX3_endWithLatest 15 = .ok (.aload_n 0, 1) := by decide +kernel
theorem dX3_endWithLatest_16 : decode cX3_endWithLatest 16 = .ok (.invokevirtual 163, 3) := by decide +kernel
theorem dX3_endWithLatest_19 : decode cX3_endWithLatest 19 = .ok (.return_, 1) := by decide +kernel
theorem dX3_endSigns_0 : decode cX3_endSigns 0 = .ok (.aload_n 0, 1) := by decide +kernel
theorem dX3_endSigns_1 : decode cX3_endSigns 1 = .ok (.getfield 109, 3) := by decide +kernel
theorem dX3_endSigns_4 : decode cX3_endSigns 4 = .ok (.istore_n 2, 1) := by decide +kernel
theorem dX3_endSigns_5 : decode cX3_endSigns 5 = .ok (.iload_n 2, 1) := by decide +kernel
theorem dX3_endSigns_6 : decode cX3_endSigns 6 = .ok (.ifCond .le 25, 3) := by decide +kernel
theorem dX3_endSigns_9 : decode cX3_endSigns 9 = .ok (.aload_n 0, 1) := by decide +kernel
theorem dX3_endSigns_10 : decode cX3_endSigns 10 = .ok (.aload_n 0, 1) := by decide +kernel
theorem dX3_endSigns_11 : decode cX3_endSigns 11 = .ok (.invokevirtual 155, 3) := by decide +kernel
theorem dX3_endSigns_14 : decode cX3_endSigns 14 = .ok (.invokevirtual 159, 3) := by decide +kernel
theorem dX3_endSigns_17 : decode cX3_endSigns 17 = .ok (.iload_n 1, 1) := by decide +kernel
theorem dX3_endSigns_18 : decode cX3_endSigns 18 = .ok (.if_icmp .lt 13, 3) := by decide +kernel
theorem dX3_endSigns_21 : decode cX3_endSigns 21 = .ok (.aload_n 0, 1) := by decide +kernel
theorem dX3_endSigns_22 : decode cX3_endSigns 22 = .ok (.invokevirtual 189, 3) := by decide +kernel
theorem dX3_endSigns_25 : decode cX3_endSigns 25 = .ok (.iinc 2 (-1), 3) := by decide +kernel
theorem dX3_endSigns_28 : decode cX3_endSigns 28 = .ok (.goto (-23), 3) := by decide +kernel
theorem dX3_endSigns_31 : decode cX3_endSigns 31 = .ok (.return_, 1) := by decide +kernel
theorem dX3_innermost_0 : decode cX3_innermost 0 = .ok (.aload_n 0, 1) := by decide +kernel
theorem dX3_innermost_1 : decode cX3_innermost 1 = .ok (.getfield 109, 3) := by decide +kernel
theorem dX3_innermost_4 : decode cX3_innermost 4 = .ok (.ifCond .le 17, 3) := by decide +kernel
theorem dX3_innermost_7 : decode cX3_innermost 7 = .ok (.aload_n 0, 1) := by decide +kernel
theorem dX3_innermost_8 : decode cX3_innermost 8 = .ok (.getfield 34, 3) := by decide +kernel
theorem dX3_innermost_11 : decode cX3_innermost 11 = .ok (.aload_n 0, 1) := by decide +kernel
theorem dX3_innermost_12 : decode cX3_innermost 12 = .ok (.getfield 109, 3) := by decide +kernel
theorem dX3_innermost_15 : decode cX3_innermost 15 = .ok (.iconst 1, 1) := by decide +kernel
theorem dX3_innermost_16 : decode cX3_innermost 16 = .ok (.isub, 1) := by decide +kernel
theorem dX3_innermost_17 : decode cX3_innermost 17 = .ok (.iaload, 1) := by decide +kernel
theorem dX3_innermost_18 : decode cX3_innermost 18 = .ok (.goto 4, 3) := by decide +kernel
theorem dX3_innermost_21 : decode cX3_innermost 21 = .ok (.iconst (-1), 1) := by decide +kernel
theorem dX3_innermost_22 : decode cX3_innermost 22 = .ok (.ireturn, 1) := by decide +kernel
theorem dX3_levelOf_0 : decode cX3_levelOf 0 = .ok (.iload_n 1, 1) := by decide +kernel
theorem dX3_levelOf_1 : decode cX3_levelOf 1 = .ok (.ifCond .ge 5, 3) := by decide +kernel
theorem dX3_levelOf_4 : decode cX3_levelOf 4 = .ok (.iconst 0, 1) := by decide +kernel
theorem dX3_levelOf_5 : decode cX3_levelOf 5 = .ok (.ireturn, 1) := by decide +kernel
theorem dX3_levelOf_6 : decode cX3_levelOf 6 = .ok (.aload_n 0, 1) := by decide +kernel
theorem dX3_levelOf_7 : decode cX3_levelOf 7 = .ok (.getfield 38, 3) := by decide +kernel
theorem dX3_levelOf_10 : decode cX3_levelOf 10 = .ok (.getfield 207, 3) := by decide +kernel
theorem dX3_levelOf_13 : decode cX3_levelOf 13 = .ok (.iload_n 1, 1) := by decide +kernel
theorem dX3_levelOf_14 : decode cX3_levelOf 14 = .ok (.iaload, 1) := by decide +kernel
theorem dX3_levelOf_15 : decode cX3_levelOf 15 = .ok (.istore_n 2, 1) := by decide +kernel
theorem dX3_levelOf_16 : decode cX3_levelOf 16 = .ok (.iload_n 2, 1) := by decide +kernel
theorem dX3_levelOf_17 : decode cX3_levelOf 17 = .ok (.iconst 4, 1) := by decide +kernel
theorem dX3_levelOf_18 : decode cX3_levelOf 18 = .ok (.if_icmp .ne 7, 3) := by decide +kernel
theorem dX3_levelOf_21 : decode cX3_levelOf 21 = .ok (.iconst 4, 1) := by decide +kernel
theorem dX3_levelOf_22 : decode cX3_levelOf 22 = .ok (.goto 7, 3) := by decide +kernel
theorem dX3_levelOf_25 : decode cX3_levelOf 25 = .ok (.iload_n 2, 1) := by decide +kernel
theorem dX3_levelOf_26 : decode cX3_levelOf 26 = .ok (.invokestatic 166, 3) := by decide +kernel
theorem dX3_levelOf_29 : decode cX3_levelOf 29 = .ok (.ireturn, 1) := by decide +kernel
theorem dX3_levelOfSign_0 : decode cX3_levelOfSign 0 = .ok (.iload_n 0, 1) := by decide +kernel
theorem dX3_levelOfSign_1 : decode cX3_levelOfSign 1 = .ok (.tableswitch 125 37 62 #[123, 125, 125, 125, 125, 123, 121, 125, 121, 125, 123, 125, 125, 125, 125, 125, 125, 125, 125, 125, 125, 125, 125, 119, 119, 119], 119) := by decide +kernel
theorem dX3_levelOfSign_120 : decode cX3_levelOfSign 120 = .ok (.iconst 1, 1) := by decide +kernel
theorem dX3_levelOfSign_121 : decode cX3_levelOfSign 121 = .ok (.ireturn, 1) := by decide +kernel
theorem dX3_levelOfSign_122 : decode cX3_levelOfSign 122 = .ok (.iconst 2, 1) := by decide +kernel
theorem dX3_levelOfSign_123 : decode cX3_levelOfSign 123 = .ok (.ireturn, 1) := by decide +kernel
theorem dX3_levelOfSign_124 : decode cX3_levelOfSign 124 = .ok (.iconst 3, 1) := by decide +kernel
theorem dX3_levelOfSign_125 : decode cX3_levelOfSign 125 = .ok (.ireturn, 1) := by decide +kernel
theorem dX3_levelOfSign_126 : decode cX3_levelOfSign 126 = .ok (.iconst 0, 1) := by decide +kernel
theorem dX3_levelOfSign_127 : decode cX3_levelOfSign 127 = .ok (.ireturn, 1) := by decide +kernel
theorem dX3_keepName_0 : decode cX3_keepName 0 = .ok (.iload_n 1, 1) := by decide +kernel
theorem dX3_keepName_1 : decode cX3_keepName 1 = .ok (.ifCond .lt 29, 3) := by decide +kernel
theorem dX3_keepName_4 : decode cX3_keepName 4 = .ok (.aload_n 0, 1) := by decide +kernel
theorem dX3_keepName_5 : decode cX3_keepName 5 = .ok (.getfield 27, 3) := by decide +kernel
theorem dX3_keepName_8 : decode cX3_keepName 8 = .ok (.iload_n 1, 1) := by decide +kernel
theorem dX3_keepName_9 : decode cX3_keepName 9 = .ok (.aload_n 0, 1) := by decide +kernel
theorem dX3_keepName_10 : decode cX3_keepName 10 = .ok (.getfield 16, 3) := by decide +kernel
theorem dX3_keepName_13 : decode cX3_keepName 13 = .ok (.getfield 95, 3) := by decide +kernel
theorem dX3_keepName_16 : decode cX3_keepName 16 = .ok (.lastore, 1) := by decide +kernel
theorem dX3_keepName_17 : decode cX3_keepName 17 = .ok (.aload_n 0, 1) := by decide +kernel
theorem dX3_keepName_18 : decode cX3_keepName 18 = .ok (.getfield 30, 3) := by decide +kernel
theorem dX3_keepName_21 : decode cX3_keepName 21 = .ok (.iload_n 1, 1) := by decide +kernel
theorem dX3_keepName_22 : decode cX3_keepName 22 = .ok (.aload_n 0, 1) := by decide +kernel
theorem dX3_keepName_23 : decode cX3_keepName 23 = .ok (.getfield 16, 3) := by decide +kernel
theorem dX3_keepName_26 : decode cX3_keepName 26 = .ok (.getfield 222, 3) := by decide +kernel
theorem dX3_keepName_29 : decode cX3_keepName 29 = .ok (.iastore, 1) := by decide +kernel
theorem dX3_keepName_30 : decode cX3_keepName 30 = .ok (.return_, 1) := by decide +kernel
theorem dX3_letNamed_0 : decode cX3_letNamed 0 = .ok (.aload_n 0, 1) := by decide +kernel
theorem dX3_letNamed_1 : decode cX3_letNamed 1 = .ok (.getfield 109, 3) := by decide +kernel
theorem dX3_letNamed_4 : decode cX3_letNamed 4 = .ok (.iconst 1, 1) := by decide +kernel
theorem dX3_letNamed_5 : decode cX3_letNamed 5 = .ok (.isub, 1) := by decide +kernel
theorem dX3_letNamed_6 : decode cX3_letNamed 6 = .ok (.istore_n 3, 1) := by decide +kernel
theorem dX3_letNamed_7 : decode cX3_letNamed 7 = .ok (.iload_n 3, 1) := by decide +kernel
theorem dX3_letNamed_8 : decode cX3_letNamed 8 = .ok (.ifCond .lt 66, 3) := by decide +kernel
theorem dX3_letNamed_11 : decode cX3_letNamed 11 = .ok (.aload_n 0, 1) := by decide +kernel
theorem dX3_letNamed_12 : decode cX3_letNamed 12 = .ok (.getfield 34, 3) := by decide +kernel
theorem dX3_letNamed_15 : decode cX3_letNamed 15 = .ok (.iload_n 3, 1) := by decide +kernel
theorem dX3_letNamed_16 : decode cX3_letNamed 16 = .ok (.iaload, 1) := by decide +kernel
theorem dX3_letNamed_17 : decode cX3_letNamed 17 = .ok (.istore 4, 2) := by decide +kernel
theorem dX3_letNamed_19 : decode cX3_letNamed 19 = .ok (.iload 4, 2) := by decide +kernel
theorem dX3_letNamed_21 : decode cX3_letNamed 21 = .ok (.ifCond .lt 47, 3) := by decide +kernel
theorem dX3_letNamed_24 : decode cX3_letNamed 24 = .ok (.aload_n 0, 1) := by decide +kernel
theorem dX3_letNamed_25 : decode cX3_letNamed 25 = .ok (.getfield 38, 3) := by decide +kernel
theorem dX3_letNamed_28 : decode cX3_letNamed 28 = .ok (.getfield 207, 3) := by decide +kernel
theorem dX3_letNamed_31 : decode cX3_letNamed 31 = .ok (.iload 4, 2) := by decide +kernel
theorem dX3_letNamed_33 : decode cX3_letNamed 33 = .ok (.iaload, 1) := by decide +kernel
theorem dX3_letNamed_34 : decode cX3_letNamed 34 = .ok (.bipush 6, 2) := by decide +kernel
theorem dX3_letNamed_36 : decode cX3_letNamed 36 = .ok (.if_icmp .ne 32, 3) := by decide +kernel
theorem dX3_letNamed_39 : decode cX3_letNamed 39 = .ok (.aload_n 0, 1) := by decide +kernel
theorem dX3_letNamed_40 : decode cX3_letNamed 40 = .ok (.getfield 38, 3) := by decide +kernel
theorem dX3_letNamed_43 : decode cX3_letNamed 43 = .ok (.getfield 209, 3) := by decide +kernel
theorem dX3_letNamed_46 : decode cX3_letNamed 46 = .ok (.iload 4, 2) := by decide +kernel
theorem dX3_letNamed_48 : decode cX3_letNamed 48 = .ok (.iaload, 1) := by decide +kernel
theorem dX3_letNamed_49 : decode cX3_letNamed 49 = .ok (.iconst 1, 1) := by decide +kernel
theorem dX3_letNamed_50 : decode cX3_letNamed 50 = .ok (.if_icmp .ne 18, 3) := by decide +kernel
theorem dX3_letNamed_53 : decode cX3_letNamed 53 = .ok (.aload_n 0, 1) := by decide +kernel
theorem dX3_letNamed_54 : decode cX3_letNamed 54 = .ok (.getfield 27, 3) := by decide +kernel
theorem dX3_letNamed_57 : decode cX3_letNamed 57 = .ok (.iload 4, 2) := by decide +kernel
theorem dX3_letNamed_59 : decode cX3_letNamed 59 = .ok (.laload, 1) := by decide +kernel
theorem dX3_letNamed_60 : decode cX3_letNamed 60 = .ok (.lload_n 1, 1) := by decide +kernel
theorem dX3_letNamed_61 : decode cX3_letNamed 61 = .ok (.lcmp, 1) := by decide +kernel
theorem dX3_letNamed_62 : decode cX3_letNamed 62 = .ok (.ifCond .ne 6, 3) := by decide +kernel
theorem dX3_letNamed_65 : decode cX3_letNamed 65 = .ok (.iload 4, 2) := by decide +kernel
theorem dX3_letNamed_67 : decode cX3_letNamed 67 = .ok (.ireturn, 1) := by decide +kernel
theorem dX3_letNamed_68 : decode cX3_letNamed 68 = .ok (.iinc 3 (-1), 3) := by decide +kernel
theorem dX3_letNamed_71 : decode cX3_letNamed 71 = .ok (.goto (-64), 3) := by decide +kernel
theorem dX3_letNamed_74 : decode cX3_letNamed 74 = .ok (.iconst (-1), 1) := by decide +kernel
theorem dX3_letNamed_75 : decode cX3_letNamed 75 = .ok (.ireturn, 1) := by decide +kernel
theorem dX3_argumentNamed_0 : decode cX3_argumentNamed 0 = .ok (.iconst 0, 1) := by decide +kernel
theorem dX3_argumentNamed_1 : decode cX3_argumentNamed 1 = .ok (.istore_n 3, 1) := by decide +kernel
theorem dX3_argumentNamed_2 : decode cX3_argumentNamed 2 = .ok (.iload_n 3, 1) := by decide +kernel
theorem dX3_argumentNamed_3 : decode cX3_argumentNamed 3 = .ok (.aload_n 0, 1) := by decide +kernel
theorem dX3_argumentNamed_4 : decode cX3_argumentNamed 4 = .ok (.getfield 38, 3) := by decide +kernel
theorem dX3_argumentNamed_7 : decode cX3_argumentNamed 7 = .ok (.getfield 103, 3) := by decide +kernel
theorem dX3_argumentNamed_10 : decode cX3_argumentNamed 10 = .ok (.aload_n 0, 1) := by decide +kernel
theorem dX3_argumentNamed_11 : decode cX3_argumentNamed 11 = .ok (.getfield 92, 3) := by decide +kernel
theorem dX3_argumentNamed_14 : decode cX3_argumentNamed 14 = .ok (.iaload, 1) := by decide +kernel
theorem dX3_argumentNamed_15 : decode cX3_argumentNamed 15 = .ok (.if_icmp .ge 22, 3) := by decide +kernel
theorem dX3_argumentNamed_18 : decode cX3_argumentNamed 18 = .ok (.aload_n 0, 1) := by decide +kernel
theorem dX3_argumentNamed_19 : decode cX3_argumentNamed 19 = .ok (.getfield 24, 3) := by decide +kernel
theorem dX3_argumentNamed_22 : decode cX3_argumentNamed 22 = .ok (.iload_n 3, 1) := by decide +kernel
theorem dX3_argumentNamed_23 : decode cX3_argumentNamed 23 = .ok (.laload, 1) := by decide +kernel
theorem dX3_argumentNamed_24 : decode cX3_argumentNamed 24 = .ok (.lload_n 1, 1) := by decide +kernel
theorem dX3_argumentNamed_25 : decode cX3_argumentNamed 25 = .ok (.lcmp, 1) := by decide +kernel
theorem dX3_argumentNamed_26 : decode cX3_argumentNamed 26 = .ok (.ifCond .ne 5, 3) := by decide +kernel
theorem dX3_argumentNamed_29 : decode cX3_argumentNamed 29 = .ok (.iload_n 3, 1) := by decide +kernel
theorem dX3_argumentNamed_30 : decode cX3_argumentNamed 30 = .ok (.ireturn, 1) := by decide +kernel
theorem dX3_argumentNamed_31 : decode cX3_argumentNamed 31 = .ok (.iinc 3 1, 3) := by decide +kernel
theorem dX3_argumentNamed_34 : decode cX3_argumentNamed 34 = .ok (.goto (-32), 3) := by decide +kernel
theorem dX3_argumentNamed_37 : decode cX3_argumentNamed 37 = .ok (.iconst (-1), 1) := by decide +kernel
theorem dX3_argumentNamed_38 : decode cX3_argumentNamed 38 = .ok (.ireturn, 1) := by decide +kernel
theorem dX3_definitionNamed_0 : decode cX3_definitionNamed 0 = .ok (.iconst 0, 1) := by decide +kernel
theorem dX3_definitionNamed_1 : decode cX3_definitionNamed 1 = .ok (.istore_n 3, 1) := by decide +kernel
theorem dX3_definitionNamed_2 : decode cX3_definitionNamed 2 = .ok (.iload_n 3, 1) := by decide +kernel
theorem dX3_definitionNamed_3 : decode cX3_definitionNamed 3 = .ok (.aload_n 0, 1) := by decide +kernel
theorem dX3_definitionNamed_4 : decode cX3_definitionNamed 4 = .ok (.getfield 38, 3) := by decide +kernel
theorem dX3_definitionNamed_7 : decode cX3_definitionNamed 7 = .ok (.getfield 42, 3) := by decide +kernel
theorem dX3_definitionNamed_10 : decode cX3_definitionNamed 10 = .ok (.if_icmp .ge 22, 3) := by decide +kernel
theorem dX3_definitionNamed_13 : decode cX3_definitionNamed 13 = .ok (.aload_n 0, 1) := by decide +kernel
theorem dX3_definitionNamed_14 : decode cX3_definitionNamed 14 = .ok (.getfield 20, 3) := by decide +kernel
theorem dX3_definitionNamed_17 : decode cX3_definitionNamed 17 = .ok (.iload_n 3, 1) := by decide +kernel
theorem dX3_definitionNamed_18 : decode cX3_definitionNamed 18 = .ok (.laload, 1) := by decide +kernel
theorem dX3_definitionNamed_19 : decode cX3_definitionNamed 19 = .ok (.lload_n 1, 1) := by decide +kernel
theorem dX3_definitionNamed_20 : decode cX3_definitionNamed 20 = .ok (.lcmp, 1) := by decide +kernel
theorem dX3_definitionNamed_21 : decode cX3_definitionNamed 21 = .ok (.ifCond .ne 5, 3) := by decide +kernel
theorem dX3_definitionNamed_24 : decode cX3_definitionNamed 24 = .ok (.iload_n 3, 1) := by decide +kernel
theorem dX3_definitionNamed_25 : decode cX3_definitionNamed 25 = .ok (.ireturn, 1) := by decide +kernel
theorem dX3_definitionNamed_26 : decode cX3_definitionNamed 26 = .ok (.iinc 3 1, 3) := by decide +kernel
theorem dX3_definitionNamed_29 : decode cX3_definitionNamed 29 = .ok (.goto (-27), 3) := by decide +kernel
theorem dX3_definitionNamed_32 : decode cX3_definitionNamed 32 = .ok (.iconst (-1), 1) := by decide +kernel
theorem dX3_definitionNamed_33 : decode cX3_definitionNamed 33 = .ok (.ireturn, 1) := by decide +kernel
theorem dX3_bindCalls_0 : decode cX3_bindCalls 0 = .ok (.iconst 0, 1) := by decide +kernel
theorem dX3_bindCalls_1 : decode cX3_bindCalls 1 = .ok (.istore_n 1, 1) := by decide +kernel
theorem dX3_bindCalls_2 : decode cX3_bindCalls 2 = .ok (.iload_n 1, 1) := by decide +kernel
theorem dX3_bindCalls_3 : decode cX3_bindCalls 3 = .ok (.aload_n 0, 1) := by decide +kernel
theorem dX3_bindCalls_4 : decode cX3_bindCalls 4 = .ok (.getfield 38, 3) := by decide +kernel
theorem dX3_bindCalls_7 : decode cX3_bindCalls 7 = .ok (.getfield 42, 3) := by decide +kernel
theorem dX3_bindCalls_10 : decode cX3_bindCalls 10 = .ok (.if_icmp .ge 70, 3) := by decide +kernel
theorem dX3_bindCalls_13 : decode cX3_bindCalls 13 = .ok (.iload_n 1, 1) := by decide +kernel
theorem dX3_bindCalls_14 : decode cX3_bindCalls 14 = .ok (.bipush 60, 2) := by decide +kernel
theorem dX3_bindCalls_16 : decode cX3_bindCalls 16 = .ok (.imul, 1) := by decide +kernel
theorem dX3_bindCalls_17 : decode cX3_bindCalls 17 = .ok (.istore_n 2, 1) := by decide +kernel
theorem dX3_bindCalls_18 : decode cX3_bindCalls 18 = .ok (.iload_n 2, 1) := by decide +kernel
theorem dX3_bindCalls_19 : decode cX3_bindCalls 19 = .ok (.istore_n 3, 1) := by decide +kernel
theorem dX3_bindCalls_20 : decode cX3_bindCalls 20 = .ok (.iload_n 3, 1) := by decide +kernel
theorem dX3_bindCalls_21 : decode cX3_bindCalls 21 = .ok (.iload_n 2, 1) := by decide +kernel
theorem dX3_bindCalls_22 : decode cX3_bindCalls 22 = .ok (.aload_n 0, 1) := by decide +kernel
theorem dX3_bindCalls_23 : decode cX3_bindCalls 23 = .ok (.getfield 38, 3) := by decide +kernel
theorem dX3_bindCalls_26 : decode cX3_bindCalls 26 = .ok (.getfield 106, 3) := by decide +kernel
theorem dX3_bindCalls_29 : decode cX3_bindCalls 29 = .ok (.iload_n 1, 1) := by decide +kernel
theorem dX3_bindCalls_30 : decode cX3_bindCalls 30 = .ok (.iaload, 1) := by decide +kernel
theorem dX3_bindCalls_31 : decode cX3_bindCalls 31 = .ok (.iadd, 1) := by decide +kernel
theorem dX3_bindCalls_32 : decode cX3_bindCalls 32 = .ok (.if_icmp .ge 42, 3) := by decide +kernel
theorem dX3_bindCalls_35 : decode cX3_bindCalls 35 = .ok (.aload_n 0, 1) := by decide +kernel
theorem dX3_bindCalls_36 : decode cX3_bindCalls 36 = .ok (.getfield 38, 3) := by decide +kernel
theorem dX3_bindCalls_39 : decode cX3_bindCalls 39 = .ok (.getfield 207, 3) := by decide +kernel
theorem dX3_bindCalls_42 : decode cX3_bindCalls 42 = .ok (.iload_n 3, 1) := by decide +kernel
theorem dX3_bindCalls_43 : decode cX3_bindCalls 43 = .ok (.iaload, 1) := by decide +kernel
theorem dX3_bindCalls_44 : decode cX3_bindCalls 44 = .ok (.bipush 7, 2) := by decide +kernel
theorem dX3_bindCalls_46 : decode cX3_bindCalls 46 = .ok (.if_icmp .eq 17, 3) := by decide +kernel
theorem dX3_bindCalls_49 : decode cX3_bindCalls 49 = .ok (.aload_n 0, 1) := by decide +kernel
theorem dX3_bindCalls_50 : decode cX3_bindCalls 50 = .ok (.getfield 38, 3) := by decide +kernel
theorem dX3_bindCalls_53 : decode cX3_bindCalls 53 = .ok (.getfield 207, 3) := by decide +kernel
theorem dX3_bindCalls_56 : decode cX3_bindCalls 56 = .ok (.iload_n 3, 1) := by decide +kernel
theorem dX3_bindCalls_57 : decode cX3_bindCalls 57 = .ok (.iaload, 1) := by decide +kernel
theorem dX3_bindCalls_58 : decode cX3_bindCalls 58 = .ok (.bipush 8, 2) := by decide +kernel
theorem dX3_bindCalls_60 : decode cX3_bindCalls 60 = .ok (.if_icmp .ne 8, 3) := by decide +kernel
theorem dX3_bindCalls_63 : decode cX3_bindCalls 63 = .ok (.aload_n 0, 1) := by decide +kernel
theorem dX3_bindCalls_64 : decode cX3_bindCalls 64 = .ok (.iload_n 3, 1) := by decide +kernel
theorem dX3_bindCalls_65 : decode cX3_bindCalls 65 = .ok (.invokevirtual 225, 3) := by decide +kernel
theorem dX3_bindCalls_68 : decode cX3_bindCalls 68 = .ok (.iinc 3 1, 3) := by decide +kernel
theorem dX3_bindCalls_71 : decode cX3_bindCalls 71 = .ok (.goto (-51), 3) := by decide +kernel
theorem dX3_bindCalls_74 : decode cX3_bindCalls 74 = .ok (.iinc 1 1, 3) := by decide +kernel
theorem dX3_bindCalls_77 : decode cX3_bindCalls 77 = .ok (.goto (-75), 3) := by decide +kernel
theorem dX3_bindCalls_80 : decode cX3_bindCalls 80 = .ok (.return_, 1) := by decide +kernel
theorem dX3_bindCall_0 : decode cX3_bindCall 0 = .ok (.aload_n 0, 1) := by decide +kernel
theorem dX3_bindCall_1 : decode cX3_bindCall 1 = .ok (.getfield 38, 3) := by decide +kernel
theorem dX3_bindCall_4 : decode cX3_bindCall 4 = .ok (.getfield 209, 3) := by decide +kernel
theorem dX3_bindCall_7 : decode cX3_bindCall 7 = .ok (.iload_n 1, 1) := by decide +kernel
theorem dX3_bindCall_8 : decode cX3_bindCall 8 = .ok (.iaload, 1) := by decide +kernel
theorem dX3_bindCall_9 : decode cX3_bindCall 9 = .ok (.aload_n 0, 1) := by decide +kernel
theorem dX3_bindCall_10 : decode cX3_bindCall 10 = .ok (.getfield 38, 3) := by decide +kernel
theorem dX3_bindCall_13 : decode cX3_bindCall 13 = .ok (.getfield 207, 3) := by decide +kernel
theorem dX3_bindCall_16 : decode cX3_bindCall 16 = .ok (.iload_n 1, 1) := by decide +kernel
theorem dX3_bindCall_17 : decode cX3_bindCall 17 = .ok (.iaload, 1) := by decide +kernel
theorem dX3_bindCall_18 : decode cX3_bindCall 18 = .ok (.bipush 8, 2) := by decide +kernel
theorem dX3_bindCall_20 : decode cX3_bindCall 20 = .ok (.if_icmp .ne 7, 3) := by decide +kernel
theorem dX3_bindCall_23 : decode cX3_bindCall 23 = .ok (.iconst 1, 1) := by decide +kernel
theorem dX3_bindCall_24 : decode cX3_bindCall 24 = .ok (.goto 4, 3) := by decide +kernel
theorem dX3_bindCall_27 : decode cX3_bindCall 27 = .ok (.iconst 0, 1) := by decide +kernel
theorem dX3_bindCall_28 : decode cX3_bindCall 28 = .ok (.iadd, 1) := by decide +kernel
theorem dX3_bindCall_29 : decode cX3_bindCall 29 = .ok (.istore_n 2, 1) := by decide +kernel
theorem dX3_bindCall_30 : decode cX3_bindCall 30 = .ok (.aload_n 0, 1) := by decide +kernel
theorem dX3_bindCall_31 : decode cX3_bindCall 31 = .ok (.aload_n 0, 1) := by decide +kernel
theorem dX3_bindCall_32 : decode cX3_bindCall 32 = .ok (.getfield 27, 3) := by decide +kernel
theorem dX3_bindCall_35 : decode cX3_bindCall 35 = .ok (.iload_n 1, 1) := by decide +kernel
theorem dX3_bindCall_36 : decode cX3_bindCall 36 = .ok (.laload, 1) := by decide +kernel
theorem dX3_bindCall_37 : decode cX3_bindCall 37 = .ok (.invokevirtual 99, 3) := by decide +kernel
theorem dX3_bindCall_40 : decode cX3_bindCall 40 = .ok (.istore_n 3, 1) := by decide +kernel
theorem dX3_bindCall_41 : decode cX3_bindCall 41 = .ok (.iload_n 3, 1) := by decide +kernel
theorem dX3_bindCall_42 : decode cX3_bindCall 42 = .ok (.iconst (-1), 1) := by decide +kernel
theorem dX3_bindCall_43 : decode cX3_bindCall 43 = .ok (.if_icmp .eq 29, 3) := by decide +kernel
theorem dX3_bindCall_46 : decode cX3_bindCall 46 = .ok (.aload_n 0, 1) := by decide +kernel
theorem dX3_bindCall_47 : decode cX3_bindCall 47 = .ok (.getfield 38, 3) := by decide +kernel
theorem dX3_bindCall_50 : decode cX3_bindCall 50 = .ok (.getfield 103, 3) := by decide +kernel
theorem dX3_bindCall_53 : decode cX3_bindCall 53 = .ok (.iload_n 3, 1) := by decide +kernel
theorem dX3_bindCall_54 : decode cX3_bindCall 54 = .ok (.iaload, 1) := by decide +kernel
theorem dX3_bindCall_55 : decode cX3_bindCall 55 = .ok (.iload_n 2, 1) := by decide +kernel
theorem dX3_bindCall_56 : decode cX3_bindCall 56 = .ok (.if_icmp .ne 16, 3) := by decide +kernel
theorem dX3_bindCall_59 : decode cX3_bindCall 59 = .ok (.aload_n 0, 1) := by decide +kernel
theorem dX3_bindCall_60 : decode cX3_bindCall 60 = .ok (.getfield 38, 3) := by decide +kernel
theorem dX3_bindCall_63 : decode cX3_bindCall 63 = .ok (.getfield 228, 3) := by decide +kernel
theorem dX3_bindCall_66 : decode cX3_bindCall 66 = .ok (.iload_n 1, 1) := by decide +kernel
theorem dX3_bindCall_67 : decode cX3_bindCall 67 = .ok (.iload_n 3, 1) := by decide +kernel
theorem dX3_bindCall_68 : decode cX3_bindCall 68 = .ok (.iastore, 1) := by decide +kernel
theorem dX3_bindCall_69 : decode cX3_bindCall 69 = .ok (.goto 34, 3) := by decide +kernel
theorem dX3_bindCall_72 : decode cX3_bindCall 72 = .ok (.aload_n 0, 1) := by decide +kernel
theorem dX3_bindCall_73 : decode cX3_bindCall 73 = .ok (.getfield 49, 3) := by decide +kernel
theorem dX3_bindCall_76 : decode cX3_bindCall 76 = .ok (.iconst (-1), 1) := by decide +kernel
theorem dX3_bindCall_77 : decode cX3_bindCall 77 = .ok (.if_icmp .eq 16, 3) := by decide +kernel
theorem dX3_bindCall_80 : decode cX3_bindCall 80 = .ok (.aload_n 0, 1) := by decide +kernel
theorem dX3_bindCall_81 : decode cX3_bindCall 81 = .ok (.getfield 30, 3) := by decide +kernel
theorem dX3_bindCall_84 : decode cX3_bindCall 84 = .ok (.iload_n 1, 1) := by decide +kernel
theorem dX3_bindCall_85 : decode cX3_bindCall 85 = .ok (.iaload, 1) := by decide +kernel
theorem dX3_bindCall_86 : decode cX3_bindCall 86 = .ok (.aload_n 0, 1) := by decide +kernel
theorem dX3_bindCall_87 : decode cX3_bindCall 87 = .ok (.getfield 49, 3) := by decide +kernel
theorem dX3_bindCall_90 : decode cX3_bindCall 90 = .ok (.if_icmp .ge 13, 3) := by decide +kernel
theorem dX3_bindCall_93 : decode cX3_bindCall 93 = .ok (.aload_n 0, 1) := by decide +kernel
theorem dX3_bindCall_94 : decode cX3_bindCall 94 = .ok (.aload_n 0, 1) := by decide +kernel
theorem dX3_bindCall_95 : decode cX3_bindCall 95 = .ok (.getfield 30, 3) := by decide +kernel
theorem dX3_bindCall_98 : decode cX3_bindCall 98 = .ok (.iload_n 1, 1) := by decide +kernel
theorem dX3_bindCall_99 : decode cX3_bindCall 99 = .ok (.iaload, 1) := by decide +kernel
theorem dX3_bindCall_100 : decode cX3_bindCall 100 = .ok (.putfield 49, 3) := by decide +kernel
theorem dX3_bindCall_103 : decode cX3_bindCall 103 = .ok (.return_, 1) := by decide +kernel
theorem dX3_expect_0 : decode cX3_expect 0 = .ok (.aload_n 0, 1) := by decide +kernel
theorem dX3_expect_1 : decode cX3_expect 1 = .ok (.getfield 16, 3) := by decide +kernel
theorem dX3_expect_4 : decode cX3_expect 4 = .ok (.getfield 58, 3) := by decide +kernel
theorem dX3_expect_7 : decode cX3_expect 7 = .ok (.iload_n 1, 1) := by decide +kernel
theorem dX3_expect_8 : decode cX3_expect 8 = .ok (.if_icmp .ne 11, 3) := by decide +kernel
theorem dX3_expect_11 : decode cX3_expect 11 = .ok (.aload_n 0, 1) := by decide +kernel
theorem dX3_expect_12 : decode cX3_expect 12 = .ok (.iload_n 2, 1) := by decide +kernel
theorem dX3_expect_13 : decode cX3_expect 13 = .ok (.putfield 46, 3) := by decide +kernel
theorem dX3_expect_16 : decode cX3_expect 16 = .ok (.goto 7, 3) := by decide +kernel
theorem dX3_expect_19 : decode cX3_expect 19 = .ok (.aload_n 0, 1) := by decide +kernel
theorem dX3_expect_20 : decode cX3_expect 20 = .ok (.invokevirtual 76, 3) := by decide +kernel
theorem dX3_expect_23 : decode cX3_expect 23 = .ok (.return_, 1) := by decide +kernel
theorem dX3_fail_0 : decode cX3_fail 0 = .ok (.aload_n 0, 1) := by decide +kernel
theorem dX3_fail_1 : decode cX3_fail 1 = .ok (.aload_n 0, 1) := by decide +kernel
theorem dX3_fail_2 : decode cX3_fail 2 = .ok (.getfield 16, 3) := by decide +kernel
theorem dX3_fail_5 : decode cX3_fail 5 = .ok (.getfield 222, 3) := by decide +kernel
theorem dX3_fail_8 : decode cX3_fail 8 = .ok (.putfield 49, 3) := by decide +kernel
theorem dX3_fail_11 : decode cX3_fail 11 = .ok (.return_, 1) := by decide +kernel
theorem dX4_init_0 : decode cX4_init 0 = .ok (.aload_n 0, 1) := by decide +kernel
theorem dX4_init_1 : decode cX4_init 1 = .ok (.invokespecial 7, 3) := by decide +kernel
theorem dX4_init_4 : decode cX4_init 4 = .ok (.aload_n 0, 1) := by decide +kernel
theorem dX4_init_5 : decode cX4_init 5 = .ok (.new 13, 3) := by decide +kernel
theorem dX4_init_8 : decode cX4_init 8 = .ok (.dup, 1) := by decide +kernel
theorem dX4_init_9 : decode cX4_init 9 = .ok (.invokespecial 15, 3) := by decide +kernel
theorem dX4_init_12 : decode cX4_init 12 = .ok (.putfield 16, 3) := by decide +kernel
theorem dX4_init_15 : decode cX4_init 15 = .ok (.aload_n 0, 1) := by decide +kernel
theorem dX4_init_16 : decode cX4_init 16 = .ok (.sipush 18000, 3) := by decide +kernel
theorem dX4_init_19 : decode cX4_init 19 = .ok (.newarray .int, 2) := by decide +kernel
theorem dX4_init_21 : decode cX4_init 21 = .ok (.putfield 22, 3) := by decide +kernel
theorem dX4_init_24 : decode cX4_init 24 = .ok (.aload_n 0, 1) := by decide +kernel
theorem dX4_init_25 : decode cX4_init 25 = .ok (.sipush 18000, 3) := by decide +kernel
theorem dX4_init_28 : decode cX4_init 28 = .ok (.newarray .int, 2) := by decide +kernel
theorem dX4_init_30 : decode cX4_init 30 = .ok (.putfield 26, 3) := by decide +kernel
theorem dX4_init_33 : decode cX4_init 33 = .ok (.aload_n 0, 1) := by decide +kernel
theorem dX4_init_34 : decode cX4_init 34 = .ok (.sipush 18000, 3) := by decide +kernel
theorem dX4_init_37 : decode cX4_init 37 = .ok (.newarray .int, 2) := by decide +kernel
theorem dX4_init_39 : decode cX4_init 39 = .ok (.putfield 29, 3) := by decide +kernel
theorem dX4_init_42 : decode cX4_init 42 = .ok (.aload_n 0, 1) := by decide +kernel
theorem dX4_init_43 : decode cX4_init 43 = .ok (.sipush 18000, 3) := by decide +kernel
theorem dX4_init_46 : decode cX4_init 46 = .ok (.newarray .int, 2) := by decide +kernel
theorem dX4_init_48 : decode cX4_init 48 = .ok (.putfield 32, 3) := by decide +kernel
theorem dX4_init_51 : decode cX4_init 51 = .ok (.aload_n 0, 1) := by decide +kernel
theorem dX4_init_52 : decode cX4_init 52 = .ok (.sipush 18000, 3) := by decide +kernel
theorem dX4_init_55 : decode cX4_init 55 = .ok (.newarray .int, 2) := by decide +kernel
theorem dX4_init_57 : decode cX4_init 57 = .ok (.putfield 35, 3) := by decide +kernel
theorem dX4_init_60 : decode cX4_init 60 = .ok (.return_, 1) := by decide +kernel
theorem dX4_emptyFor_0 : decode cX4_emptyFor 0 = .ok (.aload_n 0, 1) := by decide +kernel
theorem dX4_emptyFor_1 : decode cX4_emptyFor 1 = .ok (.getfield 16, 3) := by decide +kernel
theorem dX4_emptyFor_4 : decode cX4_emptyFor 4 = .ok (.iload_n 1, 1) := by decide +kernel
theorem dX4_emptyFor_5 : decode cX4_emptyFor 5 = .ok (.invokevirtual 38, 3) := by decide +kernel
theorem dX4_emptyFor_8 : decode cX4_emptyFor 8 = .ok (.aload_n 0, 1) := by decide +kernel
theorem dX4_emptyFor_9 : decode cX4_emptyFor 9 = .ok (.iconst 0, 1) := by decide +kernel
theorem dX4_emptyFor_10 : decode cX4_emptyFor 10 = .ok (.putfield 42, 3) := by decide +kernel
theorem dX4_emptyFor_13 : decode cX4_emptyFor 13 = .ok (.return_, 1) := by decide +kernel
theorem dX4_forget_0 : decode cX4_forget 0 = .ok (.iload_n 1, 1) := by decide +kernel
theorem dX4_forget_1 : decode cX4_forget 1 = .ok (.istore_n 3, 1) := by decide +kernel
theorem dX4_forget_2 : decode cX4_forget 2 = .ok (.iload_n 3, 1) := by decide +kernel
theorem dX4_forget_3 : decode cX4_forget 3 = .ok (.iload_n 1, 1) := by decide +kernel
theorem dX4_forget_4 : decode cX4_forget 4 = .ok (.iload_n 2, 1) := by decide +kernel
theorem dX4_forget_5 : decode cX4_forget 5 = .ok (.iadd, 1) := by decide +kernel
theorem dX4_forget_6 : decode cX4_forget 6 = .ok (.if_icmp .ge 16, 3) := by decide +kernel
theorem dX4_forget_9 : decode cX4_forget 9 = .ok (.aload_n 0, 1) := by decide +kernel
theorem dX4_forget_10 : decode cX4_forget 10 = .ok (.getfield 22, 3) := by decide +kernel
theorem dX4_forget_13 : decode cX4_forget 13 = .ok (.iload_n 3, 1) := by decide +kernel
theorem dX4_forget_14 : decode cX4_forget 14 = .ok (.iconst 0, 1) := by decide +kernel
theorem dX4_forget_15 : decode cX4_forget 15 = .ok (.iastore, 1) := by decide +kernel
theorem dX4_forget_16 : decode cX4_forget 16 = .ok (.iinc 3 1, 3) := by decide +kernel
theorem dX4_forget_19 : decode cX4_forget 19 = .ok (.goto (-17), 3) := by decide +kernel
theorem dX4_forget_22 : decode cX4_forget 22 = .ok (.return_, 1) := by decide +kernel
theorem dX4_reach_0 : decode cX4_reach 0 = .ok (.aload_n 0, 1) := by decide +kernel
theorem dX4_reach_1 : decode cX4_reach 1 = .ok (.getfield 22, 3) := by decide +kernel
theorem dX4_reach_4 : decode cX4_reach 4 = .ok (.iload_n 1, 1) := by decide +kernel
theorem dX4_reach_5 : decode cX4_reach 5 = .ok (.iaload, 1) := by decide +kernel
theorem dX4_reach_6 : decode cX4_reach 6 = .ok (.ifCond .ne 25, 3) := by decide +kernel
theorem dX4_reach_9 : decode cX4_reach 9 = .ok (.aload_n 0, 1) := by decide +kernel
theorem dX4_reach_10 : decode cX4_reach 10 = .ok (.getfield 22, 3) := by decide +kernel
theorem dX4_reach_13 : decode cX4_reach 13 = .ok (.iload_n 1, 1) := by decide +kernel
theorem dX4_reach_14 : decode cX4_reach 14 = .ok (.iconst 1, 1) := by decide +kernel
theorem dX4_reach_15 : decode cX4_reach 15 = .ok (.iastore, 1) := by decide +kernel
theorem dX4_reach_16 : decode cX4_reach 16 = .ok (.aload_n 0, 1) := by decide +kernel
theorem dX4_reach_17 : decode cX4_reach 17 = .ok (.getfield 32, 3) := by decide +kernel
theorem dX4_reach_20 : decode cX4_reach 20 = .ok (.iload_n 1, 1) := by decide +kernel
theorem dX4_reach_21 : decode cX4_reach 21 = .ok (.iconst (-1), 1) := by decide +kernel
theorem dX4_reach_22 : decode cX4_reach 22 = .ok (.iastore, 1) := by decide +kernel
theorem dX4_reach_23 : decode cX4_reach 23 = .ok (.aload_n 0, 1) := by decide +kernel
theorem dX4_reach_24 : decode cX4_reach 24 = .ok (.getfield 16, 3) := by decide +kernel
theorem dX4_reach_27 : decode cX4_reach 27 = .ok (.iload_n 1, 1) := by decide +kernel
theorem dX4_reach_28 : decode cX4_reach 28 = .ok (.invokevirtual 46, 3) := by decide +kernel
theorem dX4_reach_31 : decode cX4_reach 31 = .ok (.return_, 1) := by decide +kernel
theorem dX4_see_0 : decode cX4_see 0 = .ok (.aload_n 0, 1) := by decide +kernel
theorem dX4_see_1 : decode cX4_see 1 = .ok (.getfield 22, 3) := by decide +kernel
theorem dX4_see_4 : decode cX4_see 4 = .ok (.iload_n 1, 1) := by decide +kernel
theorem dX4_see_5 : decode cX4_see 5 = .ok (.iaload, 1) := by decide +kernel
theorem dX4_see_6 : decode cX4_see 6 = .ok (.iconst 1, 1) := by decide +kernel
theorem dX4_see_7 : decode cX4_see 7 = .ok (.if_icmp .ne 7, 3) := by decide +kernel
theorem dX4_see_10 : decode cX4_see 10 = .ok (.iconst 1, 1) := by decide +kernel
theorem dX4_see_11 : decode cX4_see 11 = .ok (.goto 4, 3) := by decide +kernel
theorem dX4_see_14 : decode cX4_see 14 = .ok (.iconst 0, 1) := by decide +kernel
theorem dX4_see_15 : decode cX4_see 15 = .ok (.istore_n 2, 1) := by decide +kernel
theorem dX4_see_16 : decode cX4_see 16 = .ok (.aload_n 0, 1) := by decide +kernel
theorem dX4_see_17 : decode cX4_see 17 = .ok (.getfield 22, 3) := by decide +kernel
theorem dX4_see_20 : decode cX4_see 20 = .ok (.iload_n 1, 1) := by decide +kernel
theorem dX4_see_21 : decode cX4_see 21 = .ok (.iconst 2, 1) := by decide +kernel
theorem dX4_see_22 : decode cX4_see 22 = .ok (.iastore, 1) := by decide +kernel
theorem dX4_see_23 : decode cX4_see 23 = .ok (.iload_n 2, 1) := by decide +kernel
theorem dX4_see_24 : decode cX4_see 24 = .ok (.ireturn, 1) := by decide +kernel
theorem dX4_isKnown_0 : decode cX4_isKnown 0 = .ok (.aload_n 0, 1) := by decide +kernel
theorem dX4_isKnown_1 : decode cX4_isKnown 1 = .ok (.getfield 22, 3) := by decide +kernel
theorem dX4_isKnown_4 : decode cX4_isKnown 4 = .ok (.iload_n 1, 1) := by decide +kernel
theorem dX4_isKnown_5 : decode cX4_isKnown 5 = .ok (.iaload, 1) := by decide +kernel
theorem dX4_isKnown_6 : decode cX4_isKnown 6 = .ok (.iconst 3, 1) := by decide +kernel
theorem dX4_isKnown_7 : decode cX4_isKnown 7 = .ok (.if_icmp .ne 7, 3) := by decide +kernel
theorem dX4_isKnown_10 : decode cX4_isKnown 10 = .ok (.iconst 1, 1) := by decide +kernel
theorem dX4_isKnown_11 : decode cX4_isKnown 11 = .ok (.goto 4, 3) := by decide +kernel
theorem dX4_isKnown_14 : decode cX4_isKnown 14 = .ok (.iconst 0, 1) := by decide +kernel
theorem dX4_isKnown_15 : decode cX4_isKnown 15 = .ok (.ireturn, 1) := by decide +kernel
theorem dX4_numberAt_0 : decode cX4_numberAt 0 = .ok (.aload_n 0, 1) := by decide +kernel
theorem dX4_numberAt_1 : decode cX4_numberAt 1 = .ok (.getfield 26, 3) := by decide +kernel
theorem dX4_numberAt_4 : decode cX4_numberAt 4 = .ok (.iload_n 1, 1) := by decide +kernel
theorem dX4_numberAt_5 : decode cX4_numberAt 5 = .ok (.iaload, 1) := by decide +kernel
theorem dX4_numberAt_6 : decode cX4_numberAt 6 = .ok (.ireturn, 1) := by decide +kernel
theorem dX4_arrayAt_0 : decode cX4_arrayAt 0 = .ok (.aload_n 0, 1) := by decide +kernel
theorem dX4_arrayAt_1 : decode cX4_arrayAt 1 = .ok (.getfield 29, 3) := by decide +kernel
theorem dX4_arrayAt_4 : decode cX4_arrayAt 4 = .ok (.iload_n 1, 1) := by decide +kernel
theorem dX4_arrayAt_5 : decode cX4_arrayAt 5 = .ok (.iaload, 1) := by decide +kernel
theorem dX4_arrayAt_6 : decode cX4_arrayAt 6 = .ok (.ireturn, 1) := by decide +kernel
theorem dX4_settle_0 : decode cX4_settle 0 = .ok (.aload_n 0, 1) := by decide +kernel
theorem dX4_settle_1 : decode cX4_settle 1 = .ok (.getfield 22, 3) := by decide +kernel
theorem dX4_settle_4 : decode cX4_settle 4 = .ok (.iload_n 1, 1) := by decide +kernel
theorem dX4_settle_5 : decode cX4_settle 5 = .ok (.iconst 3, 1) := by decide +kernel
theorem dX4_settle_6 : decode cX4_settle 6 = .ok (.iastore, 1) := by decide +kernel
theorem dX4_settle_7 : decode cX4_settle 7 = .ok (.aload_n 0, 1) := by decide +kernel
theorem dX4_settle_8 : decode cX4_settle 8 = .ok (.getfield 26, 3) := by decide +kernel
theorem dX4_settle_11 : decode cX4_settle 11 = .ok (.iload_n 1, 1) := by decide +kernel
theorem dX4_settle_12 : decode cX4_settle 12 = .ok (.iload_n 2, 1) := by decide +kernel
theorem dX4_settle_13 : decode cX4_settle 13 = .ok (.iastore, 1) := by decide +kernel
theorem dX4_settle_14 : decode cX4_settle 14 = .ok (.aload_n 0, 1) := by decide +kernel
theorem dX4_settle_15 : decode cX4_settle 15 = .ok (.getfield 29, 3) := by decide +kernel
theorem dX4_settle_18 : decode cX4_settle 18 = .ok (.iload_n 1, 1) := by decide +kernel
theorem dX4_settle_19 : decode cX4_settle 19 = .ok (.iload_n 3, 1) := by decide +kernel
theorem dX4_settle_20 : decode cX4_settle 20 = .ok (.iastore, 1) := by decide +kernel
theorem dX4_settle_21 : decode cX4_settle 21 = .ok (.aload_n 0, 1) := by decide +kernel
theorem dX4_settle_22 : decode cX4_settle 22 = .ok (.dup, 1) := by decide +kernel
theorem dX4_settle_23 : decode cX4_settle 23 = .ok (.getfield 42, 3) := by decide +kernel
theorem dX4_settle_26 : decode cX4_settle 26 = .ok (.iconst 1, 1) := by decide +kernel
theorem dX4_settle_27 : decode cX4_settle 27 = .ok (.iadd, 1) := by decide +kernel
theorem dX4_settle_28 : decode cX4_settle 28 = .ok (.putfield 42, 3) := by decide +kernel
theorem dX4_settle_31 : decode cX4_settle 31 = .ok (.aload_n 0, 1) := by decide +kernel
theorem dX4_settle_32 : decode cX4_settle 32 = .ok (.getfield 32, 3) := by decide +kernel
theorem dX4_settle_35 : decode cX4_settle 35 = .ok (.iload_n 1, 1) := by decide +kernel
theorem dX4_settle_36 : decode cX4_settle 36 = .ok (.iaload, 1) := by decide +kernel
theorem dX4_settle_37 : decode cX4_settle 37 = .ok (.istore 4, 2) := by decide +kernel
theorem dX4_settle_39 : decode cX4_settle 39 = .ok (.iconst 0, 1) := by decide +kernel
theorem dX4_settle_40 : decode cX4_settle 40 = .ok (.istore 5, 2) := by decide +kernel
theorem dX4_settle_42 : decode cX4_settle 42 = .ok (.iload 5, 2) := by decide +kernel
theorem dX4_settle_44 : decode cX4_settle 44 = .ok (.sipush 18000, 3) := by decide +kernel
theorem dX4_settle_47 : decode cX4_settle 47 = .ok (.if_icmp .ge 33, 3) := by decide +kernel
theorem dX4_settle_50 : decode cX4_settle 50 = .ok (.iload 4, 2) := by decide +kernel
theorem dX4_settle_52 : decode cX4_settle 52 = .ok (.iconst (-1), 1) := by decide +kernel
theorem dX4_settle_53 : decode cX4_settle 53 = .ok (.if_icmp .eq 27, 3) := by decide +kernel
theorem dX4_settle_56 : decode cX4_settle 56 = .ok (.aload_n 0, 1) := by decide +kernel
theorem dX4_settle_57 : decode cX4_settle 57 = .ok (.getfield 16, 3) := by decide +kernel
theorem dX4_settle_60 : decode cX4_settle 60 = .ok (.iload 4, 2) := by decide +kernel
theorem dX4_settle_62 : decode cX4_settle 62 = .ok (.invokevirtual 46, 3) := by decide +kernel
theorem dX4_settle_65 : decode cX4_settle 65 = .ok (.aload_n 0, 1) := by decide +kernel
theorem dX4_settle_66 : decode cX4_settle 66 = .ok (.getfield 35, 3) := by decide +kernel
theorem dX4_settle_69 : decode cX4_settle 69 = .ok (.iload 4, 2) := by decide +kernel
theorem dX4_settle_71 : decode cX4_settle 71 = .ok (.iaload, 1) := by decide +kernel
theorem dX4_settle_72 : decode cX4_settle 72 = .ok (.istore 4, 2) := by decide +kernel
theorem dX4_settle_74 : decode cX4_settle 74 = .ok (.iinc 5 1, 3) := by decide +kernel
theorem dX4_settle_77 : decode cX4_settle 77 = .ok (.goto (-35), 3) := by decide +kernel
theorem dX4_settle_80 : decode cX4_settle 80 = .ok (.return_, 1) := by decide +kernel
theorem dX4_has_0 : decode cX4_has 0 = .ok (.aload_n 0, 1) := by decide +kernel
theorem dX4_has_1 : decode cX4_has 1 = .ok (.getfield 22, 3) := by decide +kernel
theorem dX4_has_4 : decode cX4_has 4 = .ok (.iload_n 2, 1) := by decide +kernel
theorem dX4_has_5 : decode cX4_has 5 = .ok (.iaload, 1) := by decide +kernel
theorem dX4_has_6 : decode cX4_has 6 = .ok (.iconst 3, 1) := by decide +kernel
theorem dX4_has_7 : decode cX4_has 7 = .ok (.if_icmp .ne 5, 3) := by decide +kernel
theorem dX4_has_10 : decode cX4_has 10 = .ok (.iconst 1, 1) := by decide +kernel
theorem dX4_has_11 : decode cX4_has 11 = .ok (.ireturn, 1) := by decide +kernel
theorem dX4_has_12 : decode cX4_has 12 = .ok (.aload_n 0, 1) := by decide +kernel
theorem dX4_has_13 : decode cX4_has 13 = .ok (.getfield 35, 3) := by decide +kernel
theorem dX4_has_16 : decode cX4_has 16 = .ok (.iload_n 1, 1) := by decide +kernel
theorem dX4_has_17 : decode cX4_has 17 = .ok (.aload_n 0, 1) := by decide +kernel
theorem dX4_has_18 : decode cX4_has 18 = .ok (.getfield 32, 3) := by decide +kernel
theorem dX4_has_21 : decode cX4_has 21 = .ok (.iload_n 2, 1) := by decide +kernel
theorem dX4_has_22 : decode cX4_has 22 = .ok (.iaload, 1) := by decide +kernel
theorem dX4_has_23 : decode cX4_has 23 = .ok (.iastore, 1) := by decide +kernel
theorem dX4_has_24 : decode cX4_has 24 = .ok (.aload_n 0, 1) := by decide +kernel
theorem dX4_has_25 : decode cX4_has 25 = .ok (.getfield 32, 3) := by decide +kernel
theorem dX4_has_28 : decode cX4_has 28 = .ok (.iload_n 2, 1) := by decide +kernel
theorem dX4_has_29 : decode cX4_has 29 = .ok (.iload_n 1, 1) := by decide +kernel
theorem dX4_has_30 : decode cX4_has 30 = .ok (.iastore, 1) := by decide +kernel
theorem dX4_has_31 : decode cX4_has 31 = .ok (.iconst 0, 1) := by decide +kernel
theorem dX4_has_32 : decode cX4_has 32 = .ok (.ireturn, 1) := by decide +kernel
theorem dX4_follow_0 : decode cX4_follow 0 = .ok (.aload_n 0, 1) := by decide +kernel
theorem dX4_follow_1 : decode cX4_follow 1 = .ok (.iload_n 1, 1) := by decide +kernel
theorem dX4_follow_2 : decode cX4_follow 2 = .ok (.iload_n 2, 1) := by decide +kernel
theorem dX4_follow_3 : decode cX4_follow 3 = .ok (.invokevirtual 49, 3) := by decide +kernel
theorem dX4_follow_6 : decode cX4_follow 6 = .ok (.ifCond .eq 20, 3) := by decide +kernel
theorem dX4_follow_9 : decode cX4_follow 9 = .ok (.aload_n 0, 1) := by decide +kernel
theorem dX4_follow_10 : decode cX4_follow 10 = .ok (.iload_n 1, 1) := by decide +kernel
theorem dX4_follow_11 : decode cX4_follow 11 = .ok (.aload_n 0, 1) := by decide +kernel
theorem dX4_follow_12 : decode cX4_follow 12 = .ok (.getfield 26, 3) := by decide +kernel
theorem dX4_follow_15 : decode cX4_follow 15 = .ok (.iload_n 2, 1) := by decide +kernel
theorem dX4_follow_16 : decode cX4_follow 16 = .ok (.iaload, 1) := by decide +kernel
theorem dX4_follow_17 : decode cX4_follow 17 = .ok (.aload_n 0, 1) := by decide +kernel
theorem dX4_follow_18 : decode cX4_follow 18 = .ok (.getfield 29, 3) := by decide +kernel
theorem dX4_follow_21 : decode cX4_follow 21 = .ok (.iload_n 2, 1) := by decide +kernel
theorem dX4_follow_22 : decode cX4_follow 22 = .ok (.iaload, 1) := by decide +kernel
theorem dX4_follow_23 : decode cX4_follow 23 = .ok (.invokevirtual 53, 3) := by decide +kernel
theorem dX4_follow_26 : decode cX4_follow 26 = .ok (.return_, 1) := by decide +kernel
theorem dX5_init_0 : decode cX5_init 0 = .ok (.aload_n 0, 1) := by decide +kernel
theorem dX5_init_1 : decode cX5_init 1 = .ok (.invokespecial 1, 3) := by decide +kernel
theorem dX5_init_4 : decode cX5_init 4 = .ok (.aload_n 0, 1) := by decide +kernel
theorem dX5_init_5 : decode cX5_init 5 = .ok (.sipush 1500, 3) := by decide +kernel
theorem dX5_init_8 : decode cX5_init 8 = .ok (.newarray .int, 2) := by decide +kernel
theorem dX5_init_10 : decode cX5_init 10 = .ok (.putfield 9, 3) := by decide +kernel
theorem dX5_init_13 : decode cX5_init 13 = .ok (.return_, 1) := by decide +kernel
theorem dX5_room_0 : decode cX5_room 0 = .ok (.sipush 1500, 3) := by decide +kernel
theorem dX5_room_3 : decode cX5_room 3 = .ok (.aload_n 0, 1) := by decide +kernel
theorem dX5_room_4 : decode cX5_room 4 = .ok (.getfield 13, 3) := by decide +kernel
theorem dX5_room_7 : decode cX5_room 7 = .ok (.isub, 1) := by decide +kernel
theorem dX5_room_8 : decode cX5_room 8 = .ok (.ireturn, 1) := by decide +kernel
theorem dX5_add_0 : decode cX5_add 0 = .ok (.aload_n 0, 1) := by decide +kernel
theorem dX5_add_1 : decode cX5_add 1 = .ok (.getfield 13, 3) := by decide +kernel
theorem dX5_add_4 : decode cX5_add 4 = .ok (.sipush 1500, 3) := by decide +kernel
theorem dX5_add_7 : decode cX5_add 7 = .ok (.if_icmp .ge 23, 3) := by decide +kernel
theorem dX5_add_10 : decode cX5_add 10 = .ok (.aload_n 0, 1) := by decide +kernel
theorem dX5_add_11 : decode cX5_add 11 = .ok (.getfield 9, 3) := by decide +kernel
theorem dX5_add_14 : decode cX5_add 14 = .ok (.aload_n 0, 1) := by decide +kernel
theorem dX5_add_15 : decode cX5_add 15 = .ok (.getfield 13, 3) := by decide +kernel
theorem dX5_add_18 : decode cX5_add 18 = .ok (.iload_n 1, 1) := by decide +kernel
theorem dX5_add_19 : decode cX5_add 19 = .ok (.iastore, 1) := by decide +kernel
theorem dX5_add_20 : decode cX5_add 20 = .ok (.aload_n 0, 1) := by decide +kernel
theorem dX5_add_21 : decode cX5_add 21 = .ok (.dup, 1) := by decide +kernel
theorem dX5_add_22 : decode cX5_add 22 = .ok (.getfield 13, 3) := by decide +kernel
theorem dX5_add_25 : decode cX5_add 25 = .ok (.iconst 1, 1) := by decide +kernel
theorem dX5_add_26 : decode cX5_add 26 = .ok (.iadd, 1) := by decide +kernel
theorem dX5_add_27 : decode cX5_add 27 = .ok (.putfield 13, 3) := by decide +kernel
theorem dX5_add_30 : decode cX5_add 30 = .ok (.return_, 1) := by decide +kernel
theorem dX5_makeEmpty_0 : decode cX5_makeEmpty 0 = .ok (.aload_n 0, 1) := by decide +kernel
theorem dX5_makeEmpty_1 : decode cX5_makeEmpty 1 = .ok (.iconst 0, 1) := by decide +kernel
theorem dX5_makeEmpty_2 : decode cX5_makeEmpty 2 = .ok (.putfield 13, 3) := by decide +kernel
theorem dX5_makeEmpty_5 : decode cX5_makeEmpty 5 = .ok (.return_, 1) := by decide +kernel
theorem dX5_goToFirst_0 : decode cX5_goToFirst 0 = .ok (.aload_n 0, 1) := by decide +kernel
theorem dX5_goToFirst_1 : decode cX5_goToFirst 1 = .ok (.iconst 0, 1) := by decide +kernel
theorem dX5_goToFirst_2 : decode cX5_goToFirst 2 = .ok (.putfield 17, 3) := by decide +kernel
theorem dX5_goToFirst_5 : decode cX5_goToFirst 5 = .ok (.aload_n 0, 1) := by decide +kernel
theorem dX5_goToFirst_6 : decode cX5_goToFirst 6 = .ok (.invokevirtual 20, 3) := by decide +kernel
theorem dX5_goToFirst_9 : decode cX5_goToFirst 9 = .ok (.return_, 1) := by decide +kernel
theorem dX5_advance_0 : decode cX5_advance 0 = .ok (.aload_n 0, 1) := by decide +kernel
theorem dX5_advance_1 : decode cX5_advance 1 = .ok (.getfield 17, 3) := by decide +kernel
theorem dX5_advance_4 : decode cX5_advance 4 = .ok (.aload_n 0, 1) := by decide +kernel
theorem dX5_advance_5 : decode cX5_advance 5 = .ok (.getfield 13, 3) := by decide +kernel
theorem dX5_advance_8 : decode cX5_advance 8 = .ok (.if_icmp .ge 31, 3) := by decide +kernel
theorem dX5_advance_11 : decode cX5_advance 11 = .ok (.aload_n 0, 1) := by decide +kernel
theorem dX5_advance_12 : decode cX5_advance 12 = .ok (.getfield 9, 3) := by decide +kernel
theorem dX5_advance_15 : decode cX5_advance 15 = .ok (.aload_n 0, 1) := by decide +kernel
theorem dX5_advance_16 : decode cX5_advance 16 = .ok (.getfield 17, 3) := by decide +kernel
theorem dX5_advance_19 : decode cX5_advance 19 = .ok (.iaload, 1) := by decide +kernel
theorem dX5_advance_20 : decode cX5_advance 20 = .ok (.invokestatic 23, 3) := by decide +kernel
theorem dX5_advance_23 : decode cX5_advance 23 = .ok (.ifCond .eq 16, 3) := by decide +kernel
theorem dX5_advance_26 : decode cX5_advance 26 = .ok (.aload_n 0, 1) := by decide +kernel
theorem dX5_advance_27 : decode cX5_advance 27 = .ok (.dup, 1) := by decide +kernel
theorem dX5_advance_28 : decode cX5_advance 28 = .ok (.getfield 17, 3) := by decide +kernel
theorem dX5_advance_31 : decode cX5_advance 31 = .ok (.iconst 1, 1) := by decide +kernel
theorem dX5_advance_32 : decode cX5_advance 32 = .ok (.iadd, 1) := by decide +kernel
theorem dX5_advance_33 : decode cX5_advance 33 = .ok (.putfield 17, 3) := by decide +kernel
theorem dX5_advance_36 : decode cX5_advance 36 = .ok (.goto (-36), 3) := by decide +kernel
theorem dX5_advance_39 : decode cX5_advance 39 = .ok (.aload_n 0, 1) := by decide +kernel
theorem dX5_advance_40 : decode cX5_advance 40 = .ok (.aload_n 0, 1) := by decide +kernel
theorem dX5_advance_41 : decode cX5_advance 41 = .ok (.getfield 17, 3) := by decide +kernel
theorem dX5_advance_44 : decode cX5_advance 44 = .ok (.putfield 27, 3) := by decide +kernel
theorem dX5_advance_47 : decode cX5_advance 47 = .ok (.aload_n 0, 1) := by decide +kernel
theorem dX5_advance_48 : decode cX5_advance 48 = .ok (.getfield 17, 3) := by decide +kernel
theorem dX5_advance_51 : decode cX5_advance 51 = .ok (.aload_n 0, 1) := by decide +kernel
theorem dX5_advance_52 : decode cX5_advance 52 = .ok (.getfield 13, 3) := by decide +kernel
theorem dX5_advance_55 : decode cX5_advance 55 = .ok (.if_icmp .lt 11, 3) := by decide +kernel
theorem dX5_advance_58 : decode cX5_advance 58 = .ok (.aload_n 0, 1) := by decide +kernel
theorem dX5_advance_59 : decode cX5_advance 59 = .ok (.iconst 0, 1) := by decide +kernel
theorem dX5_advance_60 : decode cX5_advance 60 = .ok (.putfield 30, 3) := by decide +kernel
theorem dX5_advance_63 : decode cX5_advance 63 = .ok (.goto 85, 3) := by decide +kernel
theorem dX5_advance_66 : decode cX5_advance 66 = .ok (.aload_n 0, 1) := by decide +kernel
theorem dX5_advance_67 : decode cX5_advance 67 = .ok (.getfield 9, 3) := by decide +kernel
theorem dX5_advance_70 : decode cX5_advance 70 = .ok (.aload_n 0, 1) := by decide +kernel
theorem dX5_advance_71 : decode cX5_advance 71 = .ok (.getfield 17, 3) := by decide +kernel
theorem dX5_advance_74 : decode cX5_advance 74 = .ok (.iaload, 1) := by decide +kernel
theorem dX5_advance_75 : decode cX5_advance 75 = .ok (.invokestatic 33, 3) := by decide +kernel
theorem dX5_advance_78 : decode cX5_advance 78 = .ok (.ifCond .ne 18, 3) := by decide +kernel
theorem dX5_advance_81 : decode cX5_advance 81 = .ok (.aload_n 0, 1) := by decide +kernel
theorem dX5_advance_82 : decode cX5_advance 82 = .ok (.getfield 9, 3) := by decide +kernel
theorem dX5_advance_85 : decode cX5_advance 85 = .ok (.aload_n 0, 1) := by decide +kernel
theorem dX5_advance_86 : decode cX5_advance 86 = .ok (.getfield 17, 3) := by decide +kernel
theorem dX5_advance_89 : decode cX5_advance 89 = .ok (.iaload, 1) := by decide +kernel
theorem dX5_advance_90 : decode cX5_advance 90 = .ok (.invokestatic 36, 3) := by decide +kernel
theorem dX5_advance_93 : decode cX5_advance 93 = .ok (.ifCond .eq 10, 3) := by decide +kernel
theorem dX5_advance_96 : decode cX5_advance 96 = .ok (.aload_n 0, 1) := by decide +kernel
theorem dX5_advance_97 : decode cX5_advance 97 = .ok (.invokevirtual 39, 3) := by decide +kernel
theorem dX5_advance_100 : decode cX5_advance 100 = .ok (.goto 48, 3) := by decide +kernel
theorem dX5_advance_103 : decode cX5_advance 103 = .ok (.aload_n 0, 1) := by decide +kernel
theorem dX5_advance_104 : decode cX5_advance 104 = .ok (.ldc 42, 2) := by decide +kernel
theorem dX5_advance_106 : decode cX5_advance 106 = .ok (.aload_n 0, 1) := by decide +kernel
theorem dX5_advance_107 : decode cX5_advance 107 = .ok (.getfield 9, 3) := by decide +kernel
theorem dX5_advance_110 : decode cX5_advance 110 = .ok (.aload_n 0, 1) := by decide +kernel
theorem dX5_advance_111 : decode cX5_advance 111 = .ok (.getfield 17, 3) := by decide +kernel
theorem dX5_advance_114 : decode cX5_advance 114 = .ok (.iaload, 1) := by decide +kernel
theorem dX5_advance_115 : decode cX5_advance 115 = .ok (.i2c, 1) := by decide +kernel
theorem dX5_advance_116 : decode cX5_advance 116 = .ok (.invokevirtual 44, 3) := by decide +kernel
theorem dX5_advance_119 : decode cX5_advance 119 = .ok (.ifCond .lt 15, 3) := by decide +kernel
theorem dX5_advance_122 : decode cX5_advance 122 = .ok (.aload_n 0, 1) := by decide +kernel
theorem dX5_advance_123 : decode cX5_advance 123 = .ok (.getfield 9, 3) := by decide +kernel
theorem dX5_advance_126 : decode cX5_advance 126 = .ok (.aload_n 0, 1) := by decide +kernel
theorem dX5_advance_127 : decode cX5_advance 127 = .ok (.getfield 17, 3) := by decide +kernel
theorem dX5_advance_130 : decode cX5_advance 130 = .ok (.iaload, 1) := by decide +kernel
theorem dX5_advance_131 : decode cX5_advance 131 = .ok (.goto 4, 3) := by decide +kernel
theorem dX5_advance_134 : decode cX5_advance 134 = .ok (.iconst 1, 1) := by decide +kernel
theorem dX5_advance_135 : decode cX5_advance 135 = .ok (.putfield 30, 3) := by decide +kernel
theorem dX5_advance_138 : decode cX5_advance 138 = .ok (.aload_n 0, 1) := by decide +kernel
theorem dX5_advance_139 : decode cX5_advance 139 = .ok (.dup, 1) := by decide +kernel
theorem dX5_advance_140 : decode cX5_advance 140 = .ok (.getfield 17, 3) := by decide +kernel
theorem dX5_advance_143 : decode cX5_advance 143 = .ok (.iconst 1, 1) := by decide +kernel
theorem dX5_advance_144 : decode cX5_advance 144 = .ok (.iadd, 1) := by decide +kernel
theorem dX5_advance_145 : decode cX5_advance 145 = .ok (.putfield 17, 3) := by decide +kernel
theorem dX5_advance_148 : decode cX5_advance 148 = .ok (.return_, 1) := by decide +kernel
theorem dX5_isParenthesisNext_0 : decode cX5_isParenthesisNext 0 = .ok (.aload_n 0, 1) := by decide +kernel
theorem dX5_isParenthesisNext_1 : decode cX5_isParenthesisNext 1 = .ok (.getfield 17, 3) := by decide +kernel
theorem dX5_isParenthesisNext_4 : decode cX5_isParenthesisNext 4 = .ok (.istore_n 1, 1) := by decide +kernel
theorem dX5_isParenthesisNext_5 : decode cX5_isParenthesisNext 5 = .ok (.iload_n 1, 1) := by decide +kernel
theorem dX5_isParenthesisNext_6 : decode cX5_isParenthesisNext 6 = .ok (.aload_n 0, 1) := by decide +kernel
theorem dX5_isParenthesisNext_7 : decode cX5_isParenthesisNext 7 = .ok (.getfield 13, 3) := by decide +kernel
theorem dX5_isParenthesisNext_10 : decode cX5_isParenthesisNext 10 = .ok (.if_icmp .ge 21, 3) := by decide +kernel
theorem dX5_isParenthesisNext_13 : decode cX5_isParenthesisNext 13 = .ok (.aload_n 0, 1) := by decide +kernel
theorem dX5_isParenthesisNext_14 : decode cX5_isParenthesisNext 14 = .ok (.getfield 9, 3) := by decide +kernel
theorem dX5_isParenthesisNext_17 : decode cX5_isParenthesisNext 17 = .ok (.iload_n 1, 1) := by decide +kernel
theorem dX5_isParenthesisNext_18 : decode cX5_isParenthesisNext 18 = .ok (.iaload, 1) := by decide +kernel
theorem dX5_isParenthesisNext_19 : decode cX5_isParenthesisNext 19 = .ok (.invokestatic 23, 3) := by decide +kernel
theorem dX5_isParenthesisNext_22 : decode cX5_isParenthesisNext 22 = .ok (.ifCond .eq 9, 3) := by decide +kernel
theorem dX5_isParenthesisNext_25 : decode cX5_isParenthesisNext 25 = .ok (.iinc 1 1, 3) := by decide +kernel
theorem dX5_isParenthesisNext_28 : decode cX5_isParenthesisNext 28 = .ok (.goto (-23), 3) := by decide +kernel
theorem dX5_isParenthesisNext_31 : decode cX5_isParenthesisNext 31 = .ok (.iload_n 1, 1) := by decide +kernel
theorem dX5_isParenthesisNext_32 : decode cX5_isParenthesisNext 32 = .ok (.aload_n 0, 1) := by decide +kernel
theorem dX5_isParenthesisNext_33 : decode cX5_isParenthesisNext 33 = .ok (.getfield 13, 3) := by decide +kernel
theorem dX5_isParenthesisNext_36 : decode cX5_isParenthesisNext 36 = .ok (.if_icmp .ge 18, 3) := by decide +kernel
theorem dX5_isParenthesisNext_39 : decode cX5_isParenthesisNext 39 = .ok (.aload_n 0, 1) := by decide +kernel
theorem dX5_isParenthesisNext_40 : decode cX5_isParenthesisNext 40 = .ok (.getfield 9, 3) := by decide +kernel
theorem dX5_isParenthesisNext_43 : decode cX5_isParenthesisNext 43 = .ok (.iload_n 1, 1) := by decide +kernel
theorem dX5_isParenthesisNext_44 : decode cX5_isParenthesisNext 44 = .ok (.iaload, 1) := by decide +kernel
theorem dX5_isParenthesisNext_45 : decode cX5_isParenthesisNext 45 = .ok (.bipush 40, 2) := by decide +kernel
theorem dX5_isParenthesisNext_47 : decode cX5_isParenthesisNext 47 = .ok (.if_icmp .ne 7, 3) := by decide +kernel
theorem dX5_isParenthesisNext_50 : decode cX5_isParenthesisNext 50 = .ok (.iconst 1, 1) := by decide +kernel
theorem dX5_isParenthesisNext_51 : decode cX5_isParenthesisNext 51 = .ok (.goto 4, 3) := by decide +kernel
theorem dX5_isParenthesisNext_54 : decode cX5_isParenthesisNext 54 = .ok (.iconst 0, 1) := by decide +kernel
theorem dX5_isParenthesisNext_55 : decode cX5_isParenthesisNext 55 = .ok (.ireturn, 1) := by decide +kernel
theorem dX5_takeRow_0 : decode cX5_takeRow 0 = .ok (.iconst 0, 1) := by decide +kernel
theorem dX5_takeRow_1 : decode cX5_takeRow 1 = .ok (.istore_n 1, 1) := by decide +kernel
theorem dX5_takeRow_2 : decode cX5_takeRow 2 = .ok (.lconst 0, 1) := by decide +kernel
theorem dX5_takeRow_3 : decode cX5_takeRow 3 = .ok (.lstore_n 2, 1) := by decide +kernel
theorem dX5_takeRow_4 : decode cX5_takeRow 4 = .ok (.lconst 0, 1) := by decide +kernel
theorem dX5_takeRow_5 : decode cX5_takeRow 5 = .ok (.lstore 4, 2) := by decide +kernel
theorem dX5_takeRow_7 : decode cX5_takeRow 7 = .ok (.aload_n 0, 1) := by decide +kernel
theorem dX5_takeRow_8 : decode cX5_takeRow 8 = .ok (.getfield 17, 3) := by decide +kernel
theorem dX5_takeRow_11 : decode cX5_takeRow 11 = .ok (.aload_n 0, 1) := by decide +kernel
theorem dX5_takeRow_12 : decode cX5_takeRow 12 = .ok (.getfield 13, 3) := by decide +kernel
theorem dX5_takeRow_15 : decode cX5_takeRow 15 = .ok (.if_icmp .ge 102, 3) := by decide +kernel
theorem dX5_takeRow_18 : decode cX5_takeRow 18 = .ok (.aload_n 0, 1) := by decide +kernel
theorem dX5_takeRow_19 : decode cX5_takeRow 19 = .ok (.getfield 9, 3) := by decide +kernel
theorem dX5_takeRow_22 : decode cX5_takeRow 22 = .ok (.aload_n 0, 1) := by decide +kernel
theorem dX5_takeRow_23 : decode cX5_takeRow 23 = .ok (.getfield 17, 3) := by decide +kernel
theorem dX5_takeRow_26 : decode cX5_takeRow 26 = .ok (.iaload, 1) := by decide +kernel
theorem dX5_takeRow_27 : decode cX5_takeRow 27 = .ok (.invokestatic 33, 3) := by decide +kernel
theorem dX5_takeRow_30 : decode cX5_takeRow 30 = .ok (.ifCond .ne 18, 3) := by decide +kernel
theorem dX5_takeRow_33 : decode cX5_takeRow 33 = .ok (.aload_n 0, 1) := by decide +kernel
theorem dX5_takeRow_34 : decode cX5_takeRow 34 = .ok (.getfield 9, 3) := by decide +kernel
theorem dX5_takeRow_37 : decode cX5_takeRow 37 = .ok (.aload_n 0, 1) := by decide +kernel
theorem dX5_takeRow_38 : decode cX5_takeRow 38 = .ok (.getfield 17, 3) := by decide +kernel
theorem dX5_takeRow_41 : decode cX5_takeRow 41 = .ok (.iaload, 1) := by decide +kernel
theorem dX5_takeRow_42 : decode cX5_takeRow 42 = .ok (.invokestatic 36, 3) := by decide +kernel
theorem dX5_takeRow_45 : decode cX5_takeRow 45 = .ok (.ifCond .eq 72, 3) := by decide +kernel
theorem dX5_takeRow_48 : decode cX5_takeRow 48 = .ok (.aload_n 0, 1) := by decide +kernel
theorem dX5_takeRow_49 : decode cX5_takeRow 49 = .ok (.getfield 9, 3) := by decide +kernel
theorem dX5_takeRow_52 : decode cX5_takeRow 52 = .ok (.aload_n 0, 1) := by decide +kernel
theorem dX5_takeRow_53 : decode cX5_takeRow 53 = .ok (.getfield 17, 3) := by decide +kernel
theorem dX5_takeRow_56 : decode cX5_takeRow 56 = .ok (.iaload, 1) := by decide +kernel
theorem dX5_takeRow_57 : decode cX5_takeRow 57 = .ok (.istore 6, 2) := by decide +kernel
theorem dX5_takeRow_59 : decode cX5_takeRow 59 = .ok (.iload 6, 2) := by decide +kernel
theorem dX5_takeRow_61 : decode cX5_takeRow 61 = .ok (.invokestatic 33, 3) := by decide +kernel
theorem dX5_takeRow_64 : decode cX5_takeRow 64 = .ok (.ifCond .eq 18, 3) := by decide +kernel
theorem dX5_takeRow_67 : decode cX5_takeRow 67 = .ok (.iinc 1 1, 3) := by decide +kernel
theorem dX5_takeRow_70 : decode cX5_takeRow 70 = .ok (.lload_n 2, 1) := by decide +kernel
theorem dX5_takeRow_71 : decode cX5_takeRow 71 = .ok (.bipush 8, 2) := by decide +kernel
theorem dX5_takeRow_73 : decode cX5_takeRow 73 = .ok (.lshl, 1) := by decide +kernel
theorem dX5_takeRow_74 : decode cX5_takeRow 74 = .ok (.iload 6, 2) := by decide +kernel
theorem dX5_takeRow_76 : decode cX5_takeRow 76 = .ok (.i2l, 1) := by decide +kernel
theorem dX5_takeRow_77 : decode cX5_takeRow 77 = .ok (.lor, 1) := by decide +kernel
theorem dX5_takeRow_78 : decode cX5_takeRow 78 = .ok (.lstore_n 2, 1) := by decide +kernel
theorem dX5_takeRow_79 : decode cX5_takeRow 79 = .ok (.goto 25, 3) := by decide +kernel
theorem dX5_takeRow_82 : decode cX5_takeRow 82 = .ok (.lload 4, 2) := by decide +kernel
theorem dX5_takeRow_84 : decode cX5_takeRow 84 = .ok (.ldc2_w 50, 3) := by decide +kernel
theorem dX5_takeRow_87 : decode cX5_takeRow 87 = .ok (.lmul, 1) := by decide +kernel
theorem dX5_takeRow_88 : decode cX5_takeRow 88 = .ok (.iload 6, 2) := by decide +kernel
theorem dX5_takeRow_90 : decode cX5_takeRow 90 = .ok (.i2l, 1) := by decide +kernel
theorem dX5_takeRow_91 : decode cX5_takeRow 91 = .ok (.ladd, 1) := by decide +kernel
theorem dX5_takeRow_92 : decode cX5_takeRow 92 = .ok (.ldc2_w 52, 3) := by decide +kernel
theorem dX5_takeRow_95 : decode cX5_takeRow 95 = .ok (.lsub, 1) := by decide +kernel
theorem dX5_takeRow_96 : decode cX5_takeRow 96 = .ok (.ldc2_w 54, 3) := by decide +kernel
theorem dX5_takeRow_99 : decode cX5_takeRow 99 = .ok (.invokestatic 56, 3) := by decide +kernel
theorem dX5_takeRow_102 : decode cX5_takeRow 102 = .ok (.lstore 4, 2) := by decide +kernel
theorem dX5_takeRow_104 : decode cX5_takeRow 104 = .ok (.aload_n 0, 1) := by decide +kernel
theorem dX5_takeRow_105 : decode cX5_takeRow 105 = .ok (.dup, 1) := by decide +kernel
theorem dX5_takeRow_106 : decode cX5_takeRow 106 = .ok (.getfield 17, 3) := by decide +kernel
theorem dX5_takeRow_109 : decode cX5_takeRow 109 = .ok (.iconst 1, 1) := by decide +kernel
theorem dX5_takeRow_110 : decode cX5_takeRow 110 = .ok (.iadd, 1) := by decide +kernel
theorem dX5_takeRow_111 : decode cX5_takeRow 111 = .ok (.putfield 17, 3) := by decide +kernel
theorem dX5_takeRow_114 : decode cX5_takeRow 114 = .ok (.goto (-107), 3) := by decide +kernel
theorem dX5_takeRow_117 : decode cX5_takeRow 117 = .ok (.iload_n 1, 1) := by decide +kernel
theorem dX5_takeRow_118 : decode cX5_takeRow 118 = .ok (.aload_n 0, 1) := by decide +kernel
theorem dX5_takeRow_119 : decode cX5_takeRow 119 = .ok (.getfield 17, 3) := by decide +kernel
theorem dX5_takeRow_122 : decode cX5_takeRow 122 = .ok (.aload_n 0, 1) := by decide +kernel
theorem dX5_takeRow_123 : decode cX5_takeRow 123 = .ok (.getfield 27, 3) := by decide +kernel
theorem dX5_takeRow_126 : decode cX5_takeRow 126 = .ok (.isub, 1) := by decide +kernel
theorem dX5_takeRow_127 : decode cX5_takeRow 127 = .ok (.if_icmp .ne 25, 3) := by decide +kernel
theorem dX5_takeRow_130 : decode cX5_takeRow 130 = .ok (.iload_n 1, 1) := by decide +kernel
theorem dX5_takeRow_131 : decode cX5_takeRow 131 = .ok (.bipush 8, 2) := by decide +kernel
theorem dX5_takeRow_133 : decode cX5_takeRow 133 = .ok (.if_icmp .gt 19, 3) := by decide +kernel
theorem dX5_takeRow_136 : decode cX5_takeRow 136 = .ok (.aload_n 0, 1) := by decide +kernel
theorem dX5_takeRow_137 : decode cX5_takeRow 137 = .ok (.lload_n 2, 1) := by decide +kernel
theorem dX5_takeRow_138 : decode cX5_takeRow 138 = .ok (.putfield 62, 3) := by decide +kernel
theorem dX5_takeRow_141 : decode cX5_takeRow 141 = .ok (.aload_n 0, 1) := by decide +kernel
theorem dX5_takeRow_142 : decode cX5_takeRow 142 = .ok (.lload_n 2, 1) := by decide +kernel
theorem dX5_takeRow_143 : decode cX5_takeRow 143 = .ok (.invokestatic 66, 3) := by decide +kernel
theorem dX5_takeRow_146 : decode cX5_takeRow 146 = .ok (.putfield 30, 3) := by decide +kernel
theorem dX5_takeRow_149 : decode cX5_takeRow 149 = .ok (.goto 36, 3) := by decide +kernel
theorem dX5_takeRow_152 : decode cX5_takeRow 152 = .ok (.iload_n 1, 1) := by decide +kernel
theorem dX5_takeRow_153 : decode cX5_takeRow 153 = .ok (.ifCond .ne 27, 3) := by decide +kernel
theorem dX5_takeRow_156 : decode cX5_takeRow 156 = .ok (.lload 4, 2) := by decide +kernel
theorem dX5_takeRow_158 : decode cX5_takeRow 158 = .ok (.ldc2_w 70, 3) := by decide +kernel
theorem dX5_takeRow_161 : decode cX5_takeRow 161 = .ok (.lcmp, 1) := by decide +kernel
theorem dX5_takeRow_162 : decode cX5_takeRow 162 = .ok (.ifCond .gt 18, 3) := by decide +kernel
theorem dX5_takeRow_165 : decode cX5_takeRow 165 = .ok (.aload_n 0, 1) := by decide +kernel
theorem dX5_takeRow_166 : decode cX5_takeRow 166 = .ok (.lload 4, 2) := by decide +kernel
theorem dX5_takeRow_168 : decode cX5_takeRow 168 = .ok (.l2i, 1) := by decide +kernel
theorem dX5_takeRow_169 : decode cX5_takeRow 169 = .ok (.putfield 72, 3) := by decide +kernel
theorem dX5_takeRow_172 : decode cX5_takeRow 172 = .ok (.aload_n 0, 1) := by decide +kernel
theorem dX5_takeRow_173 : decode cX5_takeRow 173 = .ok (.iconst 3, 1) := by decide +kernel
theorem dX5_takeRow_174 : decode cX5_takeRow 174 = .ok (.putfield 30, 3) := by decide +kernel
theorem dX5_takeRow_177 : decode cX5_takeRow 177 = .ok (.goto 8, 3) := by decide +kernel
theorem dX5_takeRow_180 : decode cX5_takeRow 180 = .ok (.aload_n 0, 1) := by decide +kernel
theorem dX5_takeRow_181 : decode cX5_takeRow 181 = .ok (.iconst 1, 1) := by decide +kernel
theorem dX5_takeRow_182 : decode cX5_takeRow 182 = .ok (.putfield 30, 3) := by decide +kernel
theorem dX5_takeRow_185 : decode cX5_takeRow 185 = .ok (.return_, 1) := by decide +kernel
theorem dX5_wordOrName_0 : decode cX5_wordOrName 0 = .ok (.lload_n 0, 1) := by decide +kernel
theorem dX5_wordOrName_1 : decode cX5_wordOrName 1 = .ok (.ldc2_w 75, 3) := by decide +kernel
theorem dX5_wordOrName_4 : decode cX5_wordOrName 4 = .ok (.lcmp, 1) := by decide +kernel
theorem dX5_wordOrName_5 : decode cX5_wordOrName 5 = .ok (.ifCond .ne 5, 3) := by decide +kernel
theorem dX5_wordOrName_8 : decode cX5_wordOrName 8 = .ok (.iconst 4, 1) := by decide +kernel
theorem dX5_wordOrName_9 : decode cX5_wordOrName 9 = .ok (.ireturn, 1) := by decide +kernel
theorem dX5_wordOrName_10 : decode cX5_wordOrName 10 = .ok (.lload_n 0, 1) := by decide +kernel
theorem dX5_wordOrName_11 : decode cX5_wordOrName 11 = .ok (.ldc2_w 77, 3) := by decide +kernel
theorem dX5_wordOrName_14 : decode cX5_wordOrName 14 = .ok (.lcmp, 1) := by decide +kernel
theorem dX5_wordOrName_15 : decode cX5_wordOrName 15 = .ok (.ifCond .ne 5, 3) := by decide +kernel
theorem dX5_wordOrName_18 : decode cX5_wordOrName 18 = .ok (.iconst 5, 1) := by decide +kernel
theorem dX5_wordOrName_19 : decode cX5_wordOrName 19 = .ok (.ireturn, 1) := by decide +kernel
theorem dX5_wordOrName_20 : decode cX5_wordOrName 20 = .ok (.lload_n 0, 1) := by decide +kernel
theorem dX5_wordOrName_21 : decode cX5_wordOrName 21 = .ok (.ldc2_w 79, 3) := by decide +kernel
theorem dX5_wordOrName_24 : decode cX5_wordOrName 24 = .ok (.lcmp, 1) := by decide +kernel
theorem dX5_wordOrName_25 : decode cX5_wordOrName 25 = .ok (.ifCond .ne 6, 3) := by decide +kernel
theorem dX5_wordOrName_28 : decode cX5_wordOrName 28 = .ok (.bipush 6, 2) := by decide +kernel
theorem dX5_wordOrName_30 : decode cX5_wordOrName 30 = .ok (.ireturn, 1) := by decide +kernel
theorem dX5_wordOrName_31 : decode cX5_wordOrName 31 = .ok (.lload_n 0, 1) := by decide +kernel
theorem dX5_wordOrName_32 : decode cX5_wordOrName 32 = .ok (.ldc2_w 81, 3) := by decide +kernel
theorem dX5_wordOrName_35 : decode cX5_wordOrName 35 = .ok (.lcmp, 1) := by decide +kernel
theorem dX5_wordOrName_36 : decode cX5_wordOrName 36 = .ok (.ifCond .ne 6, 3) := by decide +kernel
theorem dX5_wordOrName_39 : decode cX5_wordOrName 39 = .ok (.bipush 7, 2) := by decide +kernel
theorem dX5_wordOrName_41 : decode cX5_wordOrName 41 = .ok (.ireturn, 1) := by decide +kernel
theorem dX5_wordOrName_42 : decode cX5_wordOrName 42 = .ok (.lload_n 0, 1) := by decide +kernel
theorem dX5_wordOrName_43 : decode cX5_wordOrName 43 = .ok (.ldc2_w 83, 3) := by decide +kernel
theorem dX5_wordOrName_46 : decode cX5_wordOrName 46 = .ok (.lcmp, 1) := by decide +kernel
theorem dX5_wordOrName_47 : decode cX5_wordOrName 47 = .ok (.ifCond .ne 6, 3) := by decide +kernel
theorem dX5_wordOrName_50 : decode cX5_wordOrName 50 = .ok (.bipush 8, 2) := by decide +kernel
theorem dX5_wordOrName_52 : decode cX5_wordOrName 52 = .ok (.ireturn, 1) := by decide +kernel
theorem dX5_wordOrName_53 : decode cX5_wordOrName 53 = .ok (.lload_n 0, 1) := by decide +kernel
theorem dX5_wordOrName_54 : decode cX5_wordOrName 54 = .ok (.ldc2_w 85, 3) := by decide +kernel
theorem dX5_wordOrName_57 : decode cX5_wordOrName 57 = .ok (.lcmp, 1) := by decide +kernel
theorem dX5_wordOrName_58 : decode cX5_wordOrName 58 = .ok (.ifCond .ne 8, 3) := by decide +kernel
theorem dX5_wordOrName_61 : decode cX5_wordOrName 61 = .ok (.bipush 9, 2) := by decide +kernel
theorem dX5_wordOrName_63 : decode cX5_wordOrName 63 = .ok (.goto 4, 3) := by decide +kernel
theorem dX5_wordOrName_66 : decode cX5_wordOrName 66 = .ok (.iconst 2, 1) := by decide +kernel
theorem dX5_wordOrName_67 : decode cX5_wordOrName 67 = .ok (.ireturn, 1) := by decide +kernel
theorem dX5_isBlank_0 : decode cX5_isBlank 0 = .ok (.iload_n 0, 1) := by decide +kernel
theorem dX5_isBlank_1 : decode cX5_isBlank 1 = .ok (.bipush 9, 2) := by decide +kernel
theorem dX5_isBlank_3 : decode cX5_isBlank 3 = .ok (.if_icmp .eq 21, 3) := by decide +kernel
theorem dX5_isBlank_6 : decode cX5_isBlank 6 = .ok (.iload_n 0, 1) := by decide +kernel
theorem dX5_isBlank_7 : decode cX5_isBlank 7 = .ok (.bipush 10, 2) := by decide +kernel
theorem dX5_isBlank_9 : decode cX5_isBlank 9 = .ok (.if_icmp .eq 15, 3) := by decide +kernel
theorem dX5_isBlank_12 : decode cX5_isBlank 12 = .ok (.iload_n 0, 1) := by decide +kernel
theorem dX5_isBlank_13 : decode cX5_isBlank 13 = .ok (.bipush 13, 2) := by decide +kernel
theorem dX5_isBlank_15 : decode cX5_isBlank 15 = .ok (.if_icmp .eq 9, 3) := by decide +kernel
theorem dX5_isBlank_18 : decode cX5_isBlank 18 = .ok (.iload_n 0, 1) := by decide +kernel
theorem dX5_isBlank_19 : decode cX5_isBlank 19 = .ok (.bipush 32, 2) := by decide +kernel
theorem dX5_isBlank_21 : decode cX5_isBlank 21 = .ok (.if_icmp .ne 7, 3) := by decide +kernel
theorem dX5_isBlank_24 : decode cX5_isBlank 24 = .ok (.iconst 1, 1) := by decide +kernel
theorem dX5_isBlank_25 : decode cX5_isBlank 25 = .ok (.goto 4, 3) := by decide +kernel
theorem dX5_isBlank_28 : decode cX5_isBlank 28 = .ok (.iconst 0, 1) := by decide +kernel
theorem dX5_isBlank_29 : decode cX5_isBlank 29 = .ok (.ireturn, 1) := by decide +kernel
theorem dX5_isLetter_0 : decode cX5_isLetter 0 = .ok (.iload_n 0, 1) := by decide +kernel
theorem dX5_isLetter_1 : decode cX5_isLetter 1 = .ok (.bipush 97, 2) := by decide +kernel
theorem dX5_isLetter_3 : decode cX5_isLetter 3 = .ok (.if_icmp .lt 13, 3) := by decide +kernel
theorem dX5_isLetter_6 : decode cX5_isLetter 6 = .ok (.iload_n 0, 1) := by decide +kernel
theorem dX5_isLetter_7 : decode cX5_isLetter 7 = .ok (.bipush 122, 2) := by decide +kernel
theorem dX5_isLetter_9 : decode cX5_isLetter 9 = .ok (.if_icmp .gt 7, 3) := by decide +kernel
theorem dX5_isLetter_12 : decode cX5_isLetter 12 = .ok (.iconst 1, 1) := by decide +kernel
theorem dX5_isLetter_13 : decode cX5_isLetter 13 = .ok (.goto 4, 3) := by decide +kernel
theorem dX5_isLetter_16 : decode cX5_isLetter 16 = .ok (.iconst 0, 1) := by decide +kernel
theorem dX5_isLetter_17 : decode cX5_isLetter 17 = .ok (.ireturn, 1) := by decide +kernel
theorem dX5_isDigit_0 : decode cX5_isDigit 0 = .ok (.iload_n 0, 1) := by decide +kernel
theorem dX5_isDigit_1 : decode cX5_isDigit 1 = .ok (.bipush 48, 2) := by decide +kernel
theorem dX5_isDigit_3 : decode cX5_isDigit 3 = .ok (.if_icmp .lt 13, 3) := by decide +kernel
theorem dX5_isDigit_6 : decode cX5_isDigit 6 = .ok (.iload_n 0, 1) := by decide +kernel
theorem dX5_isDigit_7 : decode cX5_isDigit 7 = .ok (.bipush 57, 2) := by decide +kernel
theorem dX5_isDigit_9 : decode cX5_isDigit 9 = .ok (.if_icmp .gt 7, 3) := by decide +kernel
theorem dX5_isDigit_12 : decode cX5_isDigit 12 = .ok (.iconst 1, 1) := by decide +kernel
theorem dX5_isDigit_13 : decode cX5_isDigit 13 = .ok (.goto 4, 3) := by decide +kernel
theorem dX5_isDigit_16 : decode cX5_isDigit 16 = .ok (.iconst 0, 1) := by decide +kernel
theorem dX5_isDigit_17 : decode cX5_isDigit 17 = .ok (.ireturn, 1) := by decide +kernel
theorem dX6_init_0 : decode cX6_init 0 = .ok (.aload_n 0, 1) := by decide +kernel
theorem dX6_init_1 : decode cX6_init 1 = .ok (.invokespecial 1, 3) := by decide +kernel
theorem dX6_init_4 : decode cX6_init 4 = .ok (.aload_n 0, 1) := by decide +kernel
theorem dX6_init_5 : decode cX6_init 5 = .ok (.new 7, 3) := by decide +kernel
theorem dX6_init_8 : decode cX6_init 8 = .ok (.dup, 1) := by decide +kernel
theorem dX6_init_9 : decode cX6_init 9 = .ok (.invokespecial 9, 3) := by decide +kernel
theorem dX6_init_12 : decode cX6_init 12 = .ok (.putfield 10, 3) := by decide +kernel
theorem dX6_init_15 : decode cX6_init 15 = .ok (.aload_n 0, 1) := by decide +kernel
theorem dX6_init_16 : decode cX6_init 16 = .ok (.new 16, 3) := by decide +kernel
theorem dX6_init_19 : decode cX6_init 19 = .ok (.dup, 1) := by decide +kernel
theorem dX6_init_20 : decode cX6_init 20 = .ok (.invokespecial 18, 3) := by decide +kernel
theorem dX6_init_23 : decode cX6_init 23 = .ok (.putfield 19, 3) := by decide +kernel
theorem dX6_init_26 : decode cX6_init 26 = .ok (.aload_n 0, 1) := by decide +kernel
theorem dX6_init_27 : decode cX6_init 27 = .ok (.iconst 4, 1) := by decide +kernel
theorem dX6_init_28 : decode cX6_init 28 = .ok (.newarray .int, 2) := by decide +kernel
theorem dX6_init_30 : decode cX6_init 30 = .ok (.putfield 23, 3) := by decide +kernel
theorem dX6_init_33 : decode cX6_init 33 = .ok (.return_, 1) := by decide +kernel
theorem dX6_feed_0 : decode cX6_feed 0 = .ok (.iload 5, 2) := by decide +kernel
theorem dX6_feed_2 : decode cX6_feed 2 = .ok (.iconst 1, 1) := by decide +kernel
theorem dX6_feed_3 : decode cX6_feed 3 = .ok (.if_icmp .lt 10, 3) := by decide +kernel
theorem dX6_feed_6 : decode cX6_feed 6 = .ok (.iload 5, 2) := by decide +kernel
theorem dX6_feed_8 : decode cX6_feed 8 = .ok (.bipush 16, 2) := by decide +kernel
theorem dX6_feed_10 : decode cX6_feed 10 = .ok (.if_icmp .le 11, 3) := by decide +kernel
theorem dX6_feed_13 : decode cX6_feed 13 = .ok (.new 27, 3) := by decide +kernel
theorem dX6_feed_16 : decode cX6_feed 16 = .ok (.dup, 1) := by decide +kernel
theorem dX6_feed_17 : decode cX6_feed 17 = .ok (.invokespecial 29, 3) := by decide +kernel
theorem dX6_feed_20 : decode cX6_feed 20 = .ok (.athrow, 1) := by decide +kernel
theorem dX6_feed_21 : decode cX6_feed 21 = .ok (.iload 5, 2) := by decide +kernel
theorem dX6_feed_23 : decode cX6_feed 23 = .ok (.aload_n 0, 1) := by decide +kernel
theorem dX6_feed_24 : decode cX6_feed 24 = .ok (.getfield 10, 3) := by decide +kernel
theorem dX6_feed_27 : decode cX6_feed 27 = .ok (.getfield 30, 3) := by decide +kernel
theorem dX6_feed_30 : decode cX6_feed 30 = .ok (.invokevirtual 34, 3) := by decide +kernel
theorem dX6_feed_33 : decode cX6_feed 33 = .ok (.if_icmp .le 11, 3) := by decide +kernel
theorem dX6_feed_36 : decode cX6_feed 36 = .ok (.new 40, 3) := by decide +kernel
theorem dX6_feed_39 : decode cX6_feed 39 = .ok (.dup, 1) := by decide +kernel
theorem dX6_feed_40 : decode cX6_feed 40 = .ok (.invokespecial 42, 3) := by decide +kernel
theorem dX6_feed_43 : decode cX6_feed 43 = .ok (.athrow, 1) := by decide +kernel
theorem dX6_feed_44 : decode cX6_feed 44 = .ok (.iconst 0, 1) := by decide +kernel
theorem dX6_feed_45 : decode cX6_feed 45 = .ok (.istore 6, 2) := by decide +kernel
theorem dX6_feed_47 : decode cX6_feed 47 = .ok (.iload 6, 2) := by decide +kernel
theorem dX6_feed_49 : decode cX6_feed 49 = .ok (.iload 5, 2) := by decide +kernel
theorem dX6_feed_51 : decode cX6_feed 51 = .ok (.if_icmp .ge 72, 3) := by decide +kernel
theorem dX6_feed_54 : decode cX6_feed 54 = .ok (.iload 6, 2) := by decide +kernel
theorem dX6_feed_56 : decode cX6_feed 56 = .ok (.iconst 4, 1) := by decide +kernel
theorem dX6_feed_57 : decode cX6_feed 57 = .ok (.if_icmp .ge 7, 3) := by decide +kernel
theorem dX6_feed_60 : decode cX6_feed 60 = .ok (.iload_n 1, 1) := by decide +kernel
theorem dX6_feed_61 : decode cX6_feed 61 = .ok (.goto 27, 3) := by decide +kernel
theorem dX6_feed_64 : decode cX6_feed 64 = .ok (.iload 6, 2) := by decide +kernel
theorem dX6_feed_66 : decode cX6_feed 66 = .ok (.bipush 8, 2) := by decide +kernel
theorem dX6_feed_68 : decode cX6_feed 68 = .ok (.if_icmp .ge 7, 3) := by decide +kernel
theorem dX6_feed_71 : decode cX6_feed 71 = .ok (.iload_n 2, 1) := by decide +kernel
theorem dX6_feed_72 : decode cX6_feed 72 = .ok (.goto 16, 3) := by decide +kernel
theorem dX6_feed_75 : decode cX6_feed 75 = .ok (.iload 6, 2) := by decide +kernel
theorem dX6_feed_77 : decode cX6_feed 77 = .ok (.bipush 12, 2) := by decide +kernel
theorem dX6_feed_79 : decode cX6_feed 79 = .ok (.if_icmp .ge 7, 3) := by decide +kernel
theorem dX6_feed_82 : decode cX6_feed 82 = .ok (.iload_n 3, 1) := by decide +kernel
theorem dX6_feed_83 : decode cX6_feed 83 = .ok (.goto 5, 3) := by decide +kernel
theorem dX6_feed_86 : decode cX6_feed 86 = .ok (.iload 4, 2) := by decide +kernel
theorem dX6_feed_88 : decode cX6_feed 88 = .ok (.istore 7, 2) := by decide +kernel
theorem dX6_feed_90 : decode cX6_feed 90 = .ok (.aload_n 0, 1) := by decide +kernel
theorem dX6_feed_91 : decode cX6_feed 91 = .ok (.getfield 10, 3) := by decide +kernel
theorem dX6_feed_94 : decode cX6_feed 94 = .ok (.getfield 30, 3) := by decide +kernel
theorem dX6_feed_97 : decode cX6_feed 97 = .ok (.iload 7, 2) := by decide +kernel
theorem dX6_feed_99 : decode cX6_feed 99 = .ok (.bipush 24, 2) := by decide +kernel
theorem dX6_feed_101 : decode cX6_feed 101 = .ok (.bipush 8, 2) := by decide +kernel
theorem dX6_feed_103 : decode cX6_feed 103 = .ok (.iload 6, 2) := by decide +kernel
theorem dX6_feed_105 : decode cX6_feed 105 = .ok (.iconst 4, 1) := by decide +kernel
theorem dX6_feed_106 : decode cX6_feed 106 = .ok (.irem, 1) := by decide +kernel
theorem dX6_feed_107 : decode cX6_feed 107 = .ok (.imul, 1) := by decide +kernel
theorem dX6_feed_108 : decode cX6_feed 108 = .ok (.isub, 1) := by decide +kernel
theorem dX6_feed_109 : decode cX6_feed 109 = .ok (.iushr, 1) := by decide +kernel
theorem dX6_feed_110 : decode cX6_feed 110 = .ok (.sipush 255, 3) := by decide +kernel
theorem dX6_feed_113 : decode cX6_feed 113 = .ok (.iand, 1) := by decide +kernel
theorem dX6_feed_114 : decode cX6_feed 114 = .ok (.invokevirtual 43, 3) := by decide +kernel
theorem dX6_feed_117 : decode cX6_feed 117 = .ok (.iinc 6 1, 3) := by decide +kernel
theorem dX6_feed_120 : decode cX6_feed 120 = .ok (.goto (-73), 3) := by decide +kernel
theorem dX6_feed_123 : decode cX6_feed 123 = .ok (.aload_n 0, 1) := by decide +kernel
theorem dX6_feed_124 : decode cX6_feed 124 = .ok (.getfield 10, 3) := by decide +kernel
theorem dX6_feed_127 : decode cX6_feed 127 = .ok (.getfield 30, 3) := by decide +kernel
theorem dX6_feed_130 : decode cX6_feed 130 = .ok (.getfield 47, 3) := by decide +kernel
theorem dX6_feed_133 : decode cX6_feed 133 = .ok (.ireturn, 1) := by decide +kernel
theorem dX6_read_0 : decode cX6_read 0 = .ok (.aload_n 0, 1) := by decide +kernel
theorem dX6_read_1 : decode cX6_read 1 = .ok (.getfield 10, 3) := by decide +kernel
theorem dX6_read_4 : decode cX6_read 4 = .ok (.invokevirtual 51, 3) := by decide +kernel
theorem dX6_read_7 : decode cX6_read 7 = .ok (.istore_n 1, 1) := by decide +kernel
theorem dX6_read_8 : decode cX6_read 8 = .ok (.aload_n 0, 1) := by decide +kernel
theorem dX6_read_9 : decode cX6_read 9 = .ok (.getfield 10, 3) := by decide +kernel
theorem dX6_read_12 : decode cX6_read 12 = .ok (.getfield 30, 3) := by decide +kernel
theorem dX6_read_15 : decode cX6_read 15 = .ok (.invokevirtual 54, 3) := by decide +kernel
theorem dX6_read_18 : decode cX6_read 18 = .ok (.iload_n 1, 1) := by decide +kernel
theorem dX6_read_19 : decode cX6_read 19 = .ok (.iconst (-1), 1) := by decide +kernel
theorem dX6_read_20 : decode cX6_read 20 = .ok (.if_icmp .eq 7, 3) := by decide +kernel
theorem dX6_read_23 : decode cX6_read 23 = .ok (.iconst (-1), 1) := by decide +kernel
theorem dX6_read_24 : decode cX6_read 24 = .ok (.iload_n 1, 1) := by decide +kernel
theorem dX6_read_25 : decode cX6_read 25 = .ok (.isub, 1) := by decide +kernel
theorem dX6_read_26 : decode cX6_read 26 = .ok (.ireturn, 1) := by decide +kernel
theorem dX6_read_27 : decode cX6_read 27 = .ok (.aload_n 0, 1) := by decide +kernel
theorem dX6_read_28 : decode cX6_read 28 = .ok (.getfield 19, 3) := by decide +kernel
theorem dX6_read_31 : decode cX6_read 31 = .ok (.aload_n 0, 1) := by decide +kernel
theorem dX6_read_32 : decode cX6_read 32 = .ok (.getfield 10, 3) := by decide +kernel
theorem dX6_read_35 : decode cX6_read 35 = .ok (.aload_n 0, 1) := by decide +kernel
theorem dX6_read_36 : decode cX6_read 36 = .ok (.getfield 19, 3) := by decide +kernel
theorem dX6_read_39 : decode cX6_read 39 = .ok (.getfield 57, 3) := by decide +kernel
theorem dX6_read_42 : decode cX6_read 42 = .ok (.invokevirtual 61, 3) := by decide +kernel
theorem dX6_read_45 : decode cX6_read 45 = .ok (.putfield 57, 3) := by decide +kernel
theorem dX6_read_48 : decode cX6_read 48 = .ok (.aload_n 0, 1) := by decide +kernel
theorem dX6_read_49 : decode cX6_read 49 = .ok (.getfield 19, 3) := by decide +kernel
theorem dX6_read_52 : decode cX6_read 52 = .ok (.getfield 57, 3) := by decide +kernel
theorem dX6_read_55 : decode cX6_read 55 = .ok (.getfield 65, 3) := by decide +kernel
theorem dX6_read_58 : decode cX6_read 58 = .ok (.ireturn, 1) := by decide +kernel
theorem dX6_run_0 : decode cX6_run 0 = .ok (.aload_n 0, 1) := by decide +kernel
theorem dX6_run_1 : decode cX6_run 1 = .ok (.getfield 19, 3) := by decide +kernel
theorem dX6_run_4 : decode cX6_run 4 = .ok (.getfield 57, 3) := by decide +kernel
theorem dX6_run_7 : decode cX6_run 7 = .ok (.getfield 65, 3) := by decide +kernel
theorem dX6_run_10 : decode cX6_run 10 = .ok (.ifCond .ne 11, 3) := by decide +kernel
theorem dX6_run_13 : decode cX6_run 13 = .ok (.new 70, 3) := by decide +kernel
theorem dX6_run_16 : decode cX6_run 16 = .ok (.dup, 1) := by decide +kernel
theorem dX6_run_17 : decode cX6_run 17 = .ok (.invokespecial 72, 3) := by decide +kernel
theorem dX6_run_20 : decode cX6_run 20 = .ok (.athrow, 1) := by decide +kernel
theorem dX6_run_21 : decode cX6_run 21 = .ok (.iload_n 3, 1) := by decide +kernel
theorem dX6_run_22 : decode cX6_run 22 = .ok (.iconst 1, 1) := by decide +kernel
theorem dX6_run_23 : decode cX6_run 23 = .ok (.if_icmp .lt 10, 3) := by decide +kernel
theorem dX6_run_26 : decode cX6_run 26 = .ok (.iload_n 3, 1) := by decide +kernel
theorem dX6_run_27 : decode cX6_run 27 = .ok (.sipush 300, 3) := by decide +kernel
theorem dX6_run_30 : decode cX6_run 30 = .ok (.if_icmp .le 11, 3) := by decide +kernel
theorem dX6_run_33 : decode cX6_run 33 = .ok (.new 27, 3) := by decide +kernel
theorem dX6_run_36 : decode cX6_run 36 = .ok (.dup, 1) := by decide +kernel
theorem dX6_run_37 : decode cX6_run 37 = .ok (.invokespecial 29, 3) := by decide +kernel
theorem dX6_run_40 : decode cX6_run 40 = .ok (.athrow, 1) := by decide +kernel
theorem dX6_run_41 : decode cX6_run 41 = .ok (.aload_n 0, 1) := by decide +kernel
theorem dX6_run_42 : decode cX6_run 42 = .ok (.getfield 19, 3) := by decide +kernel
theorem dX6_run_45 : decode cX6_run 45 = .ok (.iload_n 1, 1) := by decide +kernel
theorem dX6_run_46 : decode cX6_run 46 = .ok (.iload_n 2, 1) := by decide +kernel
theorem dX6_run_47 : decode cX6_run 47 = .ok (.iload_n 3, 1) := by decide +kernel
theorem dX6_run_48 : decode cX6_run 48 = .ok (.iload 4, 2) := by decide +kernel
theorem dX6_run_50 : decode cX6_run 50 = .ok (.invokevirtual 73, 3) := by decide +kernel
theorem dX6_run_53 : decode cX6_run 53 = .ok (.aload_n 0, 1) := by decide +kernel
theorem dX6_run_54 : decode cX6_run 54 = .ok (.getfield 19, 3) := by decide +kernel
theorem dX6_run_57 : decode cX6_run 57 = .ok (.invokevirtual 77, 3) := by decide +kernel
theorem dX6_run_60 : decode cX6_run 60 = .ok (.istore 5, 2) := by decide +kernel
theorem dX6_run_62 : decode cX6_run 62 = .ok (.aload_n 0, 1) := by decide +kernel
theorem dX6_run_63 : decode cX6_run 63 = .ok (.invokevirtual 80, 3) := by decide +kernel
theorem dX6_run_66 : decode cX6_run 66 = .ok (.iload 5, 2) := by decide +kernel
theorem dX6_run_68 : decode cX6_run 68 = .ok (.iconst 2, 1) := by decide +kernel
theorem dX6_run_69 : decode cX6_run 69 = .ok (.if_icmp .eq 75, 3) := by decide +kernel
theorem dX6_run_72 : decode cX6_run 72 = .ok (.aload_n 0, 1) := by decide +kernel
theorem dX6_run_73 : decode cX6_run 73 = .ok (.iload 5, 2) := by decide +kernel
theorem dX6_run_75 : decode cX6_run 75 = .ok (.ifCond .ne 13, 3) := by decide +kernel
theorem dX6_run_78 : decode cX6_run 78 = .ok (.aload_n 0, 1) := by decide +kernel
theorem dX6_run_79 : decode cX6_run 79 = .ok (.getfield 19, 3) := by decide +kernel
theorem dX6_run_82 : decode cX6_run 82 = .ok (.invokevirtual 83, 3) := by decide +kernel
theorem dX6_run_85 : decode cX6_run 85 = .ok (.goto 4, 3) := by decide +kernel
theorem dX6_run_88 : decode cX6_run 88 = .ok (.iconst 0, 1) := by decide +kernel
theorem dX6_run_89 : decode cX6_run 89 = .ok (.putfield 86, 3) := by decide +kernel
theorem dX6_run_92 : decode cX6_run 92 = .ok (.aload_n 0, 1) := by decide +kernel
theorem dX6_run_93 : decode cX6_run 93 = .ok (.getfield 23, 3) := by decide +kernel
theorem dX6_run_96 : decode cX6_run 96 = .ok (.iconst 0, 1) := by decide +kernel
theorem dX6_run_97 : decode cX6_run 97 = .ok (.aload_n 0, 1) := by decide +kernel
theorem dX6_run_98 : decode cX6_run 98 = .ok (.getfield 19, 3) := by decide +kernel
theorem dX6_run_101 : decode cX6_run 101 = .ok (.getfield 89, 3) := by decide +kernel
theorem dX6_run_104 : decode cX6_run 104 = .ok (.iastore, 1) := by decide +kernel
theorem dX6_run_105 : decode cX6_run 105 = .ok (.aload_n 0, 1) := by decide +kernel
theorem dX6_run_106 : decode cX6_run 106 = .ok (.getfield 23, 3) := by decide +kernel
theorem dX6_run_109 : decode cX6_run 109 = .ok (.iconst 1, 1) := by decide +kernel
theorem dX6_run_110 : decode cX6_run 110 = .ok (.aload_n 0, 1) := by decide +kernel
theorem dX6_run_111 : decode cX6_run 111 = .ok (.getfield 19, 3) := by decide +kernel
theorem dX6_run_114 : decode cX6_run 114 = .ok (.invokevirtual 92, 3) := by decide +kernel
theorem dX6_run_117 : decode cX6_run 117 = .ok (.iastore, 1) := by decide +kernel
theorem dX6_run_118 : decode cX6_run 118 = .ok (.aload_n 0, 1) := by decide +kernel
theorem dX6_run_119 : decode cX6_run 119 = .ok (.getfield 23, 3) := by decide +kernel
theorem dX6_run_122 : decode cX6_run 122 = .ok (.iconst 2, 1) := by decide +kernel
theorem dX6_run_123 : decode cX6_run 123 = .ok (.aload_n 0, 1) := by decide +kernel
theorem dX6_run_124 : decode cX6_run 124 = .ok (.getfield 19, 3) := by decide +kernel
theorem dX6_run_127 : decode cX6_run 127 = .ok (.invokevirtual 95, 3) := by decide +kernel
theorem dX6_run_130 : decode cX6_run 130 = .ok (.iastore, 1) := by decide +kernel
theorem dX6_run_131 : decode cX6_run 131 = .ok (.aload_n 0, 1) := by decide +kernel
theorem dX6_run_132 : decode cX6_run 132 = .ok (.getfield 23, 3) := by decide +kernel
theorem dX6_run_135 : decode cX6_run 135 = .ok (.iconst 3, 1) := by decide +kernel
theorem dX6_run_136 : decode cX6_run 136 = .ok (.aload_n 0, 1) := by decide +kernel
theorem dX6_run_137 : decode cX6_run 137 = .ok (.getfield 19, 3) := by decide +kernel
theorem dX6_run_140 : decode cX6_run 140 = .ok (.getfield 98, 3) := by decide +kernel
theorem dX6_run_143 : decode cX6_run 143 = .ok (.iastore, 1) := by decide +kernel
theorem dX6_run_144 : decode cX6_run 144 = .ok (.iload 5, 2) := by decide +kernel
theorem dX6_run_146 : decode cX6_run 146 = .ok (.ireturn, 1) := by decide +kernel
theorem dX6_value_0 : decode cX6_value 0 = .ok (.aload_n 0, 1) := by decide +kernel
theorem dX6_value_1 : decode cX6_value 1 = .ok (.getfield 86, 3) := by decide +kernel
theorem dX6_value_4 : decode cX6_value 4 = .ok (.ireturn, 1) := by decide +kernel
theorem dX6_count_0 : decode cX6_count 0 = .ok (.iload_n 1, 1) := by decide +kernel
theorem dX6_count_1 : decode cX6_count 1 = .ok (.ifCond .lt 8, 3) := by decide +kernel
theorem dX6_count_4 : decode cX6_count 4 = .ok (.iload_n 1, 1) := by decide +kernel
theorem dX6_count_5 : decode cX6_count 5 = .ok (.iconst 5, 1) := by decide +kernel
theorem dX6_count_6 : decode cX6_count 6 = .ok (.if_icmp .le 11, 3) := by decide +kernel
theorem dX6_count_9 : decode cX6_count 9 = .ok (.new 101, 3) := by decide +kernel
theorem dX6_count_12 : decode cX6_count 12 = .ok (.dup, 1) := by decide +kernel
theorem dX6_count_13 : decode cX6_count 13 = .ok (.invokespecial 103, 3) := by decide +kernel
theorem dX6_count_16 : decode cX6_count 16 = .ok (.athrow, 1) := by decide +kernel
theorem dX6_count_17 : decode cX6_count 17 = .ok (.iload_n 1, 1) := by decide +kernel
theorem dX6_count_18 : decode cX6_count 18 = .ok (.iconst 5, 1) := by decide +kernel
theorem dX6_count_19 : decode cX6_count 19 = .ok (.if_icmp .ne 14, 3) := by decide +kernel
theorem dX6_count_22 : decode cX6_count 22 = .ok (.aload_n 0, 1) := by decide +kernel
theorem dX6_count_23 : decode cX6_count 23 = .ok (.getfield 10, 3) := by decide +kernel
theorem dX6_count_26 : decode cX6_count 26 = .ok (.getfield 30, 3) := by decide +kernel
theorem dX6_count_29 : decode cX6_count 29 = .ok (.getfield 47, 3) := by decide +kernel
theorem dX6_count_32 : decode cX6_count 32 = .ok (.ireturn, 1) := by decide +kernel
theorem dX6_count_33 : decode cX6_count 33 = .ok (.iload_n 1, 1) := by decide +kernel
theorem dX6_count_34 : decode cX6_count 34 = .ok (.iconst 4, 1) := by decide +kernel
theorem dX6_count_35 : decode cX6_count 35 = .ok (.if_icmp .ne 16, 3) := by decide +kernel
theorem dX6_count_38 : decode cX6_count 38 = .ok (.aload_n 0, 1) := by decide +kernel
theorem dX6_count_39 : decode cX6_count 39 = .ok (.getfield 19, 3) := by decide +kernel
theorem dX6_count_42 : decode cX6_count 42 = .ok (.getfield 57, 3) := by decide +kernel
theorem dX6_count_45 : decode cX6_count 45 = .ok (.getfield 65, 3) := by decide +kernel
theorem dX6_count_48 : decode cX6_count 48 = .ok (.goto 9, 3) := by decide +kernel
theorem dX6_count_51 : decode cX6_count 51 = .ok (.aload_n 0, 1) := by decide +kernel
theorem dX6_count_52 : decode cX6_count 52 = .ok (.getfield 23, 3) := by decide +kernel
theorem dX6_count_55 : decode cX6_count 55 = .ok (.iload_n 1, 1) := by decide +kernel
theorem dX6_count_56 : decode cX6_count 56 = .ok (.iaload, 1) := by decide +kernel
theorem dX6_count_57 : decode cX6_count 57 = .ok (.ireturn, 1) := by decide +kernel
theorem dX6_definition_0 : decode cX6_definition 0 = .ok (.iload_n 1, 1) := by decide +kernel
theorem dX6_definition_1 : decode cX6_definition 1 = .ok (.ifCond .lt 26, 3) := by decide +kernel
theorem dX6_definition_4 : decode cX6_definition 4 = .ok (.iload_n 1, 1) := by decide +kernel
theorem dX6_definition_5 : decode cX6_definition 5 = .ok (.aload_n 0, 1) := by decide +kernel
theorem dX6_definition_6 : decode cX6_definition 6 = .ok (.getfield 19, 3) := by decide +kernel
theorem dX6_definition_9 : decode cX6_definition 9 = .ok (.getfield 57, 3) := by decide +kernel
theorem dX6_definition_12 : decode cX6_definition 12 = .ok (.getfield 65, 3) := by decide +kernel
theorem dX6_definition_15 : decode cX6_definition 15 = .ok (.if_icmp .ge 12, 3) := by decide +kernel
theorem dX6_definition_18 : decode cX6_definition 18 = .ok (.iload_n 2, 1) := by decide +kernel
theorem dX6_definition_19 : decode cX6_definition 19 = .ok (.ifCond .lt 8, 3) := by decide +kernel
theorem dX6_definition_22 : decode cX6_definition 22 = .ok (.iload_n 2, 1) := by decide +kernel
theorem dX6_definition_23 : decode cX6_definition 23 = .ok (.iconst 1, 1) := by decide +kernel
theorem dX6_definition_24 : decode cX6_definition 24 = .ok (.if_icmp .le 11, 3) := by decide +kernel
theorem dX6_definition_27 : decode cX6_definition 27 = .ok (.new 101, 3) := by decide +kernel
theorem dX6_definition_30 : decode cX6_definition 30 = .ok (.dup, 1) := by decide +kernel
theorem dX6_definition_31 : decode cX6_definition 31 = .ok (.invokespecial 103, 3) := by decide +kernel
theorem dX6_definition_34 : decode cX6_definition 34 = .ok (.athrow, 1) := by decide +kernel
theorem dX6_definition_35 : decode cX6_definition 35 = .ok (.iload_n 2, 1) := by decide +kernel
theorem dX6_definition_36 : decode cX6_definition 36 = .ok (.ifCond .ne 18, 3) := by decide +kernel
theorem dX6_definition_39 : decode cX6_definition 39 = .ok (.aload_n 0, 1) := by decide +kernel
theorem dX6_definition_40 : decode cX6_definition 40 = .ok (.getfield 19, 3) := by decide +kernel
theorem dX6_definition_43 : decode cX6_definition 43 = .ok (.getfield 57, 3) := by decide +kernel
theorem dX6_definition_46 : decode cX6_definition 46 = .ok (.getfield 104, 3) := by decide +kernel
theorem dX6_definition_49 : decode cX6_definition 49 = .ok (.iload_n 1, 1) := by decide +kernel
theorem dX6_definition_50 : decode cX6_definition 50 = .ok (.iaload, 1) := by decide +kernel
theorem dX6_definition_51 : decode cX6_definition 51 = .ok (.goto 15, 3) := by decide +kernel
theorem dX6_definition_54 : decode cX6_definition 54 = .ok (.aload_n 0, 1) := by decide +kernel
theorem dX6_definition_55 : decode cX6_definition 55 = .ok (.getfield 19, 3) := by decide +kernel
theorem dX6_definition_58 : decode cX6_definition 58 = .ok (.getfield 57, 3) := by decide +kernel
theorem dX6_definition_61 : decode cX6_definition 61 = .ok (.getfield 107, 3) := by decide +kernel
theorem dX6_definition_64 : decode cX6_definition 64 = .ok (.iload_n 1, 1) := by decide +kernel
theorem dX6_definition_65 : decode cX6_definition 65 = .ok (.iaload, 1) := by decide +kernel
theorem dX6_definition_66 : decode cX6_definition 66 = .ok (.ireturn, 1) := by decide +kernel
theorem dX6_clear_0 : decode cX6_clear 0 = .ok (.aload_n 0, 1) := by decide +kernel
theorem dX6_clear_1 : decode cX6_clear 1 = .ok (.getfield 19, 3) := by decide +kernel
theorem dX6_clear_4 : decode cX6_clear 4 = .ok (.getfield 57, 3) := by decide +kernel
theorem dX6_clear_7 : decode cX6_clear 7 = .ok (.iconst 0, 1) := by decide +kernel
theorem dX6_clear_8 : decode cX6_clear 8 = .ok (.putfield 65, 3) := by decide +kernel
theorem dX6_clear_11 : decode cX6_clear 11 = .ok (.aload_n 0, 1) := by decide +kernel
theorem dX6_clear_12 : decode cX6_clear 12 = .ok (.getfield 10, 3) := by decide +kernel
theorem dX6_clear_15 : decode cX6_clear 15 = .ok (.getfield 30, 3) := by decide +kernel
theorem dX6_clear_18 : decode cX6_clear 18 = .ok (.invokevirtual 54, 3) := by decide +kernel
theorem dX6_clear_21 : decode cX6_clear 21 = .ok (.aload_n 0, 1) := by decide +kernel
theorem dX6_clear_22 : decode cX6_clear 22 = .ok (.invokevirtual 80, 3) := by decide +kernel
theorem dX6_clear_25 : decode cX6_clear 25 = .ok (.return_, 1) := by decide +kernel
theorem dX6_forgetRun_0 : decode cX6_forgetRun 0 = .ok (.aload_n 0, 1) := by decide +kernel
theorem dX6_forgetRun_1 : decode cX6_forgetRun 1 = .ok (.iconst 0, 1) := by decide +kernel
theorem dX6_forgetRun_2 : decode cX6_forgetRun 2 = .ok (.putfield 86, 3) := by decide +kernel
theorem dX6_forgetRun_5 : decode cX6_forgetRun 5 = .ok (.iconst 0, 1) := by decide +kernel
theorem dX6_forgetRun_6 : decode cX6_forgetRun 6 = .ok (.istore_n 1, 1) := by decide +kernel
theorem dX6_forgetRun_7 : decode cX6_forgetRun 7 = .ok (.iload_n 1, 1) := by decide +kernel
theorem dX6_forgetRun_8 : decode cX6_forgetRun 8 = .ok (.iconst 4, 1) := by decide +kernel
theorem dX6_forgetRun_9 : decode cX6_forgetRun 9 = .ok (.if_icmp .ge 16, 3) := by decide +kernel
theorem dX6_forgetRun_12 : decode cX6_forgetRun 12 = .ok (.aload_n 0, 1) := by decide +kernel
theorem dX6_forgetRun_13 : decode cX6_forgetRun 13 = .ok (.getfield 23, 3) := by decide +kernel
theorem dX6_forgetRun_16 : decode cX6_forgetRun 16 = .ok (.iload_n 1, 1) := by decide +kernel
theorem dX6_forgetRun_17 : decode cX6_forgetRun 17 = .ok (.iconst 0, 1) := by decide +kernel
theorem dX6_forgetRun_18 : decode cX6_forgetRun 18 = .ok (.iastore, 1) := by decide +kernel
theorem dX6_forgetRun_19 : decode cX6_forgetRun 19 = .ok (.iinc 1 1, 3) := by decide +kernel
theorem dX6_forgetRun_22 : decode cX6_forgetRun 22 = .ok (.goto (-15), 3) := by decide +kernel
theorem dX6_forgetRun_25 : decode cX6_forgetRun 25 = .ok (.return_, 1) := by decide +kernel
