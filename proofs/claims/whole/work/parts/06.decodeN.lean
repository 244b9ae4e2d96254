theorem dX7_rest_256 : decode cX7_rest 256 = .ok (.aload_n 0, 1) := by decide +kernel
theorem dX7_rest_257 : decode cX7_rest 257 = .ok (.getfield 47, 3) := by decide +kernel
theorem dX7_rest_260 : decode cX7_rest 260 = .ok (.iload_n 2, 1) := by decide +kernel
theorem dX7_rest_261 : decode cX7_rest 261 = .ok (.iconst 2, 1) := by decide +kernel
theorem dX7_rest_262 : decode cX7_rest 262 = .ok (.iastore, 1) := by decide +kernel
theorem dX7_rest_263 : decode cX7_rest 263 = .ok (.aload_n 0, 1) := by decide +kernel
theorem dX7_rest_264 : decode cX7_rest 264 = .ok (.invokevirtual 175, 3) := by decide +kernel
theorem dX7_rest_267 : decode cX7_rest 267 = .ok (.aload_n 0, 1) := by decide +kernel
theorem dX7_rest_268 : decode cX7_rest 268 = .ok (.iload_n 2, 1) := by decide +kernel
theorem dX7_rest_269 : decode cX7_rest 269 = .ok (.bipush 21, 2) := by decide +kernel
theorem dX7_rest_271 : decode cX7_rest 271 = .ok (.invokevirtual 241, 3) := by decide +kernel
theorem dX7_rest_274 : decode cX7_rest 274 = .ok (.goto 9, 3) := by decide +kernel
theorem dX7_rest_277 : decode cX7_rest 277 = .ok (.aload_n 0, 1) := by decide +kernel
theorem dX7_rest_278 : decode cX7_rest 278 = .ok (.iload_n 2, 1) := by decide +kernel
theorem dX7_rest_279 : decode cX7_rest 279 = .ok (.iload_n 1, 1) := by decide +kernel
theorem dX7_rest_280 : decode cX7_rest 280 = .ok (.invokevirtual 263, 3) := by decide +kernel
theorem dX7_rest_283 : decode cX7_rest 283 = .ok (.return_, 1) := by decide +kernel
theorem dX7_readExpression_0 : decode cX7_readExpression 0 = .ok (.aload_n 0, 1) := by decide +kernel
theorem dX7_readExpression_1 : decode cX7_readExpression 1 = .ok (.iconst 0, 1) := by decide +kernel
theorem dX7_readExpression_2 : decode cX7_readExpression 2 = .ok (.putfield 188, 3) := by decide +kernel
theorem dX7_readExpression_5 : decode cX7_readExpression 5 = .ok (.aload_n 0, 1) := by decide +kernel
theorem dX7_readExpression_6 : decode cX7_readExpression 6 = .ok (.iconst 0, 1) := by decide +kernel
theorem dX7_readExpression_7 : decode cX7_readExpression 7 = .ok (.putfield 208, 3) := by decide +kernel
theorem dX7_readExpression_10 : decode cX7_readExpression 10 = .ok (.aload_n 0, 1) := by decide +kernel
theorem dX7_readExpression_11 : decode cX7_readExpression 11 = .ok (.iconst 0, 1) := by decide +kernel
theorem dX7_readExpression_12 : decode cX7_readExpression 12 = .ok (.putfield 198, 3) := by decide +kernel
theorem dX7_readExpression_15 : decode cX7_readExpression 15 = .ok (.aload_n 0, 1) := by decide +kernel
theorem dX7_readExpression_16 : decode cX7_readExpression 16 = .ok (.iconst 0, 1) := by decide +kernel
theorem dX7_readExpression_17 : decode cX7_readExpression 17 = .ok (.putfield 219, 3) := by decide +kernel
theorem dX7_readExpression_20 : decode cX7_readExpression 20 = .ok (.aload_n 0, 1) := by decide +kernel
theorem dX7_readExpression_21 : decode cX7_readExpression 21 = .ok (.iconst 0, 1) := by decide +kernel
theorem dX7_readExpression_22 : decode cX7_readExpression 22 = .ok (.putfield 201, 3) := by decide +kernel
theorem dX7_readExpression_25 : decode cX7_readExpression 25 = .ok (.aload_n 0, 1) := by decide +kernel
theorem dX7_readExpression_26 : decode cX7_readExpression 26 = .ok (.iconst 1, 1) := by decide +kernel
theorem dX7_readExpression_27 : decode cX7_readExpression 27 = .ok (.iconst 0, 1) := by decide +kernel
theorem dX7_readExpression_28 : decode cX7_readExpression 28 = .ok (.invokevirtual 215, 3) := by decide +kernel
theorem dX7_readExpression_31 : decode cX7_readExpression 31 = .ok (.aload_n 0, 1) := by decide +kernel
theorem dX7_readExpression_32 : decode cX7_readExpression 32 = .ok (.getfield 198, 3) := by decide +kernel
theorem dX7_readExpression_35 : decode cX7_readExpression 35 = .ok (.ifCond .le 45, 3) := by decide +kernel
theorem dX7_readExpression_38 : decode cX7_readExpression 38 = .ok (.aload_n 0, 1) := by decide +kernel
theorem dX7_readExpression_39 : decode cX7_readExpression 39 = .ok (.getfield 165, 3) := by decide +kernel
theorem dX7_readExpression_42 : decode cX7_readExpression 42 = .ok (.ifCond .eq 38, 3) := by decide +kernel
theorem dX7_readExpression_45 : decode cX7_readExpression 45 = .ok (.aload_n 0, 1) := by decide +kernel
theorem dX7_readExpression_46 : decode cX7_readExpression 46 = .ok (.dup, 1) := by decide +kernel
theorem dX7_readExpression_47 : decode cX7_readExpression 47 = .ok (.getfield 198, 3) := by decide +kernel
theorem dX7_readExpression_50 : decode cX7_readExpression 50 = .ok (.iconst 1, 1) := by decide +kernel
theorem dX7_readExpression_51 : decode cX7_readExpression 51 = .ok (.isub, 1) := by decide +kernel
theorem dX7_readExpression_52 : decode cX7_readExpression 52 = .ok (.putfield 198, 3) := by decide +kernel
theorem dX7_readExpression_55 : decode cX7_readExpression 55 = .ok (.aload_n 0, 1) := by decide +kernel
theorem dX7_readExpression_56 : decode cX7_readExpression 56 = .ok (.aload_n 0, 1) := by decide +kernel
theorem dX7_readExpression_57 : decode cX7_readExpression 57 = .ok (.getfield 69, 3) := by decide +kernel
theorem dX7_readExpression_60 : decode cX7_readExpression 60 = .ok (.aload_n 0, 1) := by decide +kernel
theorem dX7_readExpression_61 : decode cX7_readExpression 61 = .ok (.getfield 198, 3) := by decide +kernel
theorem dX7_readExpression_64 : decode cX7_readExpression 64 = .ok (.iaload, 1) := by decide +kernel
theorem dX7_readExpression_65 : decode cX7_readExpression 65 = .ok (.aload_n 0, 1) := by decide +kernel
theorem dX7_readExpression_66 : decode cX7_readExpression 66 = .ok (.getfield 72, 3) := by decide +kernel
theorem dX7_readExpression_69 : decode cX7_readExpression 69 = .ok (.aload_n 0, 1) := by decide +kernel
theorem dX7_readExpression_70 : decode cX7_readExpression 70 = .ok (.getfield 198, 3) := by decide +kernel
theorem dX7_readExpression_73 : decode cX7_readExpression 73 = .ok (.iaload, 1) := by decide +kernel
theorem dX7_readExpression_74 : decode cX7_readExpression 74 = .ok (.invokevirtual 266, 3) := by decide +kernel
theorem dX7_readExpression_77 : decode cX7_readExpression 77 = .ok (.goto (-46), 3) := by decide +kernel
theorem dX7_readExpression_80 : decode cX7_readExpression 80 = .ok (.aload_n 0, 1) := by decide +kernel
theorem dX7_readExpression_81 : decode cX7_readExpression 81 = .ok (.getfield 165, 3) := by decide +kernel
theorem dX7_readExpression_84 : decode cX7_readExpression 84 = .ok (.ifCond .eq 45, 3) := by decide +kernel
theorem dX7_readExpression_87 : decode cX7_readExpression 87 = .ok (.aload_n 0, 1) := by decide +kernel
theorem dX7_readExpression_88 : decode cX7_readExpression 88 = .ok (.getfield 20, 3) := by decide +kernel
theorem dX7_readExpression_91 : decode cX7_readExpression 91 = .ok (.bipush 12, 2) := by decide +kernel
theorem dX7_readExpression_93 : decode cX7_readExpression 93 = .ok (.aload_n 0, 1) := by decide +kernel
theorem dX7_readExpression_94 : decode cX7_readExpression 94 = .ok (.getfield 182, 3) := by decide +kernel
theorem dX7_readExpression_97 : decode cX7_readExpression 97 = .ok (.imul, 1) := by decide +kernel
theorem dX7_readExpression_98 : decode cX7_readExpression 98 = .ok (.aload_n 0, 1) := by decide +kernel
theorem dX7_readExpression_99 : decode cX7_readExpression 99 = .ok (.getfield 185, 3) := by decide +kernel
theorem dX7_readExpression_102 : decode cX7_readExpression 102 = .ok (.iadd, 1) := by decide +kernel
theorem dX7_readExpression_103 : decode cX7_readExpression 103 = .ok (.aload_n 0, 1) := by decide +kernel
theorem dX7_readExpression_104 : decode cX7_readExpression 104 = .ok (.invokevirtual 235, 3) := by decide +kernel
theorem dX7_readExpression_107 : decode cX7_readExpression 107 = .ok (.iastore, 1) := by decide +kernel
theorem dX7_readExpression_108 : decode cX7_readExpression 108 = .ok (.aload_n 0, 1) := by decide +kernel
theorem dX7_readExpression_109 : decode cX7_readExpression 109 = .ok (.getfield 17, 3) := by decide +kernel
theorem dX7_readExpression_112 : decode cX7_readExpression 112 = .ok (.bipush 12, 2) := by decide +kernel
theorem dX7_readExpression_114 : decode cX7_readExpression 114 = .ok (.aload_n 0, 1) := by decide +kernel
theorem dX7_readExpression_115 : decode cX7_readExpression 115 = .ok (.getfield 182, 3) := by decide +kernel
theorem dX7_readExpression_118 : decode cX7_readExpression 118 = .ok (.imul, 1) := by decide +kernel
theorem dX7_readExpression_119 : decode cX7_readExpression 119 = .ok (.aload_n 0, 1) := by decide +kernel
theorem dX7_readExpression_120 : decode cX7_readExpression 120 = .ok (.getfield 185, 3) := by decide +kernel
theorem dX7_readExpression_123 : decode cX7_readExpression 123 = .ok (.iadd, 1) := by decide +kernel
theorem dX7_readExpression_124 : decode cX7_readExpression 124 = .ok (.aload_n 0, 1) := by decide +kernel
theorem dX7_readExpression_125 : decode cX7_readExpression 125 = .ok (.getfield 188, 3) := by decide +kernel
theorem dX7_readExpression_128 : decode cX7_readExpression 128 = .ok (.iastore, 1) := by decide +kernel
theorem dX7_readExpression_129 : decode cX7_readExpression 129 = .ok (.return_, 1) := by decide +kernel
theorem dX7_isTaken_0 : decode cX7_isTaken 0 = .ok (.iconst 0, 1) := by decide +kernel
theorem dX7_isTaken_1 : decode cX7_isTaken 1 = .ok (.istore_n 3, 1) := by decide +kernel
theorem dX7_isTaken_2 : decode cX7_isTaken 2 = .ok (.iconst 0, 1) := by decide +kernel
theorem dX7_isTaken_3 : decode cX7_isTaken 3 = .ok (.istore 4, 2) := by decide +kernel
theorem dX7_isTaken_5 : decode cX7_isTaken 5 = .ok (.iload 4, 2) := by decide +kernel
theorem dX7_isTaken_7 : decode cX7_isTaken 7 = .ok (.aload_n 0, 1) := by decide +kernel
theorem dX7_isTaken_8 : decode cX7_isTaken 8 = .ok (.getfield 185, 3) := by decide +kernel
theorem dX7_isTaken_11 : decode cX7_isTaken 11 = .ok (.if_icmp .ge 39, 3) := by decide +kernel
theorem dX7_isTaken_14 : decode cX7_isTaken 14 = .ok (.iload_n 3, 1) := by decide +kernel
theorem dX7_isTaken_15 : decode cX7_isTaken 15 = .ok (.ifCond .ne 23, 3) := by decide +kernel
theorem dX7_isTaken_18 : decode cX7_isTaken 18 = .ok (.aload_n 0, 1) := by decide +kernel
theorem dX7_isTaken_19 : decode cX7_isTaken 19 = .ok (.getfield 53, 3) := by decide +kernel
theorem dX7_isTaken_22 : decode cX7_isTaken 22 = .ok (.bipush 12, 2) := by decide +kernel
theorem dX7_isTaken_24 : decode cX7_isTaken 24 = .ok (.aload_n 0, 1) := by decide +kernel
theorem dX7_isTaken_25 : decode cX7_isTaken 25 = .ok (.getfield 182, 3) := by decide +kernel
theorem dX7_isTaken_28 : decode cX7_isTaken 28 = .ok (.imul, 1) := by decide +kernel
theorem dX7_isTaken_29 : decode cX7_isTaken 29 = .ok (.iload 4, 2) := by decide +kernel
theorem dX7_isTaken_31 : decode cX7_isTaken 31 = .ok (.iadd, 1) := by decide +kernel
theorem dX7_isTaken_32 : decode cX7_isTaken 32 = .ok (.laload, 1) := by decide +kernel
theorem dX7_isTaken_33 : decode cX7_isTaken 33 = .ok (.lload_n 1, 1) := by decide +kernel
theorem dX7_isTaken_34 : decode cX7_isTaken 34 = .ok (.lcmp, 1) := by decide +kernel
theorem dX7_isTaken_35 : decode cX7_isTaken 35 = .ok (.ifCond .ne 7, 3) := by decide +kernel
theorem dX7_isTaken_38 : decode cX7_isTaken 38 = .ok (.iconst 1, 1) := by decide +kernel
theorem dX7_isTaken_39 : decode cX7_isTaken 39 = .ok (.goto 4, 3) := by decide +kernel
theorem dX7_isTaken_42 : decode cX7_isTaken 42 = .ok (.iconst 0, 1) := by decide +kernel
theorem dX7_isTaken_43 : decode cX7_isTaken 43 = .ok (.istore_n 3, 1) := by decide +kernel
theorem dX7_isTaken_44 : decode cX7_isTaken 44 = .ok (.iinc 4 1, 3) := by decide +kernel
theorem dX7_isTaken_47 : decode cX7_isTaken 47 = .ok (.goto (-42), 3) := by decide +kernel
theorem dX7_isTaken_50 : decode cX7_isTaken 50 = .ok (.iload_n 3, 1) := by decide +kernel
theorem dX7_isTaken_51 : decode cX7_isTaken 51 = .ok (.ireturn, 1) := by decide +kernel
theorem dX7_readArguments_0 : decode cX7_readArguments 0 = .ok (.bipush 12, 2) := by decide +kernel
theorem dX7_readArguments_2 : decode cX7_readArguments 2 = .ok (.aload_n 0, 1) := by decide +kernel
theorem dX7_readArguments_3 : decode cX7_readArguments 3 = .ok (.getfield 182, 3) := by decide +kernel
theorem dX7_readArguments_6 : decode cX7_readArguments 6 = .ok (.imul, 1) := by decide +kernel
theorem dX7_readArguments_7 : decode cX7_readArguments 7 = .ok (.aload_n 0, 1) := by decide +kernel
theorem dX7_readArguments_8 : decode cX7_readArguments 8 = .ok (.getfield 185, 3) := by decide +kernel
theorem dX7_readArguments_11 : decode cX7_readArguments 11 = .ok (.iadd, 1) := by decide +kernel
theorem dX7_readArguments_12 : decode cX7_readArguments 12 = .ok (.istore_n 1, 1) := by decide +kernel
theorem dX7_readArguments_13 : decode cX7_readArguments 13 = .ok (.aload_n 0, 1) := by decide +kernel
theorem dX7_readArguments_14 : decode cX7_readArguments 14 = .ok (.getfield 13, 3) := by decide +kernel
theorem dX7_readArguments_17 : decode cX7_readArguments 17 = .ok (.iload_n 1, 1) := by decide +kernel
theorem dX7_readArguments_18 : decode cX7_readArguments 18 = .ok (.iconst 0, 1) := by decide +kernel
theorem dX7_readArguments_19 : decode cX7_readArguments 19 = .ok (.iastore, 1) := by decide +kernel
theorem dX7_readArguments_20 : decode cX7_readArguments 20 = .ok (.aload_n 0, 1) := by decide +kernel
theorem dX7_readArguments_21 : decode cX7_readArguments 21 = .ok (.bipush 41, 2) := by decide +kernel
theorem dX7_readArguments_23 : decode cX7_readArguments 23 = .ok (.invokevirtual 232, 3) := by decide +kernel
theorem dX7_readArguments_26 : decode cX7_readArguments 26 = .ok (.ifCond .eq 4, 3) := by decide +kernel
theorem dX7_readArguments_29 : decode cX7_readArguments 29 = .ok (.return_, 1) := by decide +kernel
theorem dX7_readArguments_30 : decode cX7_readArguments 30 = .ok (.iconst 1, 1) := by decide +kernel
theorem dX7_readArguments_31 : decode cX7_readArguments 31 = .ok (.istore_n 2, 1) := by decide +kernel
theorem dX7_readArguments_32 : decode cX7_readArguments 32 = .ok (.iload_n 2, 1) := by decide +kernel
theorem dX7_readArguments_33 : decode cX7_readArguments 33 = .ok (.ifCond .eq 145, 3) := by decide +kernel
theorem dX7_readArguments_36 : decode cX7_readArguments 36 = .ok (.aload_n 0, 1) := by decide +kernel
theorem dX7_readArguments_37 : decode cX7_readArguments 37 = .ok (.getfield 165, 3) := by decide +kernel
theorem dX7_readArguments_40 : decode cX7_readArguments 40 = .ok (.ifCond .eq 138, 3) := by decide +kernel
theorem dX7_readArguments_43 : decode cX7_readArguments 43 = .ok (.aload_n 0, 1) := by decide +kernel
theorem dX7_readArguments_44 : decode cX7_readArguments 44 = .ok (.aload_n 0, 1) := by decide +kernel
theorem dX7_readArguments_45 : decode cX7_readArguments 45 = .ok (.getfield 142, 3) := by decide +kernel
theorem dX7_readArguments_48 : decode cX7_readArguments 48 = .ok (.iconst 1, 1) := by decide +kernel
theorem dX7_readArguments_49 : decode cX7_readArguments 49 = .ok (.if_icmp .ne 18, 3) := by decide +kernel
theorem dX7_readArguments_52 : decode cX7_readArguments 52 = .ok (.aload_n 0, 1) := by decide +kernel
theorem dX7_readArguments_53 : decode cX7_readArguments 53 = .ok (.getfield 13, 3) := by decide +kernel
theorem dX7_readArguments_56 : decode cX7_readArguments 56 = .ok (.iload_n 1, 1) := by decide +kernel
theorem dX7_readArguments_57 : decode cX7_readArguments 57 = .ok (.iaload, 1) := by decide +kernel
theorem dX7_readArguments_58 : decode cX7_readArguments 58 = .ok (.bipush 6, 2) := by decide +kernel
theorem dX7_readArguments_60 : decode cX7_readArguments 60 = .ok (.if_icmp .ge 7, 3) := by decide +kernel
theorem dX7_readArguments_63 : decode cX7_readArguments 63 = .ok (.iconst 1, 1) := by decide +kernel
theorem dX7_readArguments_64 : decode cX7_readArguments 64 = .ok (.goto 4, 3) := by decide +kernel
theorem dX7_readArguments_67 : decode cX7_readArguments 67 = .ok (.iconst 0, 1) := by decide +kernel
theorem dX7_readArguments_68 : decode cX7_readArguments 68 = .ok (.invokevirtual 191, 3) := by decide +kernel
theorem dX7_readArguments_71 : decode cX7_readArguments 71 = .ok (.aload_n 0, 1) := by decide +kernel
theorem dX7_readArguments_72 : decode cX7_readArguments 72 = .ok (.getfield 165, 3) := by decide +kernel
theorem dX7_readArguments_75 : decode cX7_readArguments 75 = .ok (.ifCond .eq 10, 3) := by decide +kernel
theorem dX7_readArguments_78 : decode cX7_readArguments 78 = .ok (.aload_n 0, 1) := by decide +kernel
theorem dX7_readArguments_79 : decode cX7_readArguments 79 = .ok (.invokevirtual 204, 3) := by decide +kernel
theorem dX7_readArguments_82 : decode cX7_readArguments 82 = .ok (.goto 4, 3) := by decide +kernel
theorem dX7_readArguments_85 : decode cX7_readArguments 85 = .ok (.lconst 0, 1) := by decide +kernel
theorem dX7_readArguments_86 : decode cX7_readArguments 86 = .ok (.lstore_n 3, 1) := by decide +kernel
theorem dX7_readArguments_87 : decode cX7_readArguments 87 = .ok (.iconst 0, 1) := by decide +kernel
theorem dX7_readArguments_88 : decode cX7_readArguments 88 = .ok (.istore 5, 2) := by decide +kernel
theorem dX7_readArguments_90 : decode cX7_readArguments 90 = .ok (.iload 5, 2) := by decide +kernel
theorem dX7_readArguments_92 : decode cX7_readArguments 92 = .ok (.aload_n 0, 1) := by decide +kernel
theorem dX7_readArguments_93 : decode cX7_readArguments 93 = .ok (.getfield 13, 3) := by decide +kernel
theorem dX7_readArguments_96 : decode cX7_readArguments 96 = .ok (.iload_n 1, 1) := by decide +kernel
theorem dX7_readArguments_97 : decode cX7_readArguments 97 = .ok (.iaload, 1) := by decide +kernel
theorem dX7_readArguments_98 : decode cX7_readArguments 98 = .ok (.if_icmp .ge 37, 3) := by decide +kernel
theorem dX7_readArguments_101 : decode cX7_readArguments 101 = .ok (.aload_n 0, 1) := by decide +kernel
theorem dX7_readArguments_102 : decode cX7_readArguments 102 = .ok (.getfield 165, 3) := by decide +kernel
theorem dX7_readArguments_105 : decode cX7_readArguments 105 = .ok (.ifCond .eq 30, 3) := by decide +kernel
theorem dX7_readArguments_108 : decode cX7_readArguments 108 = .ok (.aload_n 0, 1) := by decide +kernel
theorem dX7_readArguments_109 : decode cX7_readArguments 109 = .ok (.aload_n 0, 1) := by decide +kernel
theorem dX7_readArguments_110 : decode cX7_readArguments 110 = .ok (.getfield 57, 3) := by decide +kernel
theorem dX7_readArguments_113 : decode cX7_readArguments 113 = .ok (.iload 5, 2) := by decide +kernel
theorem dX7_readArguments_115 : decode cX7_readArguments 115 = .ok (.laload, 1) := by decide +kernel
theorem dX7_readArguments_116 : decode cX7_readArguments 116 = .ok (.lload_n 3, 1) := by decide +kernel
theorem dX7_readArguments_117 : decode cX7_readArguments 117 = .ok (.lcmp, 1) := by decide +kernel
theorem dX7_readArguments_118 : decode cX7_readArguments 118 = .ok (.ifCond .eq 7, 3) := by decide +kernel
theorem dX7_readArguments_121 : decode cX7_readArguments 121 = .ok (.iconst 1, 1) := by decide +kernel
theorem dX7_readArguments_122 : decode cX7_readArguments 122 = .ok (.goto 4, 3) := by decide +kernel
theorem dX7_readArguments_125 : decode cX7_readArguments 125 = .ok (.iconst 0, 1) := by decide +kernel
theorem dX7_readArguments_126 : decode cX7_readArguments 126 = .ok (.invokevirtual 191, 3) := by decide +kernel
theorem dX7_readArguments_129 : decode cX7_readArguments 129 = .ok (.iinc 5 1, 3) := by decide +kernel
theorem dX7_readArguments_132 : decode cX7_readArguments 132 = .ok (.goto (-42), 3) := by decide +kernel
theorem dX7_readArguments_135 : decode cX7_readArguments 135 = .ok (.aload_n 0, 1) := by decide +kernel
theorem dX7_readArguments_136 : decode cX7_readArguments 136 = .ok (.getfield 165, 3) := by decide +kernel
theorem dX7_readArguments_139 : decode cX7_readArguments 139 = .ok (.ifCond .eq 36, 3) := by decide +kernel
theorem dX7_readArguments_142 : decode cX7_readArguments 142 = .ok (.aload_n 0, 1) := by decide +kernel
theorem dX7_readArguments_143 : decode cX7_readArguments 143 = .ok (.getfield 57, 3) := by decide +kernel
theorem dX7_readArguments_146 : decode cX7_readArguments 146 = .ok (.aload_n 0, 1) := by decide +kernel
theorem dX7_readArguments_147 : decode cX7_readArguments 147 = .ok (.getfield 13, 3) := by decide +kernel
theorem dX7_readArguments_150 : decode cX7_readArguments 150 = .ok (.iload_n 1, 1) := by decide +kernel
theorem dX7_readArguments_151 : decode cX7_readArguments 151 = .ok (.iaload, 1) := by decide +kernel
theorem dX7_readArguments_152 : decode cX7_readArguments 152 = .ok (.lload_n 3, 1) := by decide +kernel
theorem dX7_readArguments_153 : decode cX7_readArguments 153 = .ok (.lastore, 1) := by decide +kernel
theorem dX7_readArguments_154 : decode cX7_readArguments 154 = .ok (.aload_n 0, 1) := by decide +kernel
theorem dX7_readArguments_155 : decode cX7_readArguments 155 = .ok (.getfield 13, 3) := by decide +kernel
theorem dX7_readArguments_158 : decode cX7_readArguments 158 = .ok (.iload_n 1, 1) := by decide +kernel
theorem dX7_readArguments_159 : decode cX7_readArguments 159 = .ok (.dup2, 1) := by decide +kernel
theorem dX7_readArguments_160 : decode cX7_readArguments 160 = .ok (.iaload, 1) := by decide +kernel
theorem dX7_readArguments_161 : decode cX7_readArguments 161 = .ok (.iconst 1, 1) := by decide +kernel
theorem dX7_readArguments_162 : decode cX7_readArguments 162 = .ok (.iadd, 1) := by decide +kernel
theorem dX7_readArguments_163 : decode cX7_readArguments 163 = .ok (.iastore, 1) := by decide +kernel
theorem dX7_readArguments_164 : decode cX7_readArguments 164 = .ok (.aload_n 0, 1) := by decide +kernel
theorem dX7_readArguments_165 : decode cX7_readArguments 165 = .ok (.invokevirtual 175, 3) := by decide +kernel
theorem dX7_readArguments_168 : decode cX7_readArguments 168 = .ok (.aload_n 0, 1) := by decide +kernel
theorem dX7_readArguments_169 : decode cX7_readArguments 169 = .ok (.bipush 44, 2) := by decide +kernel
theorem dX7_readArguments_171 : decode cX7_readArguments 171 = .ok (.invokevirtual 232, 3) := by decide +kernel
theorem dX7_readArguments_174 : decode cX7_readArguments 174 = .ok (.istore_n 2, 1) := by decide +kernel
theorem dX7_readArguments_175 : decode cX7_readArguments 175 = .ok (.goto (-143), 3) := by decide +kernel
theorem dX7_readArguments_178 : decode cX7_readArguments 178 = .ok (.aload_n 0, 1) := by decide +kernel
theorem dX7_readArguments_179 : decode cX7_readArguments 179 = .ok (.aload_n 0, 1) := by decide +kernel
theorem dX7_readArguments_180 : decode cX7_readArguments 180 = .ok (.bipush 41, 2) := by decide +kernel
theorem dX7_readArguments_182 : decode cX7_readArguments 182 = .ok (.invokevirtual 172, 3) := by decide +kernel
theorem dX7_readArguments_185 : decode cX7_readArguments 185 = .ok (.invokevirtual 191, 3) := by decide +kernel
theorem dX7_readArguments_188 : decode cX7_readArguments 188 = .ok (.aload_n 0, 1) := by decide +kernel
theorem dX7_readArguments_189 : decode cX7_readArguments 189 = .ok (.getfield 165, 3) := by decide +kernel
theorem dX7_readArguments_192 : decode cX7_readArguments 192 = .ok (.ifCond .eq 7, 3) := by decide +kernel
theorem dX7_readArguments_195 : decode cX7_readArguments 195 = .ok (.aload_n 0, 1) := by decide +kernel
theorem dX7_readArguments_196 : decode cX7_readArguments 196 = .ok (.invokevirtual 175, 3) := by decide +kernel
theorem dX7_readArguments_199 : decode cX7_readArguments 199 = .ok (.return_, 1) := by decide +kernel
theorem dX7_needSign_0 : decode cX7_needSign 0 = .ok (.aload_n 0, 1) := by decide +kernel
theorem dX7_needSign_1 : decode cX7_needSign 1 = .ok (.aload_n 0, 1) := by decide +kernel
theorem dX7_needSign_2 : decode cX7_needSign 2 = .ok (.iload_n 1, 1) := by decide +kernel
theorem dX7_needSign_3 : decode cX7_needSign 3 = .ok (.invokevirtual 172, 3) := by decide +kernel
theorem dX7_needSign_6 : decode cX7_needSign 6 = .ok (.invokevirtual 191, 3) := by decide +kernel
theorem dX7_needSign_9 : decode cX7_needSign 9 = .ok (.aload_n 0, 1) := by decide +kernel
theorem dX7_needSign_10 : decode cX7_needSign 10 = .ok (.getfield 165, 3) := by decide +kernel
theorem dX7_needSign_13 : decode cX7_needSign 13 = .ok (.ifCond .eq 7, 3) := by decide +kernel
theorem dX7_needSign_16 : decode cX7_needSign 16 = .ok (.aload_n 0, 1) := by decide +kernel
theorem dX7_needSign_17 : decode cX7_needSign 17 = .ok (.invokevirtual 175, 3) := by decide +kernel
theorem dX7_needSign_20 : decode cX7_needSign 20 = .ok (.return_, 1) := by decide +kernel
theorem dX7_readDefinition_0 : decode cX7_readDefinition 0 = .ok (.aload_n 0, 1) := by decide +kernel
theorem dX7_readDefinition_1 : decode cX7_readDefinition 1 = .ok (.aload_n 0, 1) := by decide +kernel
theorem dX7_readDefinition_2 : decode cX7_readDefinition 2 = .ok (.getfield 142, 3) := by decide +kernel
theorem dX7_readDefinition_5 : decode cX7_readDefinition 5 = .ok (.iconst 1, 1) := by decide +kernel
theorem dX7_readDefinition_6 : decode cX7_readDefinition 6 = .ok (.if_icmp .ne 16, 3) := by decide +kernel
theorem dX7_readDefinition_9 : decode cX7_readDefinition 9 = .ok (.aload_n 0, 1) := by decide +kernel
theorem dX7_readDefinition_10 : decode cX7_readDefinition 10 = .ok (.getfield 185, 3) := by decide +kernel
theorem dX7_readDefinition_13 : decode cX7_readDefinition 13 = .ok (.bipush 12, 2) := by decide +kernel
theorem dX7_readDefinition_15 : decode cX7_readDefinition 15 = .ok (.if_icmp .ge 7, 3) := by decide +kernel
theorem dX7_readDefinition_18 : decode cX7_readDefinition 18 = .ok (.iconst 1, 1) := by decide +kernel
theorem dX7_readDefinition_19 : decode cX7_readDefinition 19 = .ok (.goto 4, 3) := by decide +kernel
theorem dX7_readDefinition_22 : decode cX7_readDefinition 22 = .ok (.iconst 0, 1) := by decide +kernel
theorem dX7_readDefinition_23 : decode cX7_readDefinition 23 = .ok (.invokevirtual 191, 3) := by decide +kernel
theorem dX7_readDefinition_26 : decode cX7_readDefinition 26 = .ok (.aload_n 0, 1) := by decide +kernel
theorem dX7_readDefinition_27 : decode cX7_readDefinition 27 = .ok (.getfield 165, 3) := by decide +kernel
theorem dX7_readDefinition_30 : decode cX7_readDefinition 30 = .ok (.ifCond .ne 4, 3) := by decide +kernel
theorem dX7_readDefinition_33 : decode cX7_readDefinition 33 = .ok (.return_, 1) := by decide +kernel
theorem dX7_readDefinition_34 : decode cX7_readDefinition 34 = .ok (.aload_n 0, 1) := by decide +kernel
theorem dX7_readDefinition_35 : decode cX7_readDefinition 35 = .ok (.aload_n 0, 1) := by decide +kernel
theorem dX7_readDefinition_36 : decode cX7_readDefinition 36 = .ok (.aload_n 0, 1) := by decide +kernel
theorem dX7_readDefinition_37 : decode cX7_readDefinition 37 = .ok (.invokevirtual 204, 3) := by decide +kernel
theorem dX7_readDefinition_40 : decode cX7_readDefinition 40 = .ok (.invokevirtual 269, 3) := by decide +kernel
theorem dX7_readDefinition_43 : decode cX7_readDefinition 43 = .ok (.ifCond .ne 7, 3) := by decide +kernel
theorem dX7_readDefinition_46 : decode cX7_readDefinition 46 = .ok (.iconst 1, 1) := by decide +kernel
theorem dX7_readDefinition_47 : decode cX7_readDefinition 47 = .ok (.goto 4, 3) := by decide +kernel
theorem dX7_readDefinition_50 : decode cX7_readDefinition 50 = .ok (.iconst 0, 1) := by decide +kernel
theorem dX7_readDefinition_51 : decode cX7_readDefinition 51 = .ok (.invokevirtual 191, 3) := by decide +kernel
theorem dX7_readDefinition_54 : decode cX7_readDefinition 54 = .ok (.aload_n 0, 1) := by decide +kernel
theorem dX7_readDefinition_55 : decode cX7_readDefinition 55 = .ok (.getfield 53, 3) := by decide +kernel
theorem dX7_readDefinition_58 : decode cX7_readDefinition 58 = .ok (.bipush 12, 2) := by decide +kernel
theorem dX7_readDefinition_60 : decode cX7_readDefinition 60 = .ok (.aload_n 0, 1) := by decide +kernel
theorem dX7_readDefinition_61 : decode cX7_readDefinition 61 = .ok (.getfield 182, 3) := by decide +kernel
theorem dX7_readDefinition_64 : decode cX7_readDefinition 64 = .ok (.imul, 1) := by decide +kernel
theorem dX7_readDefinition_65 : decode cX7_readDefinition 65 = .ok (.aload_n 0, 1) := by decide +kernel
theorem dX7_readDefinition_66 : decode cX7_readDefinition 66 = .ok (.getfield 185, 3) := by decide +kernel
theorem dX7_readDefinition_69 : decode cX7_readDefinition 69 = .ok (.iadd, 1) := by decide +kernel
theorem dX7_readDefinition_70 : decode cX7_readDefinition 70 = .ok (.aload_n 0, 1) := by decide +kernel
theorem dX7_readDefinition_71 : decode cX7_readDefinition 71 = .ok (.invokevirtual 204, 3) := by decide +kernel
theorem dX7_readDefinition_74 : decode cX7_readDefinition 74 = .ok (.lastore, 1) := by decide +kernel
theorem dX7_readDefinition_75 : decode cX7_readDefinition 75 = .ok (.aload_n 0, 1) := by decide +kernel
theorem dX7_readDefinition_76 : decode cX7_readDefinition 76 = .ok (.getfield 165, 3) := by decide +kernel
theorem dX7_readDefinition_79 : decode cX7_readDefinition 79 = .ok (.ifCond .eq 7, 3) := by decide +kernel
theorem dX7_readDefinition_82 : decode cX7_readDefinition 82 = .ok (.aload_n 0, 1) := by decide +kernel
theorem dX7_readDefinition_83 : decode cX7_readDefinition 83 = .ok (.invokevirtual 175, 3) := by decide +kernel
theorem dX7_readDefinition_86 : decode cX7_readDefinition 86 = .ok (.aload_n 0, 1) := by decide +kernel
theorem dX7_readDefinition_87 : decode cX7_readDefinition 87 = .ok (.bipush 40, 2) := by decide +kernel
theorem dX7_readDefinition_89 : decode cX7_readDefinition 89 = .ok (.invokevirtual 273, 3) := by decide +kernel
theorem dX7_readDefinition_92 : decode cX7_readDefinition 92 = .ok (.aload_n 0, 1) := by decide +kernel
theorem dX7_readDefinition_93 : decode cX7_readDefinition 93 = .ok (.getfield 165, 3) := by decide +kernel
theorem dX7_readDefinition_96 : decode cX7_readDefinition 96 = .ok (.ifCond .eq 7, 3) := by decide +kernel
theorem dX7_readDefinition_99 : decode cX7_readDefinition 99 = .ok (.aload_n 0, 1) := by decide +kernel
theorem dX7_readDefinition_100 : decode cX7_readDefinition 100 = .ok (.invokevirtual 276, 3) := by decide +kernel
theorem dX7_readDefinition_103 : decode cX7_readDefinition 103 = .ok (.aload_n 0, 1) := by decide +kernel
theorem dX7_readDefinition_104 : decode cX7_readDefinition 104 = .ok (.bipush 61, 2) := by decide +kernel
theorem dX7_readDefinition_106 : decode cX7_readDefinition 106 = .ok (.invokevirtual 273, 3) := by decide +kernel
theorem dX7_readDefinition_109 : decode cX7_readDefinition 109 = .ok (.aload_n 0, 1) := by decide +kernel
theorem dX7_readDefinition_110 : decode cX7_readDefinition 110 = .ok (.getfield 165, 3) := by decide +kernel
theorem dX7_readDefinition_113 : decode cX7_readDefinition 113 = .ok (.ifCond .eq 7, 3) := by decide +kernel
theorem dX7_readDefinition_116 : decode cX7_readDefinition 116 = .ok (.aload_n 0, 1) := by decide +kernel
theorem dX7_readDefinition_117 : decode cX7_readDefinition 117 = .ok (.invokevirtual 279, 3) := by decide +kernel
theorem dX7_readDefinition_120 : decode cX7_readDefinition 120 = .ok (.aload_n 0, 1) := by decide +kernel
theorem dX7_readDefinition_121 : decode cX7_readDefinition 121 = .ok (.bipush 59, 2) := by decide +kernel
theorem dX7_readDefinition_123 : decode cX7_readDefinition 123 = .ok (.invokevirtual 273, 3) := by decide +kernel
theorem dX7_readDefinition_126 : decode cX7_readDefinition 126 = .ok (.return_, 1) := by decide +kernel
theorem dX7_link_0 : decode cX7_link 0 = .ok (.iconst (-1), 1) := by decide +kernel
theorem dX7_link_1 : decode cX7_link 1 = .ok (.istore_n 2, 1) := by decide +kernel
theorem dX7_link_2 : decode cX7_link 2 = .ok (.iconst 0, 1) := by decide +kernel
theorem dX7_link_3 : decode cX7_link 3 = .ok (.istore_n 3, 1) := by decide +kernel
theorem dX7_link_4 : decode cX7_link 4 = .ok (.iload_n 3, 1) := by decide +kernel
theorem dX7_link_5 : decode cX7_link 5 = .ok (.iload_n 1, 1) := by decide +kernel
theorem dX7_link_6 : decode cX7_link 6 = .ok (.if_icmp .ge 217, 3) := by decide +kernel
theorem dX7_link_9 : decode cX7_link 9 = .ok (.iconst 0, 1) := by decide +kernel
theorem dX7_link_10 : decode cX7_link 10 = .ok (.istore 4, 2) := by decide +kernel
theorem dX7_link_12 : decode cX7_link 12 = .ok (.iload 4, 2) := by decide +kernel
theorem dX7_link_14 : decode cX7_link 14 = .ok (.aload_n 0, 1) := by decide +kernel
theorem dX7_link_15 : decode cX7_link 15 = .ok (.getfield 17, 3) := by decide +kernel
theorem dX7_link_18 : decode cX7_link 18 = .ok (.bipush 12, 2) := by decide +kernel
theorem dX7_link_20 : decode cX7_link 20 = .ok (.aload_n 0, 1) := by decide +kernel
theorem dX7_link_21 : decode cX7_link 21 = .ok (.getfield 182, 3) := by decide +kernel
theorem dX7_link_24 : decode cX7_link 24 = .ok (.imul, 1) := by decide +kernel
theorem dX7_link_25 : decode cX7_link 25 = .ok (.iload_n 3, 1) := by decide +kernel
theorem dX7_link_26 : decode cX7_link 26 = .ok (.iadd, 1) := by decide +kernel
theorem dX7_link_27 : decode cX7_link 27 = .ok (.iaload, 1) := by decide +kernel
theorem dX7_link_28 : decode cX7_link 28 = .ok (.if_icmp .ge 189, 3) := by decide +kernel
theorem dX7_link_31 : decode cX7_link 31 = .ok (.bipush 60, 2) := by decide +kernel
theorem dX7_link_33 : decode cX7_link 33 = .ok (.bipush 12, 2) := by decide +kernel
theorem dX7_link_35 : decode cX7_link 35 = .ok (.aload_n 0, 1) := by decide +kernel
theorem dX7_link_36 : decode cX7_link 36 = .ok (.getfield 182, 3) := by decide +kernel
theorem dX7_link_39 : decode cX7_link 39 = .ok (.imul, 1) := by decide +kernel
theorem dX7_link_40 : decode cX7_link 40 = .ok (.iload_n 3, 1) := by decide +kernel
theorem dX7_link_41 : decode cX7_link 41 = .ok (.iadd, 1) := by decide +kernel
theorem dX7_link_42 : decode cX7_link 42 = .ok (.imul, 1) := by decide +kernel
theorem dX7_link_43 : decode cX7_link 43 = .ok (.iload 4, 2) := by decide +kernel
theorem dX7_link_45 : decode cX7_link 45 = .ok (.iadd, 1) := by decide +kernel
theorem dX7_link_46 : decode cX7_link 46 = .ok (.istore 5, 2) := by decide +kernel
theorem dX7_link_48 : decode cX7_link 48 = .ok (.aload_n 0, 1) := by decide +kernel
theorem dX7_link_49 : decode cX7_link 49 = .ok (.getfield 23, 3) := by decide +kernel
theorem dX7_link_52 : decode cX7_link 52 = .ok (.iload 5, 2) := by decide +kernel
theorem dX7_link_54 : decode cX7_link 54 = .ok (.iaload, 1) := by decide +kernel
theorem dX7_link_55 : decode cX7_link 55 = .ok (.bipush 8, 2) := by decide +kernel
theorem dX7_link_57 : decode cX7_link 57 = .ok (.if_icmp .eq 18, 3) := by decide +kernel
theorem dX7_link_60 : decode cX7_link 60 = .ok (.aload_n 0, 1) := by decide +kernel
theorem dX7_link_61 : decode cX7_link 61 = .ok (.getfield 23, 3) := by decide +kernel
theorem dX7_link_64 : decode cX7_link 64 = .ok (.iload 5, 2) := by decide +kernel
theorem dX7_link_66 : decode cX7_link 66 = .ok (.iaload, 1) := by decide +kernel
theorem dX7_link_67 : decode cX7_link 67 = .ok (.bipush 9, 2) := by decide +kernel
theorem dX7_link_69 : decode cX7_link 69 = .ok (.if_icmp .eq 6, 3) := by decide +kernel
theorem dX7_link_72 : decode cX7_link 72 = .ok (.goto 139, 3) := by decide +kernel
theorem dX7_link_75 : decode cX7_link 75 = .ok (.iconst 0, 1) := by decide +kernel
theorem dX7_link_76 : decode cX7_link 76 = .ok (.istore 6, 2) := by decide +kernel
theorem dX7_link_78 : decode cX7_link 78 = .ok (.iload 6, 2) := by decide +kernel
theorem dX7_link_80 : decode cX7_link 80 = .ok (.iload_n 1, 1) := by decide +kernel
theorem dX7_link_81 : decode cX7_link 81 = .ok (.if_icmp .ge 91, 3) := by decide +kernel
theorem dX7_link_84 : decode cX7_link 84 = .ok (.aload_n 0, 1) := by decide +kernel
theorem dX7_link_85 : decode cX7_link 85 = .ok (.getfield 53, 3) := by decide +kernel
theorem dX7_link_88 : decode cX7_link 88 = .ok (.bipush 12, 2) := by decide +kernel
theorem dX7_link_90 : decode cX7_link 90 = .ok (.aload_n 0, 1) := by decide +kernel
theorem dX7_link_91 : decode cX7_link 91 = .ok (.getfield 182, 3) := by decide +kernel
theorem dX7_link_94 : decode cX7_link 94 = .ok (.imul, 1) := by decide +kernel
theorem dX7_link_95 : decode cX7_link 95 = .ok (.iload 6, 2) := by decide +kernel
theorem dX7_link_97 : decode cX7_link 97 = .ok (.iadd, 1) := by decide +kernel
theorem dX7_link_98 : decode cX7_link 98 = .ok (.laload, 1) := by decide +kernel
theorem dX7_link_99 : decode cX7_link 99 = .ok (.aload_n 0, 1) := by decide +kernel
theorem dX7_link_100 : decode cX7_link 100 = .ok (.getfield 66, 3) := by decide +kernel
theorem dX7_link_103 : decode cX7_link 103 = .ok (.iload 5, 2) := by decide +kernel
theorem dX7_link_105 : decode cX7_link 105 = .ok (.laload, 1) := by decide +kernel
theorem dX7_link_106 : decode cX7_link 106 = .ok (.lcmp, 1) := by decide +kernel
theorem dX7_link_107 : decode cX7_link 107 = .ok (.ifCond .ne 32, 3) := by decide +kernel
theorem dX7_link_110 : decode cX7_link 110 = .ok (.aload_n 0, 1) := by decide +kernel
theorem dX7_link_111 : decode cX7_link 111 = .ok (.getfield 13, 3) := by decide +kernel
theorem dX7_link_114 : decode cX7_link 114 = .ok (.bipush 12, 2) := by decide +kernel
theorem dX7_link_116 : decode cX7_link 116 = .ok (.aload_n 0, 1) := by decide +kernel
theorem dX7_link_117 : decode cX7_link 117 = .ok (.getfield 182, 3) := by decide +kernel
theorem dX7_link_120 : decode cX7_link 120 = .ok (.imul, 1) := by decide +kernel
theorem dX7_link_121 : decode cX7_link 121 = .ok (.iload 6, 2) := by decide +kernel
theorem dX7_link_123 : decode cX7_link 123 = .ok (.iadd, 1) := by decide +kernel
theorem dX7_link_124 : decode cX7_link 124 = .ok (.iaload, 1) := by decide +kernel
theorem dX7_link_125 : decode cX7_link 125 = .ok (.aload_n 0, 1) := by decide +kernel
theorem dX7_link_126 : decode cX7_link 126 = .ok (.getfield 47, 3) := by decide +kernel
theorem dX7_link_129 : decode cX7_link 129 = .ok (.iload 5, 2) := by decide +kernel
theorem dX7_link_131 : decode cX7_link 131 = .ok (.iaload, 1) := by decide +kernel
theorem dX7_link_132 : decode cX7_link 132 = .ok (.if_icmp .ne 7, 3) := by decide +kernel
theorem dX7_link_135 : decode cX7_link 135 = .ok (.iconst 1, 1) := by decide +kernel
theorem dX7_link_136 : decode cX7_link 136 = .ok (.goto 4, 3) := by decide +kernel
theorem dX7_link_139 : decode cX7_link 139 = .ok (.iconst 0, 1) := by decide +kernel
theorem dX7_link_140 : decode cX7_link 140 = .ok (.istore 7, 2) := by decide +kernel
theorem dX7_link_142 : decode cX7_link 142 = .ok (.aload_n 0, 1) := by decide +kernel
theorem dX7_link_143 : decode cX7_link 143 = .ok (.getfield 50, 3) := by decide +kernel
theorem dX7_link_146 : decode cX7_link 146 = .ok (.iload 5, 2) := by decide +kernel
theorem dX7_link_148 : decode cX7_link 148 = .ok (.iload 7, 2) := by decide +kernel
theorem dX7_link_150 : decode cX7_link 150 = .ok (.ifCond .eq 8, 3) := by decide +kernel
theorem dX7_link_153 : decode cX7_link 153 = .ok (.iload 6, 2) := by decide +kernel
theorem dX7_link_155 : decode cX7_link 155 = .ok (.goto 10, 3) := by decide +kernel
theorem dX7_link_158 : decode cX7_link 158 = .ok (.aload_n 0, 1) := by decide +kernel
theorem dX7_link_159 : decode cX7_link 159 = .ok (.getfield 50, 3) := by decide +kernel
theorem dX7_link_162 : decode cX7_link 162 = .ok (.iload 5, 2) := by decide +kernel
theorem dX7_link_164 : decode cX7_link 164 = .ok (.iaload, 1) := by decide +kernel
theorem dX7_link_165 : decode cX7_link 165 = .ok (.iastore, 1) := by decide +kernel
theorem dX7_link_166 : decode cX7_link 166 = .ok (.iinc 6 1, 3) := by decide +kernel
theorem dX7_link_169 : decode cX7_link 169 = .ok (.goto (-91), 3) := by decide +kernel
theorem dX7_link_172 : decode cX7_link 172 = .ok (.aload_n 0, 1) := by decide +kernel
theorem dX7_link_173 : decode cX7_link 173 = .ok (.getfield 50, 3) := by decide +kernel
theorem dX7_link_176 : decode cX7_link 176 = .ok (.iload 5, 2) := by decide +kernel
theorem dX7_link_178 : decode cX7_link 178 = .ok (.iaload, 1) := by decide +kernel
theorem dX7_link_179 : decode cX7_link 179 = .ok (.iconst (-1), 1) := by decide +kernel
theorem dX7_link_180 : decode cX7_link 180 = .ok (.if_icmp .ne 29, 3) := by decide +kernel
theorem dX7_link_183 : decode cX7_link 183 = .ok (.iload_n 2, 1) := by decide +kernel
theorem dX7_link_184 : decode cX7_link 184 = .ok (.iconst (-1), 1) := by decide +kernel
theorem dX7_link_185 : decode cX7_link 185 = .ok (.if_icmp .eq 14, 3) := by decide +kernel
theorem dX7_link_188 : decode cX7_link 188 = .ok (.aload_n 0, 1) := by decide +kernel
theorem dX7_link_189 : decode cX7_link 189 = .ok (.getfield 44, 3) := by decide +kernel
theorem dX7_link_192 : decode cX7_link 192 = .ok (.iload 5, 2) := by decide +kernel
theorem dX7_link_194 : decode cX7_link 194 = .ok (.iaload, 1) := by decide +kernel
theorem dX7_link_195 : decode cX7_link 195 = .ok (.iload_n 2, 1) := by decide +kernel
theorem dX7_link_196 : decode cX7_link 196 = .ok (.if_icmp .ge 13, 3) := by decide +kernel
theorem dX7_link_199 : decode cX7_link 199 = .ok (.aload_n 0, 1) := by decide +kernel
theorem dX7_link_200 : decode cX7_link 200 = .ok (.getfield 44, 3) := by decide +kernel
theorem dX7_link_203 : decode cX7_link 203 = .ok (.iload 5, 2) := by decide +kernel
theorem dX7_link_205 : decode cX7_link 205 = .ok (.iaload, 1) := by decide +kernel
theorem dX7_link_206 : decode cX7_link 206 = .ok (.goto 4, 3) := by decide +kernel
theorem dX7_link_209 : decode cX7_link 209 = .ok (.iload_n 2, 1) := by decide +kernel
theorem dX7_link_210 : decode cX7_link 210 = .ok (.istore_n 2, 1) := by decide +kernel
theorem dX7_link_211 : decode cX7_link 211 = .ok (.iinc 4 1, 3) := by decide +kernel
theorem dX7_link_214 : decode cX7_link 214 = .ok (.goto (-202), 3) := by decide +kernel
theorem dX7_link_217 : decode cX7_link 217 = .ok (.iinc 3 1, 3) := by decide +kernel
theorem dX7_link_220 : decode cX7_link 220 = .ok (.goto (-216), 3) := by decide +kernel
theorem dX7_link_223 : decode cX7_link 223 = .ok (.iload_n 2, 1) := by decide +kernel
theorem dX7_link_224 : decode cX7_link 224 = .ok (.ireturn, 1) := by decide +kernel
theorem dX7_read_0 : decode cX7_read 0 = .ok (.aload_n 0, 1) := by decide +kernel
theorem dX7_read_1 : decode cX7_read 1 = .ok (.iconst 0, 1) := by decide +kernel
theorem dX7_read_2 : decode cX7_read 2 = .ok (.putfield 116, 3) := by decide +kernel
theorem dX7_read_5 : decode cX7_read 5 = .ok (.aload_n 0, 1) := by decide +kernel
theorem dX7_read_6 : decode cX7_read 6 = .ok (.iconst 1, 1) := by decide +kernel
theorem dX7_read_7 : decode cX7_read 7 = .ok (.aload_n 0, 1) := by decide +kernel
theorem dX7_read_8 : decode cX7_read 8 = .ok (.getfield 182, 3) := by decide +kernel
theorem dX7_read_11 : decode cX7_read 11 = .ok (.isub, 1) := by decide +kernel
theorem dX7_read_12 : decode cX7_read 12 = .ok (.putfield 182, 3) := by decide +kernel
theorem dX7_read_15 : decode cX7_read 15 = .ok (.aload_n 0, 1) := by decide +kernel
theorem dX7_read_16 : decode cX7_read 16 = .ok (.iconst 1, 1) := by decide +kernel
theorem dX7_read_17 : decode cX7_read 17 = .ok (.putfield 165, 3) := by decide +kernel
theorem dX7_read_20 : decode cX7_read 20 = .ok (.aload_n 0, 1) := by decide +kernel
theorem dX7_read_21 : decode cX7_read 21 = .ok (.iconst 0, 1) := by decide +kernel
theorem dX7_read_22 : decode cX7_read 22 = .ok (.putfield 185, 3) := by decide +kernel
theorem dX7_read_25 : decode cX7_read 25 = .ok (.aload_n 0, 1) := by decide +kernel
theorem dX7_read_26 : decode cX7_read 26 = .ok (.iconst 0, 1) := by decide +kernel
theorem dX7_read_27 : decode cX7_read 27 = .ok (.putfield 132, 3) := by decide +kernel
theorem dX7_read_30 : decode cX7_read 30 = .ok (.aload_n 0, 1) := by decide +kernel
theorem dX7_read_31 : decode cX7_read 31 = .ok (.invokevirtual 169, 3) := by decide +kernel
theorem dX7_read_34 : decode cX7_read 34 = .ok (.aload_n 0, 1) := by decide +kernel
theorem dX7_read_35 : decode cX7_read 35 = .ok (.getfield 165, 3) := by decide +kernel
theorem dX7_read_38 : decode cX7_read 38 = .ok (.ifCond .eq 45, 3) := by decide +kernel
theorem dX7_read_41 : decode cX7_read 41 = .ok (.aload_n 0, 1) := by decide +kernel
theorem dX7_read_42 : decode cX7_read 42 = .ok (.getfield 142, 3) := by decide +kernel
theorem dX7_read_45 : decode cX7_read 45 = .ok (.ifCond .ne 10, 3) := by decide +kernel
theorem dX7_read_48 : decode cX7_read 48 = .ok (.aload_n 0, 1) := by decide +kernel
theorem dX7_read_49 : decode cX7_read 49 = .ok (.getfield 185, 3) := by decide +kernel
theorem dX7_read_52 : decode cX7_read 52 = .ok (.ifCond .ne 31, 3) := by decide +kernel
theorem dX7_read_55 : decode cX7_read 55 = .ok (.aload_n 0, 1) := by decide +kernel
theorem dX7_read_56 : decode cX7_read 56 = .ok (.invokevirtual 282, 3) := by decide +kernel
theorem dX7_read_59 : decode cX7_read 59 = .ok (.aload_n 0, 1) := by decide +kernel
theorem dX7_read_60 : decode cX7_read 60 = .ok (.dup, 1) := by decide +kernel
theorem dX7_read_61 : decode cX7_read 61 = .ok (.getfield 185, 3) := by decide +kernel
theorem dX7_read_64 : decode cX7_read 64 = .ok (.aload_n 0, 1) := by decide +kernel
theorem dX7_read_65 : decode cX7_read 65 = .ok (.getfield 165, 3) := by decide +kernel
theorem dX7_read_68 : decode cX7_read 68 = .ok (.ifCond .eq 7, 3) := by decide +kernel
theorem dX7_read_71 : decode cX7_read 71 = .ok (.iconst 1, 1) := by decide +kernel
theorem dX7_read_72 : decode cX7_read 72 = .ok (.goto 4, 3) := by decide +kernel
theorem dX7_read_75 : decode cX7_read 75 = .ok (.iconst 0, 1) := by decide +kernel
theorem dX7_read_76 : decode cX7_read 76 = .ok (.iadd, 1) := by decide +kernel
theorem dX7_read_77 : decode cX7_read 77 = .ok (.putfield 185, 3) := by decide +kernel
theorem dX7_read_80 : decode cX7_read 80 = .ok (.goto (-46), 3) := by decide +kernel
theorem dX7_read_83 : decode cX7_read 83 = .ok (.aload_n 0, 1) := by decide +kernel
theorem dX7_read_84 : decode cX7_read 84 = .ok (.getfield 165, 3) := by decide +kernel
theorem dX7_read_87 : decode cX7_read 87 = .ok (.ifCond .eq 14, 3) := by decide +kernel
theorem dX7_read_90 : decode cX7_read 90 = .ok (.aload_n 0, 1) := by decide +kernel
theorem dX7_read_91 : decode cX7_read 91 = .ok (.aload_n 0, 1) := by decide +kernel
theorem dX7_read_92 : decode cX7_read 92 = .ok (.getfield 185, 3) := by decide +kernel
theorem dX7_read_95 : decode cX7_read 95 = .ok (.invokevirtual 285, 3) := by decide +kernel
theorem dX7_read_98 : decode cX7_read 98 = .ok (.goto 7, 3) := by decide +kernel
theorem dX7_read_101 : decode cX7_read 101 = .ok (.aload_n 0, 1) := by decide +kernel
theorem dX7_read_102 : decode cX7_read 102 = .ok (.getfield 132, 3) := by decide +kernel
theorem dX7_read_105 : decode cX7_read 105 = .ok (.istore_n 1, 1) := by decide +kernel
theorem dX7_read_106 : decode cX7_read 106 = .ok (.aload_n 0, 1) := by decide +kernel
theorem dX7_read_107 : decode cX7_read 107 = .ok (.iconst 0, 1) := by decide +kernel
theorem dX7_read_108 : decode cX7_read 108 = .ok (.putfield 119, 3) := by decide +kernel
theorem dX7_read_111 : decode cX7_read 111 = .ok (.aload_n 0, 1) := by decide +kernel
theorem dX7_read_112 : decode cX7_read 112 = .ok (.getfield 165, 3) := by decide +kernel
theorem dX7_read_115 : decode cX7_read 115 = .ok (.ifCond .eq 8, 3) := by decide +kernel
theorem dX7_read_118 : decode cX7_read 118 = .ok (.iload_n 1, 1) := by decide +kernel
theorem dX7_read_119 : decode cX7_read 119 = .ok (.iconst (-1), 1) := by decide +kernel
theorem dX7_read_120 : decode cX7_read 120 = .ok (.if_icmp .eq 17, 3) := by decide +kernel
theorem dX7_read_123 : decode cX7_read 123 = .ok (.aload_n 0, 1) := by decide +kernel
theorem dX7_read_124 : decode cX7_read 124 = .ok (.iconst 1, 1) := by decide +kernel
theorem dX7_read_125 : decode cX7_read 125 = .ok (.aload_n 0, 1) := by decide +kernel
theorem dX7_read_126 : decode cX7_read 126 = .ok (.getfield 182, 3) := by decide +kernel
theorem dX7_read_129 : decode cX7_read 129 = .ok (.isub, 1) := by decide +kernel
theorem dX7_read_130 : decode cX7_read 130 = .ok (.putfield 182, 3) := by decide +kernel
theorem dX7_read_133 : decode cX7_read 133 = .ok (.iconst (-1), 1) := by decide +kernel
theorem dX7_read_134 : decode cX7_read 134 = .ok (.iload_n 1, 1) := by decide +kernel
theorem dX7_read_135 : decode cX7_read 135 = .ok (.isub, 1) := by decide +kernel
theorem dX7_read_136 : decode cX7_read 136 = .ok (.ireturn, 1) := by decide +kernel
theorem dX7_read_137 : decode cX7_read 137 = .ok (.aload_n 0, 1) := by decide +kernel
theorem dX7_read_138 : decode cX7_read 138 = .ok (.aload_n 0, 1) := by decide +kernel
theorem dX7_read_139 : decode cX7_read 139 = .ok (.getfield 185, 3) := by decide +kernel
theorem dX7_read_142 : decode cX7_read 142 = .ok (.putfield 288, 3) := by decide +kernel
theorem dX7_read_145 : decode cX7_read 145 = .ok (.aload_n 0, 1) := by decide +kernel
theorem dX7_read_146 : decode cX7_read 146 = .ok (.getfield 288, 3) := by decide +kernel
theorem dX7_read_149 : decode cX7_read 149 = .ok (.ireturn, 1) := by decide +kernel
theorem dX7_partOf_0 : decode cX7_partOf 0 = .ok (.bipush 60, 2) := by decide +kernel
theorem dX7_partOf_2 : decode cX7_partOf 2 = .ok (.bipush 12, 2) := by decide +kernel
theorem dX7_partOf_4 : decode cX7_partOf 4 = .ok (.aload_n 0, 1) := by decide +kernel
theorem dX7_partOf_5 : decode cX7_partOf 5 = .ok (.getfield 182, 3) := by decide +kernel
theorem dX7_partOf_8 : decode cX7_partOf 8 = .ok (.imul, 1) := by decide +kernel
theorem dX7_partOf_9 : decode cX7_partOf 9 = .ok (.aload_n 0, 1) := by decide +kernel
theorem dX7_partOf_10 : decode cX7_partOf 10 = .ok (.getfield 78, 3) := by decide +kernel
theorem dX7_partOf_13 : decode cX7_partOf 13 = .ok (.iload_n 1, 1) := by decide +kernel
theorem dX7_partOf_14 : decode cX7_partOf 14 = .ok (.bipush 60, 2) := by decide +kernel
theorem dX7_partOf_16 : decode cX7_partOf 16 = .ok (.idiv, 1) := by decide +kernel
theorem dX7_partOf_17 : decode cX7_partOf 17 = .ok (.iaload, 1) := by decide +kernel
theorem dX7_partOf_18 : decode cX7_partOf 18 = .ok (.iadd, 1) := by decide +kernel
theorem dX7_partOf_19 : decode cX7_partOf 19 = .ok (.imul, 1) := by decide +kernel
theorem dX7_partOf_20 : decode cX7_partOf 20 = .ok (.iload_n 1, 1) := by decide +kernel
theorem dX7_partOf_21 : decode cX7_partOf 21 = .ok (.bipush 60, 2) := by decide +kernel
theorem dX7_partOf_23 : decode cX7_partOf 23 = .ok (.irem, 1) := by decide +kernel
theorem dX7_partOf_24 : decode cX7_partOf 24 = .ok (.iadd, 1) := by decide +kernel
theorem dX7_partOf_25 : decode cX7_partOf 25 = .ok (.ireturn, 1) := by decide +kernel
theorem dX7_here_0 : decode cX7_here 0 = .ok (.iload_n 1, 1) := by decide +kernel
theorem dX7_here_1 : decode cX7_here 1 = .ok (.bipush 60, 2) := by decide +kernel
theorem dX7_here_3 : decode cX7_here 3 = .ok (.idiv, 1) := by decide +kernel
theorem dX7_here_4 : decode cX7_here 4 = .ok (.bipush 60, 2) := by decide +kernel
theorem dX7_here_6 : decode cX7_here 6 = .ok (.imul, 1) := by decide +kernel
theorem dX7_here_7 : decode cX7_here 7 = .ok (.iload_n 2, 1) := by decide +kernel
theorem dX7_here_8 : decode cX7_here 8 = .ok (.bipush 60, 2) := by decide +kernel
theorem dX7_here_10 : decode cX7_here 10 = .ok (.irem, 1) := by decide +kernel
theorem dX7_here_11 : decode cX7_here 11 = .ok (.iadd, 1) := by decide +kernel
theorem dX7_here_12 : decode cX7_here 12 = .ok (.ireturn, 1) := by decide +kernel
theorem dX7_rootOf_0 : decode cX7_rootOf 0 = .ok (.bipush 60, 2) := by decide +kernel
theorem dX7_rootOf_2 : decode cX7_rootOf 2 = .ok (.iload_n 1, 1) := by decide +kernel
theorem dX7_rootOf_3 : decode cX7_rootOf 3 = .ok (.imul, 1) := by decide +kernel
theorem dX7_rootOf_4 : decode cX7_rootOf 4 = .ok (.aload_n 0, 1) := by decide +kernel
theorem dX7_rootOf_5 : decode cX7_rootOf 5 = .ok (.getfield 20, 3) := by decide +kernel
theorem dX7_rootOf_8 : decode cX7_rootOf 8 = .ok (.bipush 12, 2) := by decide +kernel
theorem dX7_rootOf_10 : decode cX7_rootOf 10 = .ok (.aload_n 0, 1) := by decide +kernel
theorem dX7_rootOf_11 : decode cX7_rootOf 11 = .ok (.getfield 182, 3) := by decide +kernel
theorem dX7_rootOf_14 : decode cX7_rootOf 14 = .ok (.imul, 1) := by decide +kernel
theorem dX7_rootOf_15 : decode cX7_rootOf 15 = .ok (.aload_n 0, 1) := by decide +kernel
theorem dX7_rootOf_16 : decode cX7_rootOf 16 = .ok (.getfield 78, 3) := by decide +kernel
theorem dX7_rootOf_19 : decode cX7_rootOf 19 = .ok (.iload_n 1, 1) := by decide +kernel
theorem dX7_rootOf_20 : decode cX7_rootOf 20 = .ok (.iaload, 1) := by decide +kernel
theorem dX7_rootOf_21 : decode cX7_rootOf 21 = .ok (.iadd, 1) := by decide +kernel
theorem dX7_rootOf_22 : decode cX7_rootOf 22 = .ok (.iaload, 1) := by decide +kernel
theorem dX7_rootOf_23 : decode cX7_rootOf 23 = .ok (.bipush 60, 2) := by decide +kernel
theorem dX7_rootOf_25 : decode cX7_rootOf 25 = .ok (.irem, 1) := by decide +kernel
theorem dX7_rootOf_26 : decode cX7_rootOf 26 = .ok (.iadd, 1) := by decide +kernel
theorem dX7_rootOf_27 : decode cX7_rootOf 27 = .ok (.ireturn, 1) := by decide +kernel
theorem dX7_reach_0 : decode cX7_reach 0 = .ok (.aload_n 0, 1) := by decide +kernel
theorem dX7_reach_1 : decode cX7_reach 1 = .ok (.getfield 90, 3) := by decide +kernel
theorem dX7_reach_4 : decode cX7_reach 4 = .ok (.iload_n 1, 1) := by decide +kernel
theorem dX7_reach_5 : decode cX7_reach 5 = .ok (.baload, 1) := by decide +kernel
theorem dX7_reach_6 : decode cX7_reach 6 = .ok (.ifCond .ne 15, 3) := by decide +kernel
theorem dX7_reach_9 : decode cX7_reach 9 = .ok (.aload_n 0, 1) := by decide +kernel
theorem dX7_reach_10 : decode cX7_reach 10 = .ok (.getfield 90, 3) := by decide +kernel
theorem dX7_reach_13 : decode cX7_reach 13 = .ok (.iload_n 1, 1) := by decide +kernel
theorem dX7_reach_14 : decode cX7_reach 14 = .ok (.iconst 1, 1) := by decide +kernel
theorem dX7_reach_15 : decode cX7_reach 15 = .ok (.bastore, 1) := by decide +kernel
theorem dX7_reach_16 : decode cX7_reach 16 = .ok (.aload_n 0, 1) := by decide +kernel
theorem dX7_reach_17 : decode cX7_reach 17 = .ok (.iconst 1, 1) := by decide +kernel
theorem dX7_reach_18 : decode cX7_reach 18 = .ok (.putfield 291, 3) := by decide +kernel
theorem dX7_reach_21 : decode cX7_reach 21 = .ok (.return_, 1) := by decide +kernel
theorem dX7_know_0 : decode cX7_know 0 = .ok (.aload_n 0, 1) := by decide +kernel
theorem dX7_know_1 : decode cX7_know 1 = .ok (.getfield 94, 3) := by decide +kernel
theorem dX7_know_4 : decode cX7_know 4 = .ok (.iload_n 1, 1) := by decide +kernel
theorem dX7_know_5 : decode cX7_know 5 = .ok (.iconst 1, 1) := by decide +kernel
theorem dX7_know_6 : decode cX7_know 6 = .ok (.bastore, 1) := by decide +kernel
theorem dX7_know_7 : decode cX7_know 7 = .ok (.aload_n 0, 1) := by decide +kernel
theorem dX7_know_8 : decode cX7_know 8 = .ok (.getfield 97, 3) := by decide +kernel
theorem dX7_know_11 : decode cX7_know 11 = .ok (.iload_n 1, 1) := by decide +kernel
theorem dX7_know_12 : decode cX7_know 12 = .ok (.iload_n 2, 1) := by decide +kernel
theorem dX7_know_13 : decode cX7_know 13 = .ok (.iastore, 1) := by decide +kernel
theorem dX7_know_14 : decode cX7_know 14 = .ok (.aload_n 0, 1) := by decide +kernel
theorem dX7_know_15 : decode cX7_know 15 = .ok (.getfield 100, 3) := by decide +kernel
theorem dX7_know_18 : decode cX7_know 18 = .ok (.iload_n 1, 1) := by decide +kernel
theorem dX7_know_19 : decode cX7_know 19 = .ok (.iload_n 3, 1) := by decide +kernel
theorem dX7_know_20 : decode cX7_know 20 = .ok (.iastore, 1) := by decide +kernel
theorem dX7_know_21 : decode cX7_know 21 = .ok (.aload_n 0, 1) := by decide +kernel
theorem dX7_know_22 : decode cX7_know 22 = .ok (.iconst 1, 1) := by decide +kernel
theorem dX7_know_23 : decode cX7_know 23 = .ok (.putfield 291, 3) := by decide +kernel
theorem dX7_know_26 : decode cX7_know 26 = .ok (.return_, 1) := by decide +kernel
theorem dX7_same_0 : decode cX7_same 0 = .ok (.aload_n 0, 1) := by decide +kernel
theorem dX7_same_1 : decode cX7_same 1 = .ok (.getfield 94, 3) := by decide +kernel
theorem dX7_same_4 : decode cX7_same 4 = .ok (.iload_n 2, 1) := by decide +kernel
theorem dX7_same_5 : decode cX7_same 5 = .ok (.baload, 1) := by decide +kernel
theorem dX7_same_6 : decode cX7_same 6 = .ok (.ifCond .eq 20, 3) := by decide +kernel
theorem dX7_same_9 : decode cX7_same 9 = .ok (.aload_n 0, 1) := by decide +kernel
theorem dX7_same_10 : decode cX7_same 10 = .ok (.iload_n 1, 1) := by decide +kernel
theorem dX7_same_11 : decode cX7_same 11 = .ok (.aload_n 0, 1) := by decide +kernel
theorem dX7_same_12 : decode cX7_same 12 = .ok (.getfield 97, 3) := by decide +kernel
theorem dX7_same_15 : decode cX7_same 15 = .ok (.iload_n 2, 1) := by decide +kernel
theorem dX7_same_16 : decode cX7_same 16 = .ok (.iaload, 1) := by decide +kernel
theorem dX7_same_17 : decode cX7_same 17 = .ok (.aload_n 0, 1) := by decide +kernel
theorem dX7_same_18 : decode cX7_same 18 = .ok (.getfield 100, 3) := by decide +kernel
theorem dX7_same_21 : decode cX7_same 21 = .ok (.iload_n 2, 1) := by decide +kernel
theorem dX7_same_22 : decode cX7_same 22 = .ok (.iaload, 1) := by decide +kernel
theorem dX7_same_23 : decode cX7_same 23 = .ok (.invokevirtual 294, 3) := by decide +kernel
theorem dX7_same_26 : decode cX7_same 26 = .ok (.return_, 1) := by decide +kernel
theorem dX7_numberOf_0 : decode cX7_numberOf 0 = .ok (.aload_n 0, 1) := by decide +kernel
theorem dX7_numberOf_1 : decode cX7_numberOf 1 = .ok (.getfield 100, 3) := by decide +kernel
theorem dX7_numberOf_4 : decode cX7_numberOf 4 = .ok (.iload_n 1, 1) := by decide +kernel
theorem dX7_numberOf_5 : decode cX7_numberOf 5 = .ok (.iaload, 1) := by decide +kernel
theorem dX7_numberOf_6 : decode cX7_numberOf 6 = .ok (.iconst (-1), 1) := by decide +kernel
theorem dX7_numberOf_7 : decode cX7_numberOf 7 = .ok (.if_icmp .ne 12, 3) := by decide +kernel
theorem dX7_numberOf_10 : decode cX7_numberOf 10 = .ok (.aload_n 0, 1) := by decide +kernel
theorem dX7_numberOf_11 : decode cX7_numberOf 11 = .ok (.getfield 97, 3) := by decide +kernel
theorem dX7_numberOf_14 : decode cX7_numberOf 14 = .ok (.iload_n 1, 1) := by decide +kernel
theorem dX7_numberOf_15 : decode cX7_numberOf 15 = .ok (.iaload, 1) := by decide +kernel
theorem dX7_numberOf_16 : decode cX7_numberOf 16 = .ok (.goto 14, 3) := by decide +kernel
theorem dX7_numberOf_19 : decode cX7_numberOf 19 = .ok (.aload_n 0, 1) := by decide +kernel
theorem dX7_numberOf_20 : decode cX7_numberOf 20 = .ok (.getfield 106, 3) := by decide +kernel
theorem dX7_numberOf_23 : decode cX7_numberOf 23 = .ok (.aload_n 0, 1) := by decide +kernel
theorem dX7_numberOf_24 : decode cX7_numberOf 24 = .ok (.getfield 100, 3) := by decide +kernel
theorem dX7_numberOf_27 : decode cX7_numberOf 27 = .ok (.iload_n 1, 1) := by decide +kernel
theorem dX7_numberOf_28 : decode cX7_numberOf 28 = .ok (.iaload, 1) := by decide +kernel
theorem dX7_numberOf_29 : decode cX7_numberOf 29 = .ok (.iaload, 1) := by decide +kernel
theorem dX7_numberOf_30 : decode cX7_numberOf 30 = .ok (.ireturn, 1) := by decide +kernel
theorem dX7_call_0 : decode cX7_call 0 = .ok (.aload_n 0, 1) := by decide +kernel
theorem dX7_call_1 : decode cX7_call 1 = .ok (.getfield 298, 3) := by decide +kernel
theorem dX7_call_4 : decode cX7_call 4 = .ok (.aload_n 0, 1) := by decide +kernel
theorem dX7_call_5 : decode cX7_call 5 = .ok (.getfield 301, 3) := by decide +kernel
theorem dX7_call_8 : decode cX7_call 8 = .ok (.if_icmp .ne 10, 3) := by decide +kernel
theorem dX7_call_11 : decode cX7_call 11 = .ok (.aload_n 0, 1) := by decide +kernel
theorem dX7_call_12 : decode cX7_call 12 = .ok (.iconst 1, 1) := by decide +kernel
theorem dX7_call_13 : decode cX7_call 13 = .ok (.putfield 304, 3) := by decide +kernel
theorem dX7_call_16 : decode cX7_call 16 = .ok (.iconst (-1), 1) := by decide +kernel
theorem dX7_call_17 : decode cX7_call 17 = .ok (.ireturn, 1) := by decide +kernel
theorem dX7_call_18 : decode cX7_call 18 = .ok (.aload_n 0, 1) := by decide +kernel
theorem dX7_call_19 : decode cX7_call 19 = .ok (.getfield 298, 3) := by decide +kernel
theorem dX7_call_22 : decode cX7_call 22 = .ok (.istore_n 2, 1) := by decide +kernel
theorem dX7_call_23 : decode cX7_call 23 = .ok (.aload_n 0, 1) := by decide +kernel
theorem dX7_call_24 : decode cX7_call 24 = .ok (.dup, 1) := by decide +kernel
theorem dX7_call_25 : decode cX7_call 25 = .ok (.getfield 298, 3) := by decide +kernel
theorem dX7_call_28 : decode cX7_call 28 = .ok (.iconst 1, 1) := by decide +kernel
theorem dX7_call_29 : decode cX7_call 29 = .ok (.iadd, 1) := by decide +kernel
theorem dX7_call_30 : decode cX7_call 30 = .ok (.putfield 298, 3) := by decide +kernel
theorem dX7_call_33 : decode cX7_call 33 = .ok (.aload_n 0, 1) := by decide +kernel
theorem dX7_call_34 : decode cX7_call 34 = .ok (.getfield 78, 3) := by decide +kernel
theorem dX7_call_37 : decode cX7_call 37 = .ok (.iload_n 2, 1) := by decide +kernel
theorem dX7_call_38 : decode cX7_call 38 = .ok (.iload_n 1, 1) := by decide +kernel
theorem dX7_call_39 : decode cX7_call 39 = .ok (.iastore, 1) := by decide +kernel
theorem dX7_call_40 : decode cX7_call 40 = .ok (.iconst 0, 1) := by decide +kernel
theorem dX7_call_41 : decode cX7_call 41 = .ok (.istore_n 3, 1) := by decide +kernel
theorem dX7_call_42 : decode cX7_call 42 = .ok (.iload_n 3, 1) := by decide +kernel
theorem dX7_call_43 : decode cX7_call 43 = .ok (.bipush 6, 2) := by decide +kernel
theorem dX7_call_45 : decode cX7_call 45 = .ok (.if_icmp .ge 18, 3) := by decide +kernel
theorem dX7_call_48 : decode cX7_call 48 = .ok (.aload_n 0, 1) := by decide +kernel
theorem dX7_call_49 : decode cX7_call 49 = .ok (.iload_n 2, 1) := by decide +kernel
theorem dX7_call_50 : decode cX7_call 50 = .ok (.iload_n 3, 1) := by decide +kernel
theorem dX7_call_51 : decode cX7_call 51 = .ok (.iconst (-1), 1) := by decide +kernel
theorem dX7_call_52 : decode cX7_call 52 = .ok (.iconst 0, 1) := by decide +kernel
theorem dX7_call_53 : decode cX7_call 53 = .ok (.iconst (-1), 1) := by decide +kernel
theorem dX7_call_54 : decode cX7_call 54 = .ok (.invokevirtual 307, 3) := by decide +kernel
theorem dX7_call_57 : decode cX7_call 57 = .ok (.iinc 3 1, 3) := by decide +kernel
theorem dX7_call_60 : decode cX7_call 60 = .ok (.goto (-18), 3) := by decide +kernel
theorem dX7_call_63 : decode cX7_call 63 = .ok (.bipush 60, 2) := by decide +kernel
theorem dX7_call_65 : decode cX7_call 65 = .ok (.iload_n 2, 1) := by decide +kernel
theorem dX7_call_66 : decode cX7_call 66 = .ok (.imul, 1) := by decide +kernel
theorem dX7_call_67 : decode cX7_call 67 = .ok (.istore_n 3, 1) := by decide +kernel
theorem dX7_call_68 : decode cX7_call 68 = .ok (.iload_n 3, 1) := by decide +kernel
theorem dX7_call_69 : decode cX7_call 69 = .ok (.bipush 60, 2) := by decide +kernel
theorem dX7_call_71 : decode cX7_call 71 = .ok (.iload_n 2, 1) := by decide +kernel
theorem dX7_call_72 : decode cX7_call 72 = .ok (.imul, 1) := by decide +kernel
theorem dX7_call_73 : decode cX7_call 73 = .ok (.bipush 60, 2) := by decide +kernel
theorem dX7_call_75 : decode cX7_call 75 = .ok (.iadd, 1) := by decide +kernel
theorem dX7_call_76 : decode cX7_call 76 = .ok (.if_icmp .ge 37, 3) := by decide +kernel
theorem dX7_call_79 : decode cX7_call 79 = .ok (.aload_n 0, 1) := by decide +kernel
theorem dX7_call_80 : decode cX7_call 80 = .ok (.getfield 90, 3) := by decide +kernel
theorem dX7_call_83 : decode cX7_call 83 = .ok (.iload_n 3, 1) := by decide +kernel
theorem dX7_call_84 : decode cX7_call 84 = .ok (.iconst 0, 1) := by decide +kernel
theorem dX7_call_85 : decode cX7_call 85 = .ok (.bastore, 1) := by decide +kernel
theorem dX7_call_86 : decode cX7_call 86 = .ok (.aload_n 0, 1) := by decide +kernel
theorem dX7_call_87 : decode cX7_call 87 = .ok (.getfield 94, 3) := by decide +kernel
theorem dX7_call_90 : decode cX7_call 90 = .ok (.iload_n 3, 1) := by decide +kernel
theorem dX7_call_91 : decode cX7_call 91 = .ok (.iconst 0, 1) := by decide +kernel
theorem dX7_call_92 : decode cX7_call 92 = .ok (.bastore, 1) := by decide +kernel
theorem dX7_call_93 : decode cX7_call 93 = .ok (.aload_n 0, 1) := by decide +kernel
theorem dX7_call_94 : decode cX7_call 94 = .ok (.getfield 103, 3) := by decide +kernel
theorem dX7_call_97 : decode cX7_call 97 = .ok (.iload_n 3, 1) := by decide +kernel
theorem dX7_call_98 : decode cX7_call 98 = .ok (.iconst (-1), 1) := by decide +kernel
theorem dX7_call_99 : decode cX7_call 99 = .ok (.iastore, 1) := by decide +kernel
theorem dX7_call_100 : decode cX7_call 100 = .ok (.aload_n 0, 1) := by decide +kernel
theorem dX7_call_101 : decode cX7_call 101 = .ok (.getfield 106, 3) := by decide +kernel
theorem dX7_call_104 : decode cX7_call 104 = .ok (.iload_n 3, 1) := by decide +kernel
theorem dX7_call_105 : decode cX7_call 105 = .ok (.iconst 0, 1) := by decide +kernel
theorem dX7_call_106 : decode cX7_call 106 = .ok (.iastore, 1) := by decide +kernel
theorem dX7_call_107 : decode cX7_call 107 = .ok (.iinc 3 1, 3) := by decide +kernel
theorem dX7_call_110 : decode cX7_call 110 = .ok (.goto (-42), 3) := by decide +kernel
theorem dX7_call_113 : decode cX7_call 113 = .ok (.aload_n 0, 1) := by decide +kernel
theorem dX7_call_114 : decode cX7_call 114 = .ok (.aload_n 0, 1) := by decide +kernel
theorem dX7_call_115 : decode cX7_call 115 = .ok (.iload_n 2, 1) := by decide +kernel
theorem dX7_call_116 : decode cX7_call 116 = .ok (.invokevirtual 311, 3) := by decide +kernel
theorem dX7_call_119 : decode cX7_call 119 = .ok (.invokevirtual 314, 3) := by decide +kernel
theorem dX7_call_122 : decode cX7_call 122 = .ok (.iload_n 2, 1) := by decide +kernel
theorem dX7_call_123 : decode cX7_call 123 = .ok (.ireturn, 1) := by decide +kernel
theorem dX7_argument_0 : decode cX7_argument 0 = .ok (.iload_n 2, 1) := by decide +kernel
theorem dX7_argument_1 : decode cX7_argument 1 = .ok (.bipush 6, 2) := by decide +kernel
theorem dX7_argument_3 : decode cX7_argument 3 = .ok (.if_icmp .ge 41, 3) := by decide +kernel
theorem dX7_argument_6 : decode cX7_argument 6 = .ok (.aload_n 0, 1) := by decide +kernel
theorem dX7_argument_7 : decode cX7_argument 7 = .ok (.getfield 81, 3) := by decide +kernel
theorem dX7_argument_10 : decode cX7_argument 10 = .ok (.bipush 6, 2) := by decide +kernel
theorem dX7_argument_12 : decode cX7_argument 12 = .ok (.iload_n 1, 1) := by decide +kernel
theorem dX7_argument_13 : decode cX7_argument 13 = .ok (.imul, 1) := by decide +kernel
theorem dX7_argument_14 : decode cX7_argument 14 = .ok (.iload_n 2, 1) := by decide +kernel
theorem dX7_argument_15 : decode cX7_argument 15 = .ok (.iadd, 1) := by decide +kernel
theorem dX7_argument_16 : decode cX7_argument 16 = .ok (.iload_n 3, 1) := by decide +kernel
theorem dX7_argument_17 : decode cX7_argument 17 = .ok (.iastore, 1) := by decide +kernel
theorem dX7_argument_18 : decode cX7_argument 18 = .ok (.aload_n 0, 1) := by decide +kernel
theorem dX7_argument_19 : decode cX7_argument 19 = .ok (.getfield 84, 3) := by decide +kernel
theorem dX7_argument_22 : decode cX7_argument 22 = .ok (.bipush 6, 2) := by decide +kernel
theorem dX7_argument_24 : decode cX7_argument 24 = .ok (.iload_n 1, 1) := by decide +kernel
theorem dX7_argument_25 : decode cX7_argument 25 = .ok (.imul, 1) := by decide +kernel
theorem dX7_argument_26 : decode cX7_argument 26 = .ok (.iload_n 2, 1) := by decide +kernel
theorem dX7_argument_27 : decode cX7_argument 27 = .ok (.iadd, 1) := by decide +kernel
theorem dX7_argument_28 : decode cX7_argument 28 = .ok (.iload 4, 2) := by decide +kernel
theorem dX7_argument_30 : decode cX7_argument 30 = .ok (.iastore, 1) := by decide +kernel
theorem dX7_argument_31 : decode cX7_argument 31 = .ok (.aload_n 0, 1) := by decide +kernel
theorem dX7_argument_32 : decode cX7_argument 32 = .ok (.getfield 87, 3) := by decide +kernel
theorem dX7_argument_35 : decode cX7_argument 35 = .ok (.bipush 6, 2) := by decide +kernel
theorem dX7_argument_37 : decode cX7_argument 37 = .ok (.iload_n 1, 1) := by decide +kernel
theorem dX7_argument_38 : decode cX7_argument 38 = .ok (.imul, 1) := by decide +kernel
theorem dX7_argument_39 : decode cX7_argument 39 = .ok (.iload_n 2, 1) := by decide +kernel
theorem dX7_argument_40 : decode cX7_argument 40 = .ok (.iadd, 1) := by decide +kernel
theorem dX7_argument_41 : decode cX7_argument 41 = .ok (.iload 5, 2) := by decide +kernel
theorem dX7_argument_43 : decode cX7_argument 43 = .ok (.iastore, 1) := by decide +kernel
theorem dX7_argument_44 : decode cX7_argument 44 = .ok (.return_, 1) := by decide +kernel
theorem dX7_hand_0 : decode cX7_hand 0 = .ok (.iload_n 3, 1) := by decide +kernel
theorem dX7_hand_1 : decode cX7_hand 1 = .ok (.istore 4, 2) := by decide +kernel
theorem dX7_hand_3 : decode cX7_hand 3 = .ok (.aload_n 0, 1) := by decide +kernel
theorem dX7_hand_4 : decode cX7_hand 4 = .ok (.getfield 38, 3) := by decide +kernel
theorem dX7_hand_7 : decode cX7_hand 7 = .ok (.aload_n 0, 1) := by decide +kernel
theorem dX7_hand_8 : decode cX7_hand 8 = .ok (.iload_n 1, 1) := by decide +kernel
theorem dX7_hand_9 : decode cX7_hand 9 = .ok (.invokevirtual 317, 3) := by decide +kernel
theorem dX7_hand_12 : decode cX7_hand 12 = .ok (.iaload, 1) := by decide +kernel
theorem dX7_hand_13 : decode cX7_hand 13 = .ok (.istore 5, 2) := by decide +kernel
theorem dX7_hand_15 : decode cX7_hand 15 = .ok (.iload 5, 2) := by decide +kernel
theorem dX7_hand_17 : decode cX7_hand 17 = .ok (.iconst (-1), 1) := by decide +kernel
theorem dX7_hand_18 : decode cX7_hand 18 = .ok (.if_icmp .eq 34, 3) := by decide +kernel
theorem dX7_hand_21 : decode cX7_hand 21 = .ok (.aload_n 0, 1) := by decide +kernel
theorem dX7_hand_22 : decode cX7_hand 22 = .ok (.iload_n 2, 1) := by decide +kernel
theorem dX7_hand_23 : decode cX7_hand 23 = .ok (.iload 4, 2) := by decide +kernel
theorem dX7_hand_25 : decode cX7_hand 25 = .ok (.aload_n 0, 1) := by decide +kernel
theorem dX7_hand_26 : decode cX7_hand 26 = .ok (.iload_n 1, 1) := by decide +kernel
theorem dX7_hand_27 : decode cX7_hand 27 = .ok (.iload 5, 2) := by decide +kernel
theorem dX7_hand_29 : decode cX7_hand 29 = .ok (.invokevirtual 320, 3) := by decide +kernel
theorem dX7_hand_32 : decode cX7_hand 32 = .ok (.iconst 0, 1) := by decide +kernel
theorem dX7_hand_33 : decode cX7_hand 33 = .ok (.iconst (-1), 1) := by decide +kernel
theorem dX7_hand_34 : decode cX7_hand 34 = .ok (.invokevirtual 307, 3) := by decide +kernel
theorem dX7_hand_37 : decode cX7_hand 37 = .ok (.iinc 4 1, 3) := by decide +kernel
theorem dX7_hand_40 : decode cX7_hand 40 = .ok (.aload_n 0, 1) := by decide +kernel
theorem dX7_hand_41 : decode cX7_hand 41 = .ok (.getfield 41, 3) := by decide +kernel
theorem dX7_hand_44 : decode cX7_hand 44 = .ok (.iload 5, 2) := by decide +kernel
theorem dX7_hand_46 : decode cX7_hand 46 = .ok (.iaload, 1) := by decide +kernel
theorem dX7_hand_47 : decode cX7_hand 47 = .ok (.istore 5, 2) := by decide +kernel
theorem dX7_hand_49 : decode cX7_hand 49 = .ok (.goto (-34), 3) := by decide +kernel
theorem dX7_hand_52 : decode cX7_hand 52 = .ok (.return_, 1) := by decide +kernel
theorem dX7_reachArguments_0 : decode cX7_reachArguments 0 = .ok (.aload_n 0, 1) := by decide +kernel
theorem dX7_reachArguments_1 : decode cX7_reachArguments 1 = .ok (.getfield 38, 3) := by decide +kernel
theorem dX7_reachArguments_4 : decode cX7_reachArguments 4 = .ok (.aload_n 0, 1) := by decide +kernel
theorem dX7_reachArguments_5 : decode cX7_reachArguments 5 = .ok (.iload_n 1, 1) := by decide +kernel
theorem dX7_reachArguments_6 : decode cX7_reachArguments 6 = .ok (.invokevirtual 317, 3) := by decide +kernel
theorem dX7_reachArguments_9 : decode cX7_reachArguments 9 = .ok (.iaload, 1) := by decide +kernel
theorem dX7_reachArguments_10 : decode cX7_reachArguments 10 = .ok (.istore_n 2, 1) := by decide +kernel
theorem dX7_reachArguments_11 : decode cX7_reachArguments 11 = .ok (.iload_n 2, 1) := by decide +kernel
theorem dX7_reachArguments_12 : decode cX7_reachArguments 12 = .ok (.iconst (-1), 1) := by decide +kernel
theorem dX7_reachArguments_13 : decode cX7_reachArguments 13 = .ok (.if_icmp .eq 23, 3) := by decide +kernel
theorem dX7_reachArguments_16 : decode cX7_reachArguments 16 = .ok (.aload_n 0, 1) := by decide +kernel
theorem dX7_reachArguments_17 : decode cX7_reachArguments 17 = .ok (.aload_n 0, 1) := by decide +kernel
theorem dX7_reachArguments_18 : decode cX7_reachArguments 18 = .ok (.iload_n 1, 1) := by decide +kernel
theorem dX7_reachArguments_19 : decode cX7_reachArguments 19 = .ok (.iload_n 2, 1) := by decide +kernel
theorem dX7_reachArguments_20 : decode cX7_reachArguments 20 = .ok (.invokevirtual 320, 3) := by decide +kernel
theorem dX7_reachArguments_23 : decode cX7_reachArguments 23 = .ok (.invokevirtual 314, 3) := by decide +kernel
theorem dX7_reachArguments_26 : decode cX7_reachArguments 26 = .ok (.aload_n 0, 1) := by decide +kernel
theorem dX7_reachArguments_27 : decode cX7_reachArguments 27 = .ok (.getfield 41, 3) := by decide +kernel
theorem dX7_reachArguments_30 : decode cX7_reachArguments 30 = .ok (.iload_n 2, 1) := by decide +kernel
theorem dX7_reachArguments_31 : decode cX7_reachArguments 31 = .ok (.iaload, 1) := by decide +kernel
theorem dX7_reachArguments_32 : decode cX7_reachArguments 32 = .ok (.istore_n 2, 1) := by decide +kernel
theorem dX7_reachArguments_33 : decode cX7_reachArguments 33 = .ok (.goto (-22), 3) := by decide +kernel
theorem dX7_reachArguments_36 : decode cX7_reachArguments 36 = .ok (.return_, 1) := by decide +kernel
theorem dX7_operate_0 : decode cX7_operate 0 = .ok (.iload_n 0, 1) := by decide +kernel
theorem dX7_operate_1 : decode cX7_operate 1 = .ok (.tableswitch 173 37 61 #[139, 173, 173, 173, 173, 123, 115, 173, 119, 173, 127, 173, 173, 173, 173, 173, 173, 173, 173, 173, 173, 173, 173, 151, 162], 115) := by decide +kernel
theorem dX7_operate_116 : decode cX7_operate 116 = .ok (.iload_n 1, 1) := by decide +kernel
theorem dX7_operate_117 : decode cX7_operate 117 = .ok (.iload_n 2, 1) := by decide +kernel
theorem dX7_operate_118 : decode cX7_operate 118 = .ok (.iadd, 1) := by decide +kernel
theorem dX7_operate_119 : decode cX7_operate 119 = .ok (.ireturn, 1) := by decide +kernel
theorem dX7_operate_120 : decode cX7_operate 120 = .ok (.iload_n 1, 1) := by decide +kernel
theorem dX7_operate_121 : decode cX7_operate 121 = .ok (.iload_n 2, 1) := by decide +kernel
theorem dX7_operate_122 : decode cX7_operate 122 = .ok (.isub, 1) := by decide +kernel
theorem dX7_operate_123 : decode cX7_operate 123 = .ok (.ireturn, 1) := by decide +kernel
theorem dX7_operate_124 : decode cX7_operate 124 = .ok (.iload_n 1, 1) := by decide +kernel
theorem dX7_operate_125 : decode cX7_operate 125 = .ok (.iload_n 2, 1) := by decide +kernel
theorem dX7_operate_126 : decode cX7_operate 126 = .ok (.imul, 1) := by decide +kernel
theorem dX7_operate_127 : decode cX7_operate 127 = .ok (.ireturn, 1) := by decide +kernel
theorem dX7_operate_128 : decode cX7_operate 128 = .ok (.iload_n 2, 1) := by decide +kernel
theorem dX7_operate_129 : decode cX7_operate 129 = .ok (.ifCond .ne 7, 3) := by decide +kernel
theorem dX7_operate_132 : decode cX7_operate 132 = .ok (.iconst 0, 1) := by decide +kernel
theorem dX7_operate_133 : decode cX7_operate 133 = .ok (.goto 6, 3) := by decide +kernel
theorem dX7_operate_136 : decode cX7_operate 136 = .ok (.iload_n 1, 1) := by decide +kernel
theorem dX7_operate_137 : decode cX7_operate 137 = .ok (.iload_n 2, 1) := by decide +kernel
theorem dX7_operate_138 : decode cX7_operate 138 = .ok (.idiv, 1) := by decide +kernel
theorem dX7_operate_139 : decode cX7_operate 139 = .ok (.ireturn, 1) := by decide +kernel
theorem dX7_operate_140 : decode cX7_operate 140 = .ok (.iload_n 2, 1) := by decide +kernel
theorem dX7_operate_141 : decode cX7_operate 141 = .ok (.ifCond .ne 7, 3) := by decide +kernel
theorem dX7_operate_144 : decode cX7_operate 144 = .ok (.iconst 0, 1) := by decide +kernel
theorem dX7_operate_145 : decode cX7_operate 145 = .ok (.goto 6, 3) := by decide +kernel
theorem dX7_operate_148 : decode cX7_operate 148 = .ok (.iload_n 1, 1) := by decide +kernel
theorem dX7_operate_149 : decode cX7_operate 149 = .ok (.iload_n 2, 1) := by decide +kernel
theorem dX7_operate_150 : decode cX7_operate 150 = .ok (.irem, 1) := by decide +kernel
theorem dX7_operate_151 : decode cX7_operate 151 = .ok (.ireturn, 1) := by decide +kernel
theorem dX7_operate_152 : decode cX7_operate 152 = .ok (.iload_n 1, 1) := by decide +kernel
theorem dX7_operate_153 : decode cX7_operate 153 = .ok (.iload_n 2, 1) := by decide +kernel
theorem dX7_operate_154 : decode cX7_operate 154 = .ok (.if_icmp .ge 7, 3) := by decide +kernel
theorem dX7_operate_157 : decode cX7_operate 157 = .ok (.iconst 1, 1) := by decide +kernel
theorem dX7_operate_158 : decode cX7_operate 158 = .ok (.goto 4, 3) := by decide +kernel
theorem dX7_operate_161 : decode cX7_operate 161 = .ok (.iconst 0, 1) := by decide +kernel
theorem dX7_operate_162 : decode cX7_operate 162 = .ok (.ireturn, 1) := by decide +kernel
theorem dX7_operate_163 : decode cX7_operate 163 = .ok (.iload_n 1, 1) := by decide +kernel
theorem dX7_operate_164 : decode cX7_operate 164 = .ok (.iload_n 2, 1) := by decide +kernel
theorem dX7_operate_165 : decode cX7_operate 165 = .ok (.if_icmp .ne 7, 3) := by decide +kernel
theorem dX7_operate_168 : decode cX7_operate 168 = .ok (.iconst 1, 1) := by decide +kernel
theorem dX7_operate_169 : decode cX7_operate 169 = .ok (.goto 4, 3) := by decide +kernel
theorem dX7_operate_172 : decode cX7_operate 172 = .ok (.iconst 0, 1) := by decide +kernel
theorem dX7_operate_173 : decode cX7_operate 173 = .ok (.ireturn, 1) := by decide +kernel
theorem dX7_operate_174 : decode cX7_operate 174 = .ok (.iload_n 1, 1) := by decide +kernel
theorem dX7_operate_175 : decode cX7_operate 175 = .ok (.iload_n 2, 1) := by decide +kernel
theorem dX7_operate_176 : decode cX7_operate 176 = .ok (.if_icmp .le 7, 3) := by decide +kernel
theorem dX7_operate_179 : decode cX7_operate 179 = .ok (.iconst 1, 1) := by decide +kernel
theorem dX7_operate_180 : decode cX7_operate 180 = .ok (.goto 4, 3) := by decide +kernel
theorem dX7_operate_183 : decode cX7_operate 183 = .ok (.iconst 0, 1) := by decide +kernel
theorem dX7_operate_184 : decode cX7_operate 184 = .ok (.ireturn, 1) := by decide +kernel
theorem dX7_workCall_0 : decode cX7_workCall 0 = .ok (.aload_n 0, 1) := by decide +kernel
theorem dX7_workCall_1 : decode cX7_workCall 1 = .ok (.iload_n 1, 1) := by decide +kernel
theorem dX7_workCall_2 : decode cX7_workCall 2 = .ok (.invokevirtual 323, 3) := by decide +kernel
theorem dX7_workCall_5 : decode cX7_workCall 5 = .ok (.aload_n 0, 1) := by decide +kernel
theorem dX7_workCall_6 : decode cX7_workCall 6 = .ok (.getfield 103, 3) := by decide +kernel
theorem dX7_workCall_9 : decode cX7_workCall 9 = .ok (.iload_n 1, 1) := by decide +kernel
theorem dX7_workCall_10 : decode cX7_workCall 10 = .ok (.iaload, 1) := by decide +kernel
theorem dX7_workCall_11 : decode cX7_workCall 11 = .ok (.iconst (-1), 1) := by decide +kernel
theorem dX7_workCall_12 : decode cX7_workCall 12 = .ok (.if_icmp .ne 34, 3) := by decide +kernel
theorem dX7_workCall_15 : decode cX7_workCall 15 = .ok (.aload_n 0, 1) := by decide +kernel
theorem dX7_workCall_16 : decode cX7_workCall 16 = .ok (.aload_n 0, 1) := by decide +kernel
theorem dX7_workCall_17 : decode cX7_workCall 17 = .ok (.getfield 50, 3) := by decide +kernel
theorem dX7_workCall_20 : decode cX7_workCall 20 = .ok (.iload_n 2, 1) := by decide +kernel
theorem dX7_workCall_21 : decode cX7_workCall 21 = .ok (.iaload, 1) := by decide +kernel
theorem dX7_workCall_22 : decode cX7_workCall 22 = .ok (.invokevirtual 326, 3) := by decide +kernel
theorem dX7_workCall_25 : decode cX7_workCall 25 = .ok (.istore_n 3, 1) := by decide +kernel
theorem dX7_workCall_26 : decode cX7_workCall 26 = .ok (.iload_n 3, 1) := by decide +kernel
theorem dX7_workCall_27 : decode cX7_workCall 27 = .ok (.iconst (-1), 1) := by decide +kernel
theorem dX7_workCall_28 : decode cX7_workCall 28 = .ok (.if_icmp .ne 4, 3) := by decide +kernel
theorem dX7_workCall_31 : decode cX7_workCall 31 = .ok (.return_, 1) := by decide +kernel
theorem dX7_workCall_32 : decode cX7_workCall 32 = .ok (.aload_n 0, 1) := by decide +kernel
theorem dX7_workCall_33 : decode cX7_workCall 33 = .ok (.getfield 103, 3) := by decide +kernel
theorem dX7_workCall_36 : decode cX7_workCall 36 = .ok (.iload_n 1, 1) := by decide +kernel
theorem dX7_workCall_37 : decode cX7_workCall 37 = .ok (.iload_n 3, 1) := by decide +kernel
theorem dX7_workCall_38 : decode cX7_workCall 38 = .ok (.iastore, 1) := by decide +kernel
theorem dX7_workCall_39 : decode cX7_workCall 39 = .ok (.aload_n 0, 1) := by decide +kernel
theorem dX7_workCall_40 : decode cX7_workCall 40 = .ok (.iload_n 1, 1) := by decide +kernel
theorem dX7_workCall_41 : decode cX7_workCall 41 = .ok (.iload_n 3, 1) := by decide +kernel
theorem dX7_workCall_42 : decode cX7_workCall 42 = .ok (.iconst 0, 1) := by decide +kernel
theorem dX7_workCall_43 : decode cX7_workCall 43 = .ok (.invokevirtual 329, 3) := by decide +kernel
theorem dX7_workCall_46 : decode cX7_workCall 46 = .ok (.aload_n 0, 1) := by decide +kernel
theorem dX7_workCall_47 : decode cX7_workCall 47 = .ok (.iload_n 1, 1) := by decide +kernel
theorem dX7_workCall_48 : decode cX7_workCall 48 = .ok (.aload_n 0, 1) := by decide +kernel
theorem dX7_workCall_49 : decode cX7_workCall 49 = .ok (.aload_n 0, 1) := by decide +kernel
theorem dX7_workCall_50 : decode cX7_workCall 50 = .ok (.getfield 103, 3) := by decide +kernel
theorem dX7_workCall_53 : decode cX7_workCall 53 = .ok (.iload_n 1, 1) := by decide +kernel
theorem dX7_workCall_54 : decode cX7_workCall 54 = .ok (.iaload, 1) := by decide +kernel
theorem dX7_workCall_55 : decode cX7_workCall 55 = .ok (.invokevirtual 311, 3) := by decide +kernel
theorem dX7_workCall_58 : decode cX7_workCall 58 = .ok (.invokevirtual 332, 3) := by decide +kernel
theorem dX7_workCall_61 : decode cX7_workCall 61 = .ok (.return_, 1) := by decide +kernel
theorem dX7_workMake_0 : decode cX7_workMake 0 = .ok (.aload_n 0, 1) := by decide +kernel
theorem dX7_workMake_1 : decode cX7_workMake 1 = .ok (.iload_n 1, 1) := by decide +kernel
theorem dX7_workMake_2 : decode cX7_workMake 2 = .ok (.invokevirtual 323, 3) := by decide +kernel
theorem dX7_workMake_5 : decode cX7_workMake 5 = .ok (.aload_n 0, 1) := by decide +kernel
theorem dX7_workMake_6 : decode cX7_workMake 6 = .ok (.iload_n 1, 1) := by decide +kernel
theorem dX7_workMake_7 : decode cX7_workMake 7 = .ok (.aload_n 0, 1) := by decide +kernel
theorem dX7_workMake_8 : decode cX7_workMake 8 = .ok (.getfield 29, 3) := by decide +kernel
theorem dX7_workMake_11 : decode cX7_workMake 11 = .ok (.iload_n 2, 1) := by decide +kernel
theorem dX7_workMake_12 : decode cX7_workMake 12 = .ok (.iaload, 1) := by decide +kernel
theorem dX7_workMake_13 : decode cX7_workMake 13 = .ok (.invokevirtual 320, 3) := by decide +kernel
theorem dX7_workMake_16 : decode cX7_workMake 16 = .ok (.istore_n 3, 1) := by decide +kernel
theorem dX7_workMake_17 : decode cX7_workMake 17 = .ok (.aload_n 0, 1) := by decide +kernel
theorem dX7_workMake_18 : decode cX7_workMake 18 = .ok (.iload_n 3, 1) := by decide +kernel
theorem dX7_workMake_19 : decode cX7_workMake 19 = .ok (.invokevirtual 314, 3) := by decide +kernel
theorem dX7_workMake_22 : decode cX7_workMake 22 = .ok (.aload_n 0, 1) := by decide +kernel
theorem dX7_workMake_23 : decode cX7_workMake 23 = .ok (.getfield 94, 3) := by decide +kernel
theorem dX7_workMake_26 : decode cX7_workMake 26 = .ok (.iload_n 3, 1) := by decide +kernel
theorem dX7_workMake_27 : decode cX7_workMake 27 = .ok (.baload, 1) := by decide +kernel
theorem dX7_workMake_28 : decode cX7_workMake 28 = .ok (.ifCond .ne 4, 3) := by decide +kernel
theorem dX7_workMake_31 : decode cX7_workMake 31 = .ok (.return_, 1) := by decide +kernel
theorem dX7_workMake_32 : decode cX7_workMake 32 = .ok (.aload_n 0, 1) := by decide +kernel
theorem dX7_workMake_33 : decode cX7_workMake 33 = .ok (.iload_n 3, 1) := by decide +kernel
theorem dX7_workMake_34 : decode cX7_workMake 34 = .ok (.invokevirtual 335, 3) := by decide +kernel
theorem dX7_workMake_37 : decode cX7_workMake 37 = .ok (.istore 4, 2) := by decide +kernel
theorem dX7_workMake_39 : decode cX7_workMake 39 = .ok (.aload_n 0, 1) := by decide +kernel
theorem dX7_workMake_40 : decode cX7_workMake 40 = .ok (.getfield 106, 3) := by decide +kernel
theorem dX7_workMake_43 : decode cX7_workMake 43 = .ok (.iload_n 1, 1) := by decide +kernel
theorem dX7_workMake_44 : decode cX7_workMake 44 = .ok (.iload 4, 2) := by decide +kernel
theorem dX7_workMake_46 : decode cX7_workMake 46 = .ok (.ifCond .ge 7, 3) := by decide +kernel
theorem dX7_workMake_49 : decode cX7_workMake 49 = .ok (.iconst 0, 1) := by decide +kernel
theorem dX7_workMake_50 : decode cX7_workMake 50 = .ok (.goto 17, 3) := by decide +kernel
theorem dX7_workMake_53 : decode cX7_workMake 53 = .ok (.iload 4, 2) := by decide +kernel
theorem dX7_workMake_55 : decode cX7_workMake 55 = .ok (.bipush 40, 2) := by decide +kernel
theorem dX7_workMake_57 : decode cX7_workMake 57 = .ok (.if_icmp .le 8, 3) := by decide +kernel
theorem dX7_workMake_60 : decode cX7_workMake 60 = .ok (.bipush 40, 2) := by decide +kernel
theorem dX7_workMake_62 : decode cX7_workMake 62 = .ok (.goto 5, 3) := by decide +kernel
theorem dX7_workMake_65 : decode cX7_workMake 65 = .ok (.iload 4, 2) := by decide +kernel
theorem dX7_workMake_67 : decode cX7_workMake 67 = .ok (.iastore, 1) := by decide +kernel
theorem dX7_workMake_68 : decode cX7_workMake 68 = .ok (.aload_n 0, 1) := by decide +kernel
theorem dX7_workMake_69 : decode cX7_workMake 69 = .ok (.getfield 103, 3) := by decide +kernel
theorem dX7_workMake_72 : decode cX7_workMake 72 = .ok (.iload_n 1, 1) := by decide +kernel
theorem dX7_workMake_73 : decode cX7_workMake 73 = .ok (.aload_n 0, 1) := by decide +kernel
theorem dX7_workMake_74 : decode cX7_workMake 74 = .ok (.getfield 298, 3) := by decide +kernel
theorem dX7_workMake_77 : decode cX7_workMake 77 = .ok (.iastore, 1) := by decide +kernel
theorem dX7_workMake_78 : decode cX7_workMake 78 = .ok (.iconst 0, 1) := by decide +kernel
theorem dX7_workMake_79 : decode cX7_workMake 79 = .ok (.istore 5, 2) := by decide +kernel
theorem dX7_workMake_81 : decode cX7_workMake 81 = .ok (.iload 5, 2) := by decide +kernel
theorem dX7_workMake_83 : decode cX7_workMake 83 = .ok (.aload_n 0, 1) := by decide +kernel
theorem dX7_workMake_84 : decode cX7_workMake 84 = .ok (.getfield 106, 3) := by decide +kernel
theorem dX7_workMake_87 : decode cX7_workMake 87 = .ok (.iload_n 1, 1) := by decide +kernel
theorem dX7_workMake_88 : decode cX7_workMake 88 = .ok (.iaload, 1) := by decide +kernel
theorem dX7_workMake_89 : decode cX7_workMake 89 = .ok (.if_icmp .ge 63, 3) := by decide +kernel
theorem dX7_workMake_92 : decode cX7_workMake 92 = .ok (.aload_n 0, 1) := by decide +kernel
theorem dX7_workMake_93 : decode cX7_workMake 93 = .ok (.getfield 304, 3) := by decide +kernel
theorem dX7_workMake_96 : decode cX7_workMake 96 = .ok (.ifCond .ne 56, 3) := by decide +kernel
theorem dX7_workMake_99 : decode cX7_workMake 99 = .ok (.aload_n 0, 1) := by decide +kernel
theorem dX7_workMake_100 : decode cX7_workMake 100 = .ok (.aload_n 0, 1) := by decide +kernel
theorem dX7_workMake_101 : decode cX7_workMake 101 = .ok (.getfield 50, 3) := by decide +kernel
theorem dX7_workMake_104 : decode cX7_workMake 104 = .ok (.iload_n 2, 1) := by decide +kernel
theorem dX7_workMake_105 : decode cX7_workMake 105 = .ok (.iaload, 1) := by decide +kernel
theorem dX7_workMake_106 : decode cX7_workMake 106 = .ok (.invokevirtual 326, 3) := by decide +kernel
theorem dX7_workMake_109 : decode cX7_workMake 109 = .ok (.istore 6, 2) := by decide +kernel
theorem dX7_workMake_111 : decode cX7_workMake 111 = .ok (.iload 6, 2) := by decide +kernel
theorem dX7_workMake_113 : decode cX7_workMake 113 = .ok (.iconst (-1), 1) := by decide +kernel
theorem dX7_workMake_114 : decode cX7_workMake 114 = .ok (.if_icmp .eq 32, 3) := by decide +kernel
theorem dX7_workMake_117 : decode cX7_workMake 117 = .ok (.aload_n 0, 1) := by decide +kernel
theorem dX7_workMake_118 : decode cX7_workMake 118 = .ok (.iload 6, 2) := by decide +kernel
theorem dX7_workMake_120 : decode cX7_workMake 120 = .ok (.iconst 0, 1) := by decide +kernel
theorem dX7_workMake_121 : decode cX7_workMake 121 = .ok (.iconst (-1), 1) := by decide +kernel
theorem dX7_workMake_122 : decode cX7_workMake 122 = .ok (.iload 5, 2) := by decide +kernel
theorem dX7_workMake_124 : decode cX7_workMake 124 = .ok (.iconst (-1), 1) := by decide +kernel
theorem dX7_workMake_125 : decode cX7_workMake 125 = .ok (.invokevirtual 307, 3) := by decide +kernel
theorem dX7_workMake_128 : decode cX7_workMake 128 = .ok (.aload_n 0, 1) := by decide +kernel
theorem dX7_workMake_129 : decode cX7_workMake 129 = .ok (.iload 6, 2) := by decide +kernel
theorem dX7_workMake_131 : decode cX7_workMake 131 = .ok (.iconst 1, 1) := by decide +kernel
theorem dX7_workMake_132 : decode cX7_workMake 132 = .ok (.iconst (-1), 1) := by decide +kernel
theorem dX7_workMake_133 : decode cX7_workMake 133 = .ok (.iconst 0, 1) := by decide +kernel
theorem dX7_workMake_134 : decode cX7_workMake 134 = .ok (.iload_n 1, 1) := by decide +kernel
theorem dX7_workMake_135 : decode cX7_workMake 135 = .ok (.invokevirtual 307, 3) := by decide +kernel
theorem dX7_workMake_138 : decode cX7_workMake 138 = .ok (.aload_n 0, 1) := by decide +kernel
theorem dX7_workMake_139 : decode cX7_workMake 139 = .ok (.iload_n 1, 1) := by decide +kernel
theorem dX7_workMake_140 : decode cX7_workMake 140 = .ok (.iload 6, 2) := by decide +kernel
theorem dX7_workMake_142 : decode cX7_workMake 142 = .ok (.iconst 2, 1) := by decide +kernel
theorem dX7_workMake_143 : decode cX7_workMake 143 = .ok (.invokevirtual 329, 3) := by decide +kernel
theorem dX7_workMake_146 : decode cX7_workMake 146 = .ok (.iinc 5 1, 3) := by decide +kernel
theorem dX7_workMake_149 : decode cX7_workMake 149 = .ok (.goto (-68), 3) := by decide +kernel
theorem dX7_workMake_152 : decode cX7_workMake 152 = .ok (.aload_n 0, 1) := by decide +kernel
theorem dX7_workMake_153 : decode cX7_workMake 153 = .ok (.iload_n 1, 1) := by decide +kernel
theorem dX7_workMake_154 : decode cX7_workMake 154 = .ok (.iconst 0, 1) := by decide +kernel
theorem dX7_workMake_155 : decode cX7_workMake 155 = .ok (.iload_n 1, 1) := by decide +kernel
theorem dX7_workMake_156 : decode cX7_workMake 156 = .ok (.invokevirtual 294, 3) := by decide +kernel
theorem dX7_workMake_159 : decode cX7_workMake 159 = .ok (.return_, 1) := by decide +kernel
theorem dX7_workFetch_0 : decode cX7_workFetch 0 = .ok (.aload_n 0, 1) := by decide +kernel
theorem dX7_workFetch_1 : decode cX7_workFetch 1 = .ok (.iload_n 1, 1) := by decide +kernel
theorem dX7_workFetch_2 : decode cX7_workFetch 2 = .ok (.aload_n 0, 1) := by decide +kernel
theorem dX7_workFetch_3 : decode cX7_workFetch 3 = .ok (.getfield 29, 3) := by decide +kernel
theorem dX7_workFetch_6 : decode cX7_workFetch 6 = .ok (.iload_n 2, 1) := by decide +kernel
theorem dX7_workFetch_7 : decode cX7_workFetch 7 = .ok (.iaload, 1) := by decide +kernel
theorem dX7_workFetch_8 : decode cX7_workFetch 8 = .ok (.invokevirtual 320, 3) := by decide +kernel
theorem dX7_workFetch_11 : decode cX7_workFetch 11 = .ok (.istore_n 3, 1) := by decide +kernel
theorem dX7_workFetch_12 : decode cX7_workFetch 12 = .ok (.aload_n 0, 1) := by decide +kernel
theorem dX7_workFetch_13 : decode cX7_workFetch 13 = .ok (.iload_n 1, 1) := by decide +kernel
theorem dX7_workFetch_14 : decode cX7_workFetch 14 = .ok (.aload_n 0, 1) := by decide +kernel
theorem dX7_workFetch_15 : decode cX7_workFetch 15 = .ok (.getfield 32, 3) := by decide +kernel
theorem dX7_workFetch_18 : decode cX7_workFetch 18 = .ok (.iload_n 2, 1) := by decide +kernel
theorem dX7_workFetch_19 : decode cX7_workFetch 19 = .ok (.iaload, 1) := by decide +kernel
theorem dX7_workFetch_20 : decode cX7_workFetch 20 = .ok (.invokevirtual 320, 3) := by decide +kernel
theorem dX7_workFetch_23 : decode cX7_workFetch 23 = .ok (.istore 4, 2) := by decide +kernel
theorem dX7_workFetch_25 : decode cX7_workFetch 25 = .ok (.aload_n 0, 1) := by decide +kernel
theorem dX7_workFetch_26 : decode cX7_workFetch 26 = .ok (.iload_n 3, 1) := by decide +kernel
theorem dX7_workFetch_27 : decode cX7_workFetch 27 = .ok (.invokevirtual 314, 3) := by decide +kernel
theorem dX7_workFetch_30 : decode cX7_workFetch 30 = .ok (.aload_n 0, 1) := by decide +kernel
theorem dX7_workFetch_31 : decode cX7_workFetch 31 = .ok (.iload 4, 2) := by decide +kernel
theorem dX7_workFetch_33 : decode cX7_workFetch 33 = .ok (.invokevirtual 314, 3) := by decide +kernel
theorem dX7_workFetch_36 : decode cX7_workFetch 36 = .ok (.aload_n 0, 1) := by decide +kernel
theorem dX7_workFetch_37 : decode cX7_workFetch 37 = .ok (.getfield 94, 3) := by decide +kernel
theorem dX7_workFetch_40 : decode cX7_workFetch 40 = .ok (.iload_n 3, 1) := by decide +kernel
theorem dX7_workFetch_41 : decode cX7_workFetch 41 = .ok (.baload, 1) := by decide +kernel
theorem dX7_workFetch_42 : decode cX7_workFetch 42 = .ok (.ifCond .eq 13, 3) := by decide +kernel
theorem dX7_workFetch_45 : decode cX7_workFetch 45 = .ok (.aload_n 0, 1) := by decide +kernel
theorem dX7_workFetch_46 : decode cX7_workFetch 46 = .ok (.getfield 94, 3) := by decide +kernel
theorem dX7_workFetch_49 : decode cX7_workFetch 49 = .ok (.iload 4, 2) := by decide +kernel
theorem dX7_workFetch_51 : decode cX7_workFetch 51 = .ok (.baload, 1) := by decide +kernel
theorem dX7_workFetch_52 : decode cX7_workFetch 52 = .ok (.ifCond .ne 4, 3) := by decide +kernel
theorem dX7_workFetch_55 : decode cX7_workFetch 55 = .ok (.return_, 1) := by decide +kernel
theorem dX7_workFetch_56 : decode cX7_workFetch 56 = .ok (.aload_n 0, 1) := by decide +kernel
theorem dX7_workFetch_57 : decode cX7_workFetch 57 = .ok (.iload 4, 2) := by decide +kernel
theorem dX7_workFetch_59 : decode cX7_workFetch 59 = .ok (.invokevirtual 335, 3) := by decide +kernel
theorem dX7_workFetch_62 : decode cX7_workFetch 62 = .ok (.istore 5, 2) := by decide +kernel
theorem dX7_workFetch_64 : decode cX7_workFetch 64 = .ok (.aload_n 0, 1) := by decide +kernel
theorem dX7_workFetch_65 : decode cX7_workFetch 65 = .ok (.getfield 100, 3) := by decide +kernel
theorem dX7_workFetch_68 : decode cX7_workFetch 68 = .ok (.iload_n 3, 1) := by decide +kernel
theorem dX7_workFetch_69 : decode cX7_workFetch 69 = .ok (.iaload, 1) := by decide +kernel
theorem dX7_workFetch_70 : decode cX7_workFetch 70 = .ok (.iconst (-1), 1) := by decide +kernel
theorem dX7_workFetch_71 : decode cX7_workFetch 71 = .ok (.if_icmp .eq 24, 3) := by decide +kernel
theorem dX7_workFetch_74 : decode cX7_workFetch 74 = .ok (.iload 5, 2) := by decide +kernel
theorem dX7_workFetch_76 : decode cX7_workFetch 76 = .ok (.ifCond .lt 19, 3) := by decide +kernel
theorem dX7_workFetch_79 : decode cX7_workFetch 79 = .ok (.iload 5, 2) := by decide +kernel
theorem dX7_workFetch_81 : decode cX7_workFetch 81 = .ok (.aload_n 0, 1) := by decide +kernel
theorem dX7_workFetch_82 : decode cX7_workFetch 82 = .ok (.getfield 106, 3) := by decide +kernel
theorem dX7_workFetch_85 : decode cX7_workFetch 85 = .ok (.aload_n 0, 1) := by decide +kernel
theorem dX7_workFetch_86 : decode cX7_workFetch 86 = .ok (.getfield 100, 3) := by decide +kernel
theorem dX7_workFetch_89 : decode cX7_workFetch 89 = .ok (.iload_n 3, 1) := by decide +kernel
theorem dX7_workFetch_90 : decode cX7_workFetch 90 = .ok (.iaload, 1) := by decide +kernel
theorem dX7_workFetch_91 : decode cX7_workFetch 91 = .ok (.iaload, 1) := by decide +kernel
theorem dX7_workFetch_92 : decode cX7_workFetch 92 = .ok (.if_icmp .lt 13, 3) := by decide +kernel
theorem dX7_workFetch_95 : decode cX7_workFetch 95 = .ok (.aload_n 0, 1) := by decide +kernel
theorem dX7_workFetch_96 : decode cX7_workFetch 96 = .ok (.iload_n 1, 1) := by decide +kernel
theorem dX7_workFetch_97 : decode cX7_workFetch 97 = .ok (.iconst 0, 1) := by decide +kernel
theorem dX7_workFetch_98 : decode cX7_workFetch 98 = .ok (.iconst (-1), 1) := by decide +kernel
theorem dX7_workFetch_99 : decode cX7_workFetch 99 = .ok (.invokevirtual 294, 3) := by decide +kernel
theorem dX7_workFetch_102 : decode cX7_workFetch 102 = .ok (.goto 26, 3) := by decide +kernel
theorem dX7_workFetch_105 : decode cX7_workFetch 105 = .ok (.aload_n 0, 1) := by decide +kernel
theorem dX7_workFetch_106 : decode cX7_workFetch 106 = .ok (.iload_n 1, 1) := by decide +kernel
theorem dX7_workFetch_107 : decode cX7_workFetch 107 = .ok (.aload_n 0, 1) := by decide +kernel
theorem dX7_workFetch_108 : decode cX7_workFetch 108 = .ok (.aload_n 0, 1) := by decide +kernel
theorem dX7_workFetch_109 : decode cX7_workFetch 109 = .ok (.getfield 103, 3) := by decide +kernel
theorem dX7_workFetch_112 : decode cX7_workFetch 112 = .ok (.aload_n 0, 1) := by decide +kernel
theorem dX7_workFetch_113 : decode cX7_workFetch 113 = .ok (.getfield 100, 3) := by decide +kernel
theorem dX7_workFetch_116 : decode cX7_workFetch 116 = .ok (.iload_n 3, 1) := by decide +kernel
theorem dX7_workFetch_117 : decode cX7_workFetch 117 = .ok (.iaload, 1) := by decide +kernel
theorem dX7_workFetch_118 : decode cX7_workFetch 118 = .ok (.iaload, 1) := by decide +kernel
theorem dX7_workFetch_119 : decode cX7_workFetch 119 = .ok (.iload 5, 2) := by decide +kernel
theorem dX7_workFetch_121 : decode cX7_workFetch 121 = .ok (.iadd, 1) := by decide +kernel
theorem dX7_workFetch_122 : decode cX7_workFetch 122 = .ok (.invokevirtual 311, 3) := by decide +kernel
theorem dX7_workFetch_125 : decode cX7_workFetch 125 = .ok (.invokevirtual 332, 3) := by decide +kernel
theorem dX7_workFetch_128 : decode cX7_workFetch 128 = .ok (.return_, 1) := by decide +kernel
theorem dX7_workIf_0 : decode cX7_workIf 0 = .ok (.aload_n 0, 1) := by decide +kernel
theorem dX7_workIf_1 : decode cX7_workIf 1 = .ok (.iload_n 1, 1) := by decide +kernel
theorem dX7_workIf_2 : decode cX7_workIf 2 = .ok (.aload_n 0, 1) := by decide +kernel
theorem dX7_workIf_3 : decode cX7_workIf 3 = .ok (.getfield 29, 3) := by decide +kernel
theorem dX7_workIf_6 : decode cX7_workIf 6 = .ok (.iload_n 2, 1) := by decide +kernel
theorem dX7_workIf_7 : decode cX7_workIf 7 = .ok (.iaload, 1) := by decide +kernel
theorem dX7_workIf_8 : decode cX7_workIf 8 = .ok (.invokevirtual 320, 3) := by decide +kernel
theorem dX7_workIf_11 : decode cX7_workIf 11 = .ok (.istore_n 3, 1) := by decide +kernel
theorem dX7_workIf_12 : decode cX7_workIf 12 = .ok (.aload_n 0, 1) := by decide +kernel
theorem dX7_workIf_13 : decode cX7_workIf 13 = .ok (.iload_n 3, 1) := by decide +kernel
theorem dX7_workIf_14 : decode cX7_workIf 14 = .ok (.invokevirtual 314, 3) := by decide +kernel
theorem dX7_workIf_17 : decode cX7_workIf 17 = .ok (.aload_n 0, 1) := by decide +kernel
theorem dX7_workIf_18 : decode cX7_workIf 18 = .ok (.getfield 94, 3) := by decide +kernel
theorem dX7_workIf_21 : decode cX7_workIf 21 = .ok (.iload_n 3, 1) := by decide +kernel
theorem dX7_workIf_22 : decode cX7_workIf 22 = .ok (.baload, 1) := by decide +kernel
theorem dX7_workIf_23 : decode cX7_workIf 23 = .ok (.ifCond .eq 46, 3) := by decide +kernel
theorem dX7_workIf_26 : decode cX7_workIf 26 = .ok (.aload_n 0, 1) := by decide +kernel
theorem dX7_workIf_27 : decode cX7_workIf 27 = .ok (.iload_n 1, 1) := by decide +kernel
theorem dX7_workIf_28 : decode cX7_workIf 28 = .ok (.aload_n 0, 1) := by decide +kernel
theorem dX7_workIf_29 : decode cX7_workIf 29 = .ok (.iload_n 3, 1) := by decide +kernel
theorem dX7_workIf_30 : decode cX7_workIf 30 = .ok (.invokevirtual 335, 3) := by decide +kernel
theorem dX7_workIf_33 : decode cX7_workIf 33 = .ok (.ifCond .eq 12, 3) := by decide +kernel
theorem dX7_workIf_36 : decode cX7_workIf 36 = .ok (.aload_n 0, 1) := by decide +kernel
theorem dX7_workIf_37 : decode cX7_workIf 37 = .ok (.getfield 32, 3) := by decide +kernel
theorem dX7_workIf_40 : decode cX7_workIf 40 = .ok (.iload_n 2, 1) := by decide +kernel
theorem dX7_workIf_41 : decode cX7_workIf 41 = .ok (.iaload, 1) := by decide +kernel
theorem dX7_workIf_42 : decode cX7_workIf 42 = .ok (.goto 9, 3) := by decide +kernel
theorem dX7_workIf_45 : decode cX7_workIf 45 = .ok (.aload_n 0, 1) := by decide +kernel
theorem dX7_workIf_46 : decode cX7_workIf 46 = .ok (.getfield 35, 3) := by decide +kernel
theorem dX7_workIf_49 : decode cX7_workIf 49 = .ok (.iload_n 2, 1) := by decide +kernel
theorem dX7_workIf_50 : decode cX7_workIf 50 = .ok (.iaload, 1) := by decide +kernel
theorem dX7_workIf_51 : decode cX7_workIf 51 = .ok (.invokevirtual 320, 3) := by decide +kernel
theorem dX7_workIf_54 : decode cX7_workIf 54 = .ok (.istore 4, 2) := by decide +kernel
theorem dX7_workIf_56 : decode cX7_workIf 56 = .ok (.aload_n 0, 1) := by decide +kernel
theorem dX7_workIf_57 : decode cX7_workIf 57 = .ok (.iload 4, 2) := by decide +kernel
theorem dX7_workIf_59 : decode cX7_workIf 59 = .ok (.invokevirtual 314, 3) := by decide +kernel
theorem dX7_workIf_62 : decode cX7_workIf 62 = .ok (.aload_n 0, 1) := by decide +kernel
theorem dX7_workIf_63 : decode cX7_workIf 63 = .ok (.iload_n 1, 1) := by decide +kernel
theorem dX7_workIf_64 : decode cX7_workIf 64 = .ok (.iload 4, 2) := by decide +kernel
theorem dX7_workIf_66 : decode cX7_workIf 66 = .ok (.invokevirtual 332, 3) := by decide +kernel
theorem dX7_workIf_69 : decode cX7_workIf 69 = .ok (.return_, 1) := by decide +kernel
theorem dX7_workArgument_0 : decode cX7_workArgument 0 = .ok (.bipush 6, 2) := by decide +kernel
theorem dX7_workArgument_2 : decode cX7_workArgument 2 = .ok (.iload_n 1, 1) := by decide +kernel
theorem dX7_workArgument_3 : decode cX7_workArgument 3 = .ok (.bipush 60, 2) := by decide +kernel
theorem dX7_workArgument_5 : decode cX7_workArgument 5 = .ok (.idiv, 1) := by decide +kernel
theorem dX7_workArgument_6 : decode cX7_workArgument 6 = .ok (.imul, 1) := by decide +kernel
theorem dX7_workArgument_7 : decode cX7_workArgument 7 = .ok (.aload_n 0, 1) := by decide +kernel
theorem dX7_workArgument_8 : decode cX7_workArgument 8 = .ok (.getfield 26, 3) := by decide +kernel
theorem dX7_workArgument_11 : decode cX7_workArgument 11 = .ok (.iload_n 2, 1) := by decide +kernel
theorem dX7_workArgument_12 : decode cX7_workArgument 12 = .ok (.iaload, 1) := by decide +kernel
theorem dX7_workArgument_13 : decode cX7_workArgument 13 = .ok (.iadd, 1) := by decide +kernel
theorem dX7_workArgument_14 : decode cX7_workArgument 14 = .ok (.istore_n 3, 1) := by decide +kernel
theorem dX7_workArgument_15 : decode cX7_workArgument 15 = .ok (.aload_n 0, 1) := by decide +kernel
theorem dX7_workArgument_16 : decode cX7_workArgument 16 = .ok (.getfield 81, 3) := by decide +kernel
theorem dX7_workArgument_19 : decode cX7_workArgument 19 = .ok (.iload_n 3, 1) := by decide +kernel
theorem dX7_workArgument_20 : decode cX7_workArgument 20 = .ok (.iaload, 1) := by decide +kernel
theorem dX7_workArgument_21 : decode cX7_workArgument 21 = .ok (.iconst (-1), 1) := by decide +kernel
theorem dX7_workArgument_22 : decode cX7_workArgument 22 = .ok (.if_icmp .ne 23, 3) := by decide +kernel
theorem dX7_workArgument_25 : decode cX7_workArgument 25 = .ok (.aload_n 0, 1) := by decide +kernel
theorem dX7_workArgument_26 : decode cX7_workArgument 26 = .ok (.iload_n 1, 1) := by decide +kernel
theorem dX7_workArgument_27 : decode cX7_workArgument 27 = .ok (.aload_n 0, 1) := by decide +kernel
theorem dX7_workArgument_28 : decode cX7_workArgument 28 = .ok (.getfield 84, 3) := by decide +kernel
theorem dX7_workArgument_31 : decode cX7_workArgument 31 = .ok (.iload_n 3, 1) := by decide +kernel
theorem dX7_workArgument_32 : decode cX7_workArgument 32 = .ok (.iaload, 1) := by decide +kernel
theorem dX7_workArgument_33 : decode cX7_workArgument 33 = .ok (.aload_n 0, 1) := by decide +kernel
theorem dX7_workArgument_34 : decode cX7_workArgument 34 = .ok (.getfield 87, 3) := by decide +kernel
theorem dX7_workArgument_37 : decode cX7_workArgument 37 = .ok (.iload_n 3, 1) := by decide +kernel
theorem dX7_workArgument_38 : decode cX7_workArgument 38 = .ok (.iaload, 1) := by decide +kernel
theorem dX7_workArgument_39 : decode cX7_workArgument 39 = .ok (.invokevirtual 294, 3) := by decide +kernel
theorem dX7_workArgument_42 : decode cX7_workArgument 42 = .ok (.goto 14, 3) := by decide +kernel
theorem dX7_workArgument_45 : decode cX7_workArgument 45 = .ok (.aload_n 0, 1) := by decide +kernel
theorem dX7_workArgument_46 : decode cX7_workArgument 46 = .ok (.iload_n 1, 1) := by decide +kernel
theorem dX7_workArgument_47 : decode cX7_workArgument 47 = .ok (.aload_n 0, 1) := by decide +kernel
theorem dX7_workArgument_48 : decode cX7_workArgument 48 = .ok (.getfield 81, 3) := by decide +kernel
theorem dX7_workArgument_51 : decode cX7_workArgument 51 = .ok (.iload_n 3, 1) := by decide +kernel
theorem dX7_workArgument_52 : decode cX7_workArgument 52 = .ok (.iaload, 1) := by decide +kernel
theorem dX7_workArgument_53 : decode cX7_workArgument 53 = .ok (.invokevirtual 332, 3) := by decide +kernel
theorem dX7_workArgument_56 : decode cX7_workArgument 56 = .ok (.return_, 1) := by decide +kernel
theorem dX7_work_0 : decode cX7_work 0 = .ok (.aload_n 0, 1) := by decide +kernel
theorem dX7_work_1 : decode cX7_work 1 = .ok (.iload_n 1, 1) := by decide +kernel
theorem dX7_work_2 : decode cX7_work 2 = .ok (.invokevirtual 317, 3) := by decide +kernel
theorem dX7_work_5 : decode cX7_work 5 = .ok (.istore_n 2, 1) := by decide +kernel
theorem dX7_work_6 : decode cX7_work 6 = .ok (.aload_n 0, 1) := by decide +kernel
theorem dX7_work_7 : decode cX7_work 7 = .ok (.getfield 23, 3) := by decide +kernel
theorem dX7_work_10 : decode cX7_work 10 = .ok (.iload_n 2, 1) := by decide +kernel
theorem dX7_work_11 : decode cX7_work 11 = .ok (.iaload, 1) := by decide +kernel
theorem dX7_work_12 : decode cX7_work 12 = .ok (.istore_n 3, 1) := by decide +kernel
theorem dX7_work_13 : decode cX7_work 13 = .ok (.iload_n 3, 1) := by decide +kernel
theorem dX7_work_14 : decode cX7_work 14 = .ok (.iconst 1, 1) := by decide +kernel
theorem dX7_work_15 : decode cX7_work 15 = .ok (.if_icmp .ne 18, 3) := by decide +kernel
theorem dX7_work_18 : decode cX7_work 18 = .ok (.aload_n 0, 1) := by decide +kernel
theorem dX7_work_19 : decode cX7_work 19 = .ok (.iload_n 1, 1) := by decide +kernel
theorem dX7_work_20 : decode cX7_work 20 = .ok (.aload_n 0, 1) := by decide +kernel
theorem dX7_work_21 : decode cX7_work 21 = .ok (.getfield 26, 3) := by decide +kernel
theorem dX7_work_24 : decode cX7_work 24 = .ok (.iload_n 2, 1) := by decide +kernel
theorem dX7_work_25 : decode cX7_work 25 = .ok (.iaload, 1) := by decide +kernel
theorem dX7_work_26 : decode cX7_work 26 = .ok (.iconst (-1), 1) := by decide +kernel
theorem dX7_work_27 : decode cX7_work 27 = .ok (.invokevirtual 294, 3) := by decide +kernel
theorem dX7_work_30 : decode cX7_work 30 = .ok (.goto 290, 3) := by decide +kernel
theorem dX7_work_33 : decode cX7_work 33 = .ok (.iload_n 3, 1) := by decide +kernel
theorem dX7_work_34 : decode cX7_work 34 = .ok (.iconst 2, 1) := by decide +kernel
theorem dX7_work_35 : decode cX7_work 35 = .ok (.if_icmp .ne 12, 3) := by decide +kernel
theorem dX7_work_38 : decode cX7_work 38 = .ok (.aload_n 0, 1) := by decide +kernel
theorem dX7_work_39 : decode cX7_work 39 = .ok (.iload_n 1, 1) := by decide +kernel
theorem dX7_work_40 : decode cX7_work 40 = .ok (.iload_n 2, 1) := by decide +kernel
theorem dX7_work_41 : decode cX7_work 41 = .ok (.invokevirtual 338, 3) := by decide +kernel
theorem dX7_work_44 : decode cX7_work 44 = .ok (.goto 276, 3) := by decide +kernel
theorem dX7_work_47 : decode cX7_work 47 = .ok (.iload_n 3, 1) := by decide +kernel
theorem dX7_work_48 : decode cX7_work 48 = .ok (.iconst 3, 1) := by decide +kernel
theorem dX7_work_49 : decode cX7_work 49 = .ok (.if_icmp .ne 22, 3) := by decide +kernel
theorem dX7_work_52 : decode cX7_work 52 = .ok (.aload_n 0, 1) := by decide +kernel
theorem dX7_work_53 : decode cX7_work 53 = .ok (.iload_n 1, 1) := by decide +kernel
theorem dX7_work_54 : decode cX7_work 54 = .ok (.aload_n 0, 1) := by decide +kernel
theorem dX7_work_55 : decode cX7_work 55 = .ok (.iload_n 1, 1) := by decide +kernel
theorem dX7_work_56 : decode cX7_work 56 = .ok (.aload_n 0, 1) := by decide +kernel
theorem dX7_work_57 : decode cX7_work 57 = .ok (.getfield 29, 3) := by decide +kernel
theorem dX7_work_60 : decode cX7_work 60 = .ok (.iload_n 2, 1) := by decide +kernel
theorem dX7_work_61 : decode cX7_work 61 = .ok (.iaload, 1) := by decide +kernel
theorem dX7_work_62 : decode cX7_work 62 = .ok (.invokevirtual 320, 3) := by decide +kernel
theorem dX7_work_65 : decode cX7_work 65 = .ok (.invokevirtual 332, 3) := by decide +kernel
theorem dX7_work_68 : decode cX7_work 68 = .ok (.goto 252, 3) := by decide +kernel
theorem dX7_work_71 : decode cX7_work 71 = .ok (.iload_n 3, 1) := by decide +kernel
theorem dX7_work_72 : decode cX7_work 72 = .ok (.iconst 4, 1) := by decide +kernel
theorem dX7_work_73 : decode cX7_work 73 = .ok (.if_icmp .ne 48, 3) := by decide +kernel
theorem dX7_work_76 : decode cX7_work 76 = .ok (.aload_n 0, 1) := by decide +kernel
theorem dX7_work_77 : decode cX7_work 77 = .ok (.iload_n 1, 1) := by decide +kernel
theorem dX7_work_78 : decode cX7_work 78 = .ok (.aload_n 0, 1) := by decide +kernel
theorem dX7_work_79 : decode cX7_work 79 = .ok (.getfield 29, 3) := by decide +kernel
theorem dX7_work_82 : decode cX7_work 82 = .ok (.iload_n 2, 1) := by decide +kernel
theorem dX7_work_83 : decode cX7_work 83 = .ok (.iaload, 1) := by decide +kernel
theorem dX7_work_84 : decode cX7_work 84 = .ok (.invokevirtual 320, 3) := by decide +kernel
theorem dX7_work_87 : decode cX7_work 87 = .ok (.istore 4, 2) := by decide +kernel
theorem dX7_work_89 : decode cX7_work 89 = .ok (.aload_n 0, 1) := by decide +kernel
theorem dX7_work_90 : decode cX7_work 90 = .ok (.iload 4, 2) := by decide +kernel
theorem dX7_work_92 : decode cX7_work 92 = .ok (.invokevirtual 314, 3) := by decide +kernel
theorem dX7_work_95 : decode cX7_work 95 = .ok (.aload_n 0, 1) := by decide +kernel
theorem dX7_work_96 : decode cX7_work 96 = .ok (.getfield 94, 3) := by decide +kernel
theorem dX7_work_99 : decode cX7_work 99 = .ok (.iload 4, 2) := by decide +kernel
theorem dX7_work_101 : decode cX7_work 101 = .ok (.baload, 1) := by decide +kernel
theorem dX7_work_102 : decode cX7_work 102 = .ok (.ifCond .eq 16, 3) := by decide +kernel
theorem dX7_work_105 : decode cX7_work 105 = .ok (.aload_n 0, 1) := by decide +kernel
theorem dX7_work_106 : decode cX7_work 106 = .ok (.iload_n 1, 1) := by decide +kernel
theorem dX7_work_107 : decode cX7_work 107 = .ok (.aload_n 0, 1) := by decide +kernel
theorem dX7_work_108 : decode cX7_work 108 = .ok (.iload 4, 2) := by decide +kernel
theorem dX7_work_110 : decode cX7_work 110 = .ok (.invokevirtual 335, 3) := by decide +kernel
theorem dX7_work_113 : decode cX7_work 113 = .ok (.ineg, 1) := by decide +kernel
theorem dX7_work_114 : decode cX7_work 114 = .ok (.iconst (-1), 1) := by decide +kernel
theorem dX7_work_115 : decode cX7_work 115 = .ok (.invokevirtual 294, 3) := by decide +kernel
theorem dX7_work_118 : decode cX7_work 118 = .ok (.goto 202, 3) := by decide +kernel
theorem dX7_work_121 : decode cX7_work 121 = .ok (.iload_n 3, 1) := by decide +kernel
theorem dX7_work_122 : decode cX7_work 122 = .ok (.iconst 5, 1) := by decide +kernel
theorem dX7_work_123 : decode cX7_work 123 = .ok (.if_icmp .ne 91, 3) := by decide +kernel
theorem dX7_work_126 : decode cX7_work 126 = .ok (.aload_n 0, 1) := by decide +kernel
theorem dX7_work_127 : decode cX7_work 127 = .ok (.iload_n 1, 1) := by decide +kernel
theorem dX7_work_128 : decode cX7_work 128 = .ok (.aload_n 0, 1) := by decide +kernel
theorem dX7_work_129 : decode cX7_work 129 = .ok (.getfield 29, 3) := by decide +kernel
theorem dX7_work_132 : decode cX7_work 132 = .ok (.iload_n 2, 1) := by decide +kernel
theorem dX7_work_133 : decode cX7_work 133 = .ok (.iaload, 1) := by decide +kernel
theorem dX7_work_134 : decode cX7_work 134 = .ok (.invokevirtual 320, 3) := by decide +kernel
theorem dX7_work_137 : decode cX7_work 137 = .ok (.istore 4, 2) := by decide +kernel
theorem dX7_work_139 : decode cX7_work 139 = .ok (.aload_n 0, 1) := by decide +kernel
theorem dX7_work_140 : decode cX7_work 140 = .ok (.iload_n 1, 1) := by decide +kernel
theorem dX7_work_141 : decode cX7_work 141 = .ok (.aload_n 0, 1) := by decide +kernel
theorem dX7_work_142 : decode cX7_work 142 = .ok (.getfield 32, 3) := by decide +kernel
theorem dX7_work_145 : decode cX7_work 145 = .ok (.iload_n 2, 1) := by decide +kernel
theorem dX7_work_146 : decode cX7_work 146 = .ok (.iaload, 1) := by decide +kernel
theorem dX7_work_147 : decode cX7_work 147 = .ok (.invokevirtual 320, 3) := by decide +kernel
theorem dX7_work_150 : decode cX7_work 150 = .ok (.istore 5, 2) := by decide +kernel
theorem dX7_work_152 : decode cX7_work 152 = .ok (.aload_n 0, 1) := by decide +kernel
theorem dX7_work_153 : decode cX7_work 153 = .ok (.iload 4, 2) := by decide +kernel
theorem dX7_work_155 : decode cX7_work 155 = .ok (.invokevirtual 314, 3) := by decide +kernel
theorem dX7_work_158 : decode cX7_work 158 = .ok (.aload_n 0, 1) := by decide +kernel
theorem dX7_work_159 : decode cX7_work 159 = .ok (.iload 5, 2) := by decide +kernel
theorem dX7_work_161 : decode cX7_work 161 = .ok (.invokevirtual 314, 3) := by decide +kernel
theorem dX7_work_164 : decode cX7_work 164 = .ok (.aload_n 0, 1) := by decide +kernel
theorem dX7_work_165 : decode cX7_work 165 = .ok (.getfield 94, 3) := by decide +kernel
theorem dX7_work_168 : decode cX7_work 168 = .ok (.iload 4, 2) := by decide +kernel
theorem dX7_work_170 : decode cX7_work 170 = .ok (.baload, 1) := by decide +kernel
theorem dX7_work_171 : decode cX7_work 171 = .ok (.ifCond .eq 40, 3) := by decide +kernel
theorem dX7_work_174 : decode cX7_work 174 = .ok (.aload_n 0, 1) := by decide +kernel
theorem dX7_work_175 : decode cX7_work 175 = .ok (.getfield 94, 3) := by decide +kernel
theorem dX7_work_178 : decode cX7_work 178 = .ok (.iload 5, 2) := by decide +kernel
theorem dX7_work_180 : decode cX7_work 180 = .ok (.baload, 1) := by decide +kernel
theorem dX7_work_181 : decode cX7_work 181 = .ok (.ifCond .eq 30, 3) := by decide +kernel
theorem dX7_work_184 : decode cX7_work 184 = .ok (.aload_n 0, 1) := by decide +kernel
theorem dX7_work_185 : decode cX7_work 185 = .ok (.iload_n 1, 1) := by decide +kernel
theorem dX7_work_186 : decode cX7_work 186 = .ok (.aload_n 0, 1) := by decide +kernel
theorem dX7_work_187 : decode cX7_work 187 = .ok (.getfield 26, 3) := by decide +kernel
theorem dX7_work_190 : decode cX7_work 190 = .ok (.iload_n 2, 1) := by decide +kernel
theorem dX7_work_191 : decode cX7_work 191 = .ok (.iaload, 1) := by decide +kernel
theorem dX7_work_192 : decode cX7_work 192 = .ok (.aload_n 0, 1) := by decide +kernel
theorem dX7_work_193 : decode cX7_work 193 = .ok (.iload 4, 2) := by decide +kernel
theorem dX7_work_195 : decode cX7_work 195 = .ok (.invokevirtual 335, 3) := by decide +kernel
theorem dX7_work_198 : decode cX7_work 198 = .ok (.aload_n 0, 1) := by decide +kernel
theorem dX7_work_199 : decode cX7_work 199 = .ok (.iload 5, 2) := by decide +kernel
theorem dX7_work_201 : decode cX7_work 201 = .ok (.invokevirtual 335, 3) := by decide +kernel
theorem dX7_work_204 : decode cX7_work 204 = .ok (.invokestatic 341, 3) := by decide +kernel
theorem dX7_work_207 : decode cX7_work 207 = .ok (.iconst (-1), 1) := by decide +kernel
theorem dX7_work_208 : decode cX7_work 208 = .ok (.invokevirtual 294, 3) := by decide +kernel
theorem dX7_work_211 : decode cX7_work 211 = .ok (.goto 109, 3) := by decide +kernel
theorem dX7_work_214 : decode cX7_work 214 = .ok (.iload_n 3, 1) := by decide +kernel
theorem dX7_work_215 : decode cX7_work 215 = .ok (.bipush 7, 2) := by decide +kernel
theorem dX7_work_217 : decode cX7_work 217 = .ok (.if_icmp .ne 52, 3) := by decide +kernel
theorem dX7_work_220 : decode cX7_work 220 = .ok (.aload_n 0, 1) := by decide +kernel
theorem dX7_work_221 : decode cX7_work 221 = .ok (.aload_n 0, 1) := by decide +kernel
theorem dX7_work_222 : decode cX7_work 222 = .ok (.iload_n 1, 1) := by decide +kernel
theorem dX7_work_223 : decode cX7_work 223 = .ok (.aload_n 0, 1) := by decide +kernel
theorem dX7_work_224 : decode cX7_work 224 = .ok (.getfield 29, 3) := by decide +kernel
theorem dX7_work_227 : decode cX7_work 227 = .ok (.iload_n 2, 1) := by decide +kernel
theorem dX7_work_228 : decode cX7_work 228 = .ok (.iaload, 1) := by decide +kernel
theorem dX7_work_229 : decode cX7_work 229 = .ok (.invokevirtual 320, 3) := by decide +kernel
theorem dX7_work_232 : decode cX7_work 232 = .ok (.invokevirtual 314, 3) := by decide +kernel
theorem dX7_work_235 : decode cX7_work 235 = .ok (.aload_n 0, 1) := by decide +kernel
theorem dX7_work_236 : decode cX7_work 236 = .ok (.aload_n 0, 1) := by decide +kernel
theorem dX7_work_237 : decode cX7_work 237 = .ok (.iload_n 1, 1) := by decide +kernel
theorem dX7_work_238 : decode cX7_work 238 = .ok (.aload_n 0, 1) := by decide +kernel
theorem dX7_work_239 : decode cX7_work 239 = .ok (.getfield 32, 3) := by decide +kernel
theorem dX7_work_242 : decode cX7_work 242 = .ok (.iload_n 2, 1) := by decide +kernel
theorem dX7_work_243 : decode cX7_work 243 = .ok (.iaload, 1) := by decide +kernel
theorem dX7_work_244 : decode cX7_work 244 = .ok (.invokevirtual 320, 3) := by decide +kernel
theorem dX7_work_247 : decode cX7_work 247 = .ok (.invokevirtual 314, 3) := by decide +kernel
theorem dX7_work_250 : decode cX7_work 250 = .ok (.aload_n 0, 1) := by decide +kernel
theorem dX7_work_251 : decode cX7_work 251 = .ok (.iload_n 1, 1) := by decide +kernel
theorem dX7_work_252 : decode cX7_work 252 = .ok (.aload_n 0, 1) := by decide +kernel
theorem dX7_work_253 : decode cX7_work 253 = .ok (.iload_n 1, 1) := by decide +kernel
theorem dX7_work_254 : decode cX7_work 254 = .ok (.aload_n 0, 1) := by decide +kernel
theorem dX7_work_255 : decode cX7_work 255 = .ok (.getfield 32, 3) := by decide +kernel
theorem dX7_work_258 : decode cX7_work 258 = .ok (.iload_n 2, 1) := by decide +kernel
theorem dX7_work_259 : decode cX7_work 259 = .ok (.iaload, 1) := by decide +kernel
theorem dX7_work_260 : decode cX7_work 260 = .ok (.invokevirtual 320, 3) := by decide +kernel
theorem dX7_work_263 : decode cX7_work 263 = .ok (.invokevirtual 332, 3) := by decide +kernel
theorem dX7_work_266 : decode cX7_work 266 = .ok (.goto 54, 3) := by decide +kernel
theorem dX7_work_269 : decode cX7_work 269 = .ok (.iload_n 3, 1) := by decide +kernel
theorem dX7_work_270 : decode cX7_work 270 = .ok (.bipush 6, 2) := by decide +kernel
theorem dX7_work_272 : decode cX7_work 272 = .ok (.if_icmp .ne 12, 3) := by decide +kernel
theorem dX7_work_275 : decode cX7_work 275 = .ok (.aload_n 0, 1) := by decide +kernel
theorem dX7_work_276 : decode cX7_work 276 = .ok (.iload_n 1, 1) := by decide +kernel
theorem dX7_work_277 : decode cX7_work 277 = .ok (.iload_n 2, 1) := by decide +kernel
theorem dX7_work_278 : decode cX7_work 278 = .ok (.invokevirtual 345, 3) := by decide +kernel
theorem dX7_work_281 : decode cX7_work 281 = .ok (.goto 39, 3) := by decide +kernel
theorem dX7_work_284 : decode cX7_work 284 = .ok (.iload_n 3, 1) := by decide +kernel
theorem dX7_work_285 : decode cX7_work 285 = .ok (.bipush 8, 2) := by decide +kernel
theorem dX7_work_287 : decode cX7_work 287 = .ok (.if_icmp .ne 12, 3) := by decide +kernel
theorem dX7_work_290 : decode cX7_work 290 = .ok (.aload_n 0, 1) := by decide +kernel
theorem dX7_work_291 : decode cX7_work 291 = .ok (.iload_n 1, 1) := by decide +kernel
theorem dX7_work_292 : decode cX7_work 292 = .ok (.iload_n 2, 1) := by decide +kernel
theorem dX7_work_293 : decode cX7_work 293 = .ok (.invokevirtual 348, 3) := by decide +kernel
theorem dX7_work_296 : decode cX7_work 296 = .ok (.goto 24, 3) := by decide +kernel
theorem dX7_work_299 : decode cX7_work 299 = .ok (.iload_n 3, 1) := by decide +kernel
theorem dX7_work_300 : decode cX7_work 300 = .ok (.bipush 9, 2) := by decide +kernel
theorem dX7_work_302 : decode cX7_work 302 = .ok (.if_icmp .ne 12, 3) := by decide +kernel
theorem dX7_work_305 : decode cX7_work 305 = .ok (.aload_n 0, 1) := by decide +kernel
theorem dX7_work_306 : decode cX7_work 306 = .ok (.iload_n 1, 1) := by decide +kernel
theorem dX7_work_307 : decode cX7_work 307 = .ok (.iload_n 2, 1) := by decide +kernel
theorem dX7_work_308 : decode cX7_work 308 = .ok (.invokevirtual 351, 3) := by decide +kernel
theorem dX7_work_311 : decode cX7_work 311 = .ok (.goto 9, 3) := by decide +kernel
theorem dX7_work_314 : decode cX7_work 314 = .ok (.aload_n 0, 1) := by decide +kernel
theorem dX7_work_315 : decode cX7_work 315 = .ok (.iload_n 1, 1) := by decide +kernel
theorem dX7_work_316 : decode cX7_work 316 = .ok (.iload_n 2, 1) := by decide +kernel
theorem dX7_work_317 : decode cX7_work 317 = .ok (.invokevirtual 354, 3) := by decide +kernel
theorem dX7_work_320 : decode cX7_work 320 = .ok (.return_, 1) := by decide +kernel
theorem dX7_run_0 : decode cX7_run 0 = .ok (.aload_n 0, 1) := by decide +kernel
theorem dX7_run_1 : decode cX7_run 1 = .ok (.aload_n 0, 1) := by decide +kernel
theorem dX7_run_2 : decode cX7_run 2 = .ok (.getfield 288, 3) := by decide +kernel
theorem dX7_run_5 : decode cX7_run 5 = .ok (.ifCond .ne 7, 3) := by decide +kernel
theorem dX7_run_8 : decode cX7_run 8 = .ok (.iconst 1, 1) := by decide +kernel
theorem dX7_run_9 : decode cX7_run 9 = .ok (.goto 20, 3) := by decide +kernel
theorem dX7_run_12 : decode cX7_run 12 = .ok (.iload_n 3, 1) := by decide +kernel
theorem dX7_run_13 : decode cX7_run 13 = .ok (.iconst 1, 1) := by decide +kernel
theorem dX7_run_14 : decode cX7_run 14 = .ok (.if_icmp .lt 10, 3) := by decide +kernel
theorem dX7_run_17 : decode cX7_run 17 = .ok (.iload_n 3, 1) := by decide +kernel
theorem dX7_run_18 : decode cX7_run 18 = .ok (.sipush 300, 3) := by decide +kernel
theorem dX7_run_21 : decode cX7_run 21 = .ok (.if_icmp .le 7, 3) := by decide +kernel
theorem dX7_run_24 : decode cX7_run 24 = .ok (.iconst 2, 1) := by decide +kernel
theorem dX7_run_25 : decode cX7_run 25 = .ok (.goto 4, 3) := by decide +kernel
theorem dX7_run_28 : decode cX7_run 28 = .ok (.iconst 0, 1) := by decide +kernel
theorem dX7_run_29 : decode cX7_run 29 = .ok (.putfield 116, 3) := by decide +kernel
theorem dX7_run_32 : decode cX7_run 32 = .ok (.aload_n 0, 1) := by decide +kernel
theorem dX7_run_33 : decode cX7_run 33 = .ok (.getfield 116, 3) := by decide +kernel
theorem dX7_run_36 : decode cX7_run 36 = .ok (.ifCond .le 5, 3) := by decide +kernel
theorem dX7_run_39 : decode cX7_run 39 = .ok (.iconst 0, 1) := by decide +kernel
theorem dX7_run_40 : decode cX7_run 40 = .ok (.ireturn, 1) := by decide +kernel
theorem dX7_run_41 : decode cX7_run 41 = .ok (.aload_n 0, 1) := by decide +kernel
theorem dX7_run_42 : decode cX7_run 42 = .ok (.iconst 0, 1) := by decide +kernel
theorem dX7_run_43 : decode cX7_run 43 = .ok (.putfield 298, 3) := by decide +kernel
theorem dX7_run_46 : decode cX7_run 46 = .ok (.aload_n 0, 1) := by decide +kernel
theorem dX7_run_47 : decode cX7_run 47 = .ok (.iload_n 3, 1) := by decide +kernel
theorem dX7_run_48 : decode cX7_run 48 = .ok (.putfield 301, 3) := by decide +kernel
theorem dX7_run_51 : decode cX7_run 51 = .ok (.aload_n 0, 1) := by decide +kernel
theorem dX7_run_52 : decode cX7_run 52 = .ok (.iconst 0, 1) := by decide +kernel
theorem dX7_run_53 : decode cX7_run 53 = .ok (.putfield 304, 3) := by decide +kernel
theorem dX7_run_56 : decode cX7_run 56 = .ok (.aload_n 0, 1) := by decide +kernel
theorem dX7_run_57 : decode cX7_run 57 = .ok (.iconst 0, 1) := by decide +kernel
theorem dX7_run_58 : decode cX7_run 58 = .ok (.invokevirtual 326, 3) := by decide +kernel
theorem dX7_run_61 : decode cX7_run 61 = .ok (.pop, 1) := by decide +kernel
theorem dX7_run_62 : decode cX7_run 62 = .ok (.aload_n 0, 1) := by decide +kernel
theorem dX7_run_63 : decode cX7_run 63 = .ok (.iconst 0, 1) := by decide +kernel
theorem dX7_run_64 : decode cX7_run 64 = .ok (.iconst 0, 1) := by decide +kernel
theorem dX7_run_65 : decode cX7_run 65 = .ok (.iconst (-1), 1) := by decide +kernel
theorem dX7_run_66 : decode cX7_run 66 = .ok (.iload_n 1, 1) := by decide +kernel
theorem dX7_run_67 : decode cX7_run 67 = .ok (.iconst (-1), 1) := by decide +kernel
theorem dX7_run_68 : decode cX7_run 68 = .ok (.invokevirtual 307, 3) := by decide +kernel
theorem dX7_run_71 : decode cX7_run 71 = .ok (.aload_n 0, 1) := by decide +kernel
theorem dX7_run_72 : decode cX7_run 72 = .ok (.iconst 0, 1) := by decide +kernel
theorem dX7_run_73 : decode cX7_run 73 = .ok (.iconst 1, 1) := by decide +kernel
theorem dX7_run_74 : decode cX7_run 74 = .ok (.iconst (-1), 1) := by decide +kernel
theorem dX7_run_75 : decode cX7_run 75 = .ok (.iload_n 2, 1) := by decide +kernel
theorem dX7_run_76 : decode cX7_run 76 = .ok (.iconst (-1), 1) := by decide +kernel
theorem dX7_run_77 : decode cX7_run 77 = .ok (.invokevirtual 307, 3) := by decide +kernel
theorem dX7_run_80 : decode cX7_run 80 = .ok (.aload_n 0, 1) := by decide +kernel
theorem dX7_run_81 : decode cX7_run 81 = .ok (.iconst 1, 1) := by decide +kernel
theorem dX7_run_82 : decode cX7_run 82 = .ok (.putfield 291, 3) := by decide +kernel
theorem dX7_run_85 : decode cX7_run 85 = .ok (.aload_n 0, 1) := by decide +kernel
theorem dX7_run_86 : decode cX7_run 86 = .ok (.getfield 291, 3) := by decide +kernel
theorem dX7_run_89 : decode cX7_run 89 = .ok (.ifCond .eq 124, 3) := by decide +kernel
theorem dX7_run_92 : decode cX7_run 92 = .ok (.aload_n 0, 1) := by decide +kernel
theorem dX7_run_93 : decode cX7_run 93 = .ok (.getfield 304, 3) := by decide +kernel
theorem dX7_run_96 : decode cX7_run 96 = .ok (.ifCond .ne 117, 3) := by decide +kernel
theorem dX7_run_99 : decode cX7_run 99 = .ok (.aload_n 0, 1) := by decide +kernel
theorem dX7_run_100 : decode cX7_run 100 = .ok (.iconst 0, 1) := by decide +kernel
theorem dX7_run_101 : decode cX7_run 101 = .ok (.putfield 291, 3) := by decide +kernel
theorem dX7_run_104 : decode cX7_run 104 = .ok (.iconst 0, 1) := by decide +kernel
theorem dX7_run_105 : decode cX7_run 105 = .ok (.istore 5, 2) := by decide +kernel
theorem dX7_run_107 : decode cX7_run 107 = .ok (.iload 5, 2) := by decide +kernel
theorem dX7_run_109 : decode cX7_run 109 = .ok (.aload_n 0, 1) := by decide +kernel
theorem dX7_run_110 : decode cX7_run 110 = .ok (.getfield 298, 3) := by decide +kernel
theorem dX7_run_113 : decode cX7_run 113 = .ok (.if_icmp .ge 97, 3) := by decide +kernel
theorem dX7_run_116 : decode cX7_run 116 = .ok (.aload_n 0, 1) := by decide +kernel
theorem dX7_run_117 : decode cX7_run 117 = .ok (.getfield 304, 3) := by decide +kernel
theorem dX7_run_120 : decode cX7_run 120 = .ok (.ifCond .ne 90, 3) := by decide +kernel
theorem dX7_run_123 : decode cX7_run 123 = .ok (.aload_n 0, 1) := by decide +kernel
theorem dX7_run_124 : decode cX7_run 124 = .ok (.getfield 17, 3) := by decide +kernel
theorem dX7_run_127 : decode cX7_run 127 = .ok (.bipush 12, 2) := by decide +kernel
theorem dX7_run_129 : decode cX7_run 129 = .ok (.aload_n 0, 1) := by decide +kernel
theorem dX7_run_130 : decode cX7_run 130 = .ok (.getfield 182, 3) := by decide +kernel
theorem dX7_run_133 : decode cX7_run 133 = .ok (.imul, 1) := by decide +kernel
theorem dX7_run_134 : decode cX7_run 134 = .ok (.aload_n 0, 1) := by decide +kernel
theorem dX7_run_135 : decode cX7_run 135 = .ok (.getfield 78, 3) := by decide +kernel
theorem dX7_run_138 : decode cX7_run 138 = .ok (.iload 5, 2) := by decide +kernel
theorem dX7_run_140 : decode cX7_run 140 = .ok (.iaload, 1) := by decide +kernel
theorem dX7_run_141 : decode cX7_run 141 = .ok (.iadd, 1) := by decide +kernel
theorem dX7_run_142 : decode cX7_run 142 = .ok (.iaload, 1) := by decide +kernel
theorem dX7_run_143 : decode cX7_run 143 = .ok (.istore 6, 2) := by decide +kernel
theorem dX7_run_145 : decode cX7_run 145 = .ok (.bipush 60, 2) := by decide +kernel
theorem dX7_run_147 : decode cX7_run 147 = .ok (.iload 5, 2) := by decide +kernel
theorem dX7_run_149 : decode cX7_run 149 = .ok (.imul, 1) := by decide +kernel
theorem dX7_run_150 : decode cX7_run 150 = .ok (.istore 7, 2) := by decide +kernel
theorem dX7_run_152 : decode cX7_run 152 = .ok (.iload 7, 2) := by decide +kernel
theorem dX7_run_154 : decode cX7_run 154 = .ok (.bipush 60, 2) := by decide +kernel
theorem dX7_run_156 : decode cX7_run 156 = .ok (.iload 5, 2) := by decide +kernel
theorem dX7_run_158 : decode cX7_run 158 = .ok (.imul, 1) := by decide +kernel
theorem dX7_run_159 : decode cX7_run 159 = .ok (.iload 6, 2) := by decide +kernel
theorem dX7_run_161 : decode cX7_run 161 = .ok (.iadd, 1) := by decide +kernel
theorem dX7_run_162 : decode cX7_run 162 = .ok (.if_icmp .ge 42, 3) := by decide +kernel
theorem dX7_run_165 : decode cX7_run 165 = .ok (.aload_n 0, 1) := by decide +kernel
theorem dX7_run_166 : decode cX7_run 166 = .ok (.getfield 304, 3) := by decide +kernel
theorem dX7_run_169 : decode cX7_run 169 = .ok (.ifCond .ne 35, 3) := by decide +kernel
theorem dX7_run_172 : decode cX7_run 172 = .ok (.aload_n 0, 1) := by decide +kernel
theorem dX7_run_173 : decode cX7_run 173 = .ok (.getfield 90, 3) := by decide +kernel
theorem dX7_run_176 : decode cX7_run 176 = .ok (.iload 7, 2) := by decide +kernel
theorem dX7_run_178 : decode cX7_run 178 = .ok (.baload, 1) := by decide +kernel
theorem dX7_run_179 : decode cX7_run 179 = .ok (.ifCond .eq 19, 3) := by decide +kernel
theorem dX7_run_182 : decode cX7_run 182 = .ok (.aload_n 0, 1) := by decide +kernel
theorem dX7_run_183 : decode cX7_run 183 = .ok (.getfield 94, 3) := by decide +kernel
theorem dX7_run_186 : decode cX7_run 186 = .ok (.iload 7, 2) := by decide +kernel
theorem dX7_run_188 : decode cX7_run 188 = .ok (.baload, 1) := by decide +kernel
theorem dX7_run_189 : decode cX7_run 189 = .ok (.ifCond .ne 9, 3) := by decide +kernel
theorem dX7_run_192 : decode cX7_run 192 = .ok (.aload_n 0, 1) := by decide +kernel
theorem dX7_run_193 : decode cX7_run 193 = .ok (.iload 7, 2) := by decide +kernel
theorem dX7_run_195 : decode cX7_run 195 = .ok (.invokevirtual 357, 3) := by decide +kernel
theorem dX7_run_198 : decode cX7_run 198 = .ok (.iinc 7 1, 3) := by decide +kernel
theorem dX7_run_201 : decode cX7_run 201 = .ok (.goto (-49), 3) := by decide +kernel
theorem dX7_run_204 : decode cX7_run 204 = .ok (.iinc 5 1, 3) := by decide +kernel
theorem dX7_run_207 : decode cX7_run 207 = .ok (.goto (-100), 3) := by decide +kernel
theorem dX7_run_210 : decode cX7_run 210 = .ok (.goto (-125), 3) := by decide +kernel
theorem dX7_run_213 : decode cX7_run 213 = .ok (.aload_n 0, 1) := by decide +kernel
theorem dX7_run_214 : decode cX7_run 214 = .ok (.aload_n 0, 1) := by decide +kernel
theorem dX7_run_215 : decode cX7_run 215 = .ok (.getfield 304, 3) := by decide +kernel
theorem dX7_run_218 : decode cX7_run 218 = .ok (.ifCond .eq 7, 3) := by decide +kernel
theorem dX7_run_221 : decode cX7_run 221 = .ok (.iconst 2, 1) := by decide +kernel
theorem dX7_run_222 : decode cX7_run 222 = .ok (.goto 21, 3) := by decide +kernel
theorem dX7_run_225 : decode cX7_run 225 = .ok (.aload_n 0, 1) := by decide +kernel
theorem dX7_run_226 : decode cX7_run 226 = .ok (.getfield 94, 3) := by decide +kernel
theorem dX7_run_229 : decode cX7_run 229 = .ok (.aload_n 0, 1) := by decide +kernel
theorem dX7_run_230 : decode cX7_run 230 = .ok (.iconst 0, 1) := by decide +kernel
theorem dX7_run_231 : decode cX7_run 231 = .ok (.invokevirtual 311, 3) := by decide +kernel
theorem dX7_run_234 : decode cX7_run 234 = .ok (.baload, 1) := by decide +kernel
theorem dX7_run_235 : decode cX7_run 235 = .ok (.ifCond .eq 7, 3) := by decide +kernel
theorem dX7_run_238 : decode cX7_run 238 = .ok (.iconst 0, 1) := by decide +kernel
theorem dX7_run_239 : decode cX7_run 239 = .ok (.goto 4, 3) := by decide +kernel
theorem dX7_run_242 : decode cX7_run 242 = .ok (.iconst 1, 1) := by decide +kernel
theorem dX7_run_243 : decode cX7_run 243 = .ok (.putfield 109, 3) := by decide +kernel
theorem dX7_run_246 : decode cX7_run 246 = .ok (.aload_n 0, 1) := by decide +kernel
theorem dX7_run_247 : decode cX7_run 247 = .ok (.aload_n 0, 1) := by decide +kernel
theorem dX7_run_248 : decode cX7_run 248 = .ok (.getfield 109, 3) := by decide +kernel
theorem dX7_run_251 : decode cX7_run 251 = .ok (.ifCond .ne 15, 3) := by decide +kernel
theorem dX7_run_254 : decode cX7_run 254 = .ok (.aload_n 0, 1) := by decide +kernel
theorem dX7_run_255 : decode cX7_run 255 = .ok (.aload_n 0, 1) := by decide +kernel
theorem dX7_run_256 : decode cX7_run 256 = .ok (.iconst 0, 1) := by decide +kernel
theorem dX7_run_257 : decode cX7_run 257 = .ok (.invokevirtual 311, 3) := by decide +kernel
theorem dX7_run_260 : decode cX7_run 260 = .ok (.invokevirtual 335, 3) := by decide +kernel
theorem dX7_run_263 : decode cX7_run 263 = .ok (.goto 4, 3) := by decide +kernel
theorem dX7_run_266 : decode cX7_run 266 = .ok (.iconst 0, 1) := by decide +kernel
theorem dX7_run_267 : decode cX7_run 267 = .ok (.putfield 360, 3) := by decide +kernel
theorem dX7_run_270 : decode cX7_run 270 = .ok (.aload_n 0, 1) := by decide +kernel
theorem dX7_run_271 : decode cX7_run 271 = .ok (.invokevirtual 363, 3) := by decide +kernel
theorem dX7_run_274 : decode cX7_run 274 = .ok (.aload_n 0, 1) := by decide +kernel
theorem dX7_run_275 : decode cX7_run 275 = .ok (.getfield 109, 3) := by decide +kernel
theorem dX7_run_278 : decode cX7_run 278 = .ok (.ireturn, 1) := by decide +kernel
theorem dX7_tell_0 : decode cX7_tell 0 = .ok (.iconst 0, 1) := by decide +kernel
theorem dX7_tell_1 : decode cX7_tell 1 = .ok (.istore_n 1, 1) := by decide +kernel
theorem dX7_tell_2 : decode cX7_tell 2 = .ok (.iload_n 1, 1) := by decide +kernel
theorem dX7_tell_3 : decode cX7_tell 3 = .ok (.iconst 4, 1) := by decide +kernel
theorem dX7_tell_4 : decode cX7_tell 4 = .ok (.if_icmp .ge 16, 3) := by decide +kernel
theorem dX7_tell_7 : decode cX7_tell 7 = .ok (.aload_n 0, 1) := by decide +kernel
theorem dX7_tell_8 : decode cX7_tell 8 = .ok (.getfield 113, 3) := by decide +kernel
theorem dX7_tell_11 : decode cX7_tell 11 = .ok (.iload_n 1, 1) := by decide +kernel
theorem dX7_tell_12 : decode cX7_tell 12 = .ok (.iconst 0, 1) := by decide +kernel
theorem dX7_tell_13 : decode cX7_tell 13 = .ok (.iastore, 1) := by decide +kernel
theorem dX7_tell_14 : decode cX7_tell 14 = .ok (.iinc 1 1, 3) := by decide +kernel
theorem dX7_tell_17 : decode cX7_tell 17 = .ok (.goto (-15), 3) := by decide +kernel
theorem dX7_tell_20 : decode cX7_tell 20 = .ok (.aload_n 0, 1) := by decide +kernel
theorem dX7_tell_21 : decode cX7_tell 21 = .ok (.getfield 109, 3) := by decide +kernel
theorem dX7_tell_24 : decode cX7_tell 24 = .ok (.iconst 2, 1) := by decide +kernel
theorem dX7_tell_25 : decode cX7_tell 25 = .ok (.if_icmp .ne 4, 3) := by decide +kernel
theorem dX7_tell_28 : decode cX7_tell 28 = .ok (.return_, 1) := by decide +kernel
theorem dX7_tell_29 : decode cX7_tell 29 = .ok (.aload_n 0, 1) := by decide +kernel
theorem dX7_tell_30 : decode cX7_tell 30 = .ok (.getfield 113, 3) := by decide +kernel
theorem dX7_tell_33 : decode cX7_tell 33 = .ok (.iconst 0, 1) := by decide +kernel
theorem dX7_tell_34 : decode cX7_tell 34 = .ok (.aload_n 0, 1) := by decide +kernel
theorem dX7_tell_35 : decode cX7_tell 35 = .ok (.getfield 298, 3) := by decide +kernel
theorem dX7_tell_38 : decode cX7_tell 38 = .ok (.iastore, 1) := by decide +kernel
theorem dX7_tell_39 : decode cX7_tell 39 = .ok (.iconst 0, 1) := by decide +kernel
theorem dX7_tell_40 : decode cX7_tell 40 = .ok (.istore_n 1, 1) := by decide +kernel
theorem dX7_tell_41 : decode cX7_tell 41 = .ok (.iload_n 1, 1) := by decide +kernel
theorem dX7_tell_42 : decode cX7_tell 42 = .ok (.bipush 60, 2) := by decide +kernel
theorem dX7_tell_44 : decode cX7_tell 44 = .ok (.aload_n 0, 1) := by decide +kernel
theorem dX7_tell_45 : decode cX7_tell 45 = .ok (.getfield 298, 3) := by decide +kernel
theorem dX7_tell_48 : decode cX7_tell 48 = .ok (.imul, 1) := by decide +kernel
theorem dX7_tell_49 : decode cX7_tell 49 = .ok (.if_icmp .ge 180, 3) := by decide +kernel
theorem dX7_tell_52 : decode cX7_tell 52 = .ok (.iload_n 1, 1) := by decide +kernel
theorem dX7_tell_53 : decode cX7_tell 53 = .ok (.bipush 60, 2) := by decide +kernel
theorem dX7_tell_55 : decode cX7_tell 55 = .ok (.irem, 1) := by decide +kernel
theorem dX7_tell_56 : decode cX7_tell 56 = .ok (.aload_n 0, 1) := by decide +kernel
theorem dX7_tell_57 : decode cX7_tell 57 = .ok (.getfield 17, 3) := by decide +kernel
theorem dX7_tell_60 : decode cX7_tell 60 = .ok (.bipush 12, 2) := by decide +kernel
theorem dX7_tell_62 : decode cX7_tell 62 = .ok (.aload_n 0, 1) := by decide +kernel
theorem dX7_tell_63 : decode cX7_tell 63 = .ok (.getfield 182, 3) := by decide +kernel
theorem dX7_tell_66 : decode cX7_tell 66 = .ok (.imul, 1) := by decide +kernel
theorem dX7_tell_67 : decode cX7_tell 67 = .ok (.aload_n 0, 1) := by decide +kernel
theorem dX7_tell_68 : decode cX7_tell 68 = .ok (.getfield 78, 3) := by decide +kernel
theorem dX7_tell_71 : decode cX7_tell 71 = .ok (.iload_n 1, 1) := by decide +kernel
theorem dX7_tell_72 : decode cX7_tell 72 = .ok (.bipush 60, 2) := by decide +kernel
theorem dX7_tell_74 : decode cX7_tell 74 = .ok (.idiv, 1) := by decide +kernel
theorem dX7_tell_75 : decode cX7_tell 75 = .ok (.iaload, 1) := by decide +kernel
theorem dX7_tell_76 : decode cX7_tell 76 = .ok (.iadd, 1) := by decide +kernel
theorem dX7_tell_77 : decode cX7_tell 77 = .ok (.iaload, 1) := by decide +kernel
theorem dX7_tell_78 : decode cX7_tell 78 = .ok (.if_icmp .ge 16, 3) := by decide +kernel
theorem dX7_tell_81 : decode cX7_tell 81 = .ok (.aload_n 0, 1) := by decide +kernel
theorem dX7_tell_82 : decode cX7_tell 82 = .ok (.getfield 94, 3) := by decide +kernel
theorem dX7_tell_85 : decode cX7_tell 85 = .ok (.iload_n 1, 1) := by decide +kernel
theorem dX7_tell_86 : decode cX7_tell 86 = .ok (.baload, 1) := by decide +kernel
theorem dX7_tell_87 : decode cX7_tell 87 = .ok (.ifCond .eq 7, 3) := by decide +kernel
theorem dX7_tell_90 : decode cX7_tell 90 = .ok (.iconst 1, 1) := by decide +kernel
theorem dX7_tell_91 : decode cX7_tell 91 = .ok (.goto 4, 3) := by decide +kernel
theorem dX7_tell_94 : decode cX7_tell 94 = .ok (.iconst 0, 1) := by decide +kernel
theorem dX7_tell_95 : decode cX7_tell 95 = .ok (.istore_n 2, 1) := by decide +kernel
theorem dX7_tell_96 : decode cX7_tell 96 = .ok (.aload_n 0, 1) := by decide +kernel
theorem dX7_tell_97 : decode cX7_tell 97 = .ok (.getfield 113, 3) := by decide +kernel
theorem dX7_tell_100 : decode cX7_tell 100 = .ok (.iconst 1, 1) := by decide +kernel
theorem dX7_tell_101 : decode cX7_tell 101 = .ok (.dup2, 1) := by decide +kernel
theorem dX7_tell_102 : decode cX7_tell 102 = .ok (.iaload, 1) := by decide +kernel
theorem dX7_tell_103 : decode cX7_tell 103 = .ok (.iload_n 2, 1) := by decide +kernel
theorem dX7_tell_104 : decode cX7_tell 104 = .ok (.ifCond .eq 7, 3) := by decide +kernel
theorem dX7_tell_107 : decode cX7_tell 107 = .ok (.iconst 1, 1) := by decide +kernel
theorem dX7_tell_108 : decode cX7_tell 108 = .ok (.goto 4, 3) := by decide +kernel
theorem dX7_tell_111 : decode cX7_tell 111 = .ok (.iconst 0, 1) := by decide +kernel
theorem dX7_tell_112 : decode cX7_tell 112 = .ok (.iadd, 1) := by decide +kernel
theorem dX7_tell_113 : decode cX7_tell 113 = .ok (.iastore, 1) := by decide +kernel
theorem dX7_tell_114 : decode cX7_tell 114 = .ok (.aload_n 0, 1) := by decide +kernel
theorem dX7_tell_115 : decode cX7_tell 115 = .ok (.getfield 113, 3) := by decide +kernel
theorem dX7_tell_118 : decode cX7_tell 118 = .ok (.iconst 3, 1) := by decide +kernel
theorem dX7_tell_119 : decode cX7_tell 119 = .ok (.dup2, 1) := by decide +kernel
theorem dX7_tell_120 : decode cX7_tell 120 = .ok (.iaload, 1) := by decide +kernel
theorem dX7_tell_121 : decode cX7_tell 121 = .ok (.iload_n 2, 1) := by decide +kernel
theorem dX7_tell_122 : decode cX7_tell 122 = .ok (.ifCond .eq 27, 3) := by decide +kernel
theorem dX7_tell_125 : decode cX7_tell 125 = .ok (.aload_n 0, 1) := by decide +kernel
theorem dX7_tell_126 : decode cX7_tell 126 = .ok (.getfield 23, 3) := by decide +kernel
theorem dX7_tell_129 : decode cX7_tell 129 = .ok (.aload_n 0, 1) := by decide +kernel
theorem dX7_tell_130 : decode cX7_tell 130 = .ok (.iload_n 1, 1) := by decide +kernel
theorem dX7_tell_131 : decode cX7_tell 131 = .ok (.invokevirtual 317, 3) := by decide +kernel
theorem dX7_tell_134 : decode cX7_tell 134 = .ok (.iaload, 1) := by decide +kernel
theorem dX7_tell_135 : decode cX7_tell 135 = .ok (.bipush 9, 2) := by decide +kernel
theorem dX7_tell_137 : decode cX7_tell 137 = .ok (.if_icmp .ne 12, 3) := by decide +kernel
theorem dX7_tell_140 : decode cX7_tell 140 = .ok (.aload_n 0, 1) := by decide +kernel
theorem dX7_tell_141 : decode cX7_tell 141 = .ok (.getfield 106, 3) := by decide +kernel
theorem dX7_tell_144 : decode cX7_tell 144 = .ok (.iload_n 1, 1) := by decide +kernel
theorem dX7_tell_145 : decode cX7_tell 145 = .ok (.iaload, 1) := by decide +kernel
theorem dX7_tell_146 : decode cX7_tell 146 = .ok (.goto 4, 3) := by decide +kernel
theorem dX7_tell_149 : decode cX7_tell 149 = .ok (.iconst 0, 1) := by decide +kernel
theorem dX7_tell_150 : decode cX7_tell 150 = .ok (.iadd, 1) := by decide +kernel
theorem dX7_tell_151 : decode cX7_tell 151 = .ok (.iastore, 1) := by decide +kernel
theorem dX7_tell_152 : decode cX7_tell 152 = .ok (.iconst 0, 1) := by decide +kernel
theorem dX7_tell_153 : decode cX7_tell 153 = .ok (.istore_n 3, 1) := by decide +kernel
theorem dX7_tell_154 : decode cX7_tell 154 = .ok (.iload_n 3, 1) := by decide +kernel
theorem dX7_tell_155 : decode cX7_tell 155 = .ok (.aload_n 0, 1) := by decide +kernel
theorem dX7_tell_156 : decode cX7_tell 156 = .ok (.getfield 106, 3) := by decide +kernel
theorem dX7_tell_159 : decode cX7_tell 159 = .ok (.iload_n 1, 1) := by decide +kernel
theorem dX7_tell_160 : decode cX7_tell 160 = .ok (.iaload, 1) := by decide +kernel
theorem dX7_tell_161 : decode cX7_tell 161 = .ok (.if_icmp .ge 62, 3) := by decide +kernel
theorem dX7_tell_164 : decode cX7_tell 164 = .ok (.iload_n 2, 1) := by decide +kernel
theorem dX7_tell_165 : decode cX7_tell 165 = .ok (.ifCond .eq 58, 3) := by decide +kernel
theorem dX7_tell_168 : decode cX7_tell 168 = .ok (.aload_n 0, 1) := by decide +kernel
theorem dX7_tell_169 : decode cX7_tell 169 = .ok (.getfield 113, 3) := by decide +kernel
theorem dX7_tell_172 : decode cX7_tell 172 = .ok (.iconst 2, 1) := by decide +kernel
theorem dX7_tell_173 : decode cX7_tell 173 = .ok (.dup2, 1) := by decide +kernel
theorem dX7_tell_174 : decode cX7_tell 174 = .ok (.iaload, 1) := by decide +kernel
theorem dX7_tell_175 : decode cX7_tell 175 = .ok (.aload_n 0, 1) := by decide +kernel
theorem dX7_tell_176 : decode cX7_tell 176 = .ok (.getfield 23, 3) := by decide +kernel
theorem dX7_tell_179 : decode cX7_tell 179 = .ok (.aload_n 0, 1) := by decide +kernel
theorem dX7_tell_180 : decode cX7_tell 180 = .ok (.iload_n 1, 1) := by decide +kernel
theorem dX7_tell_181 : decode cX7_tell 181 = .ok (.invokevirtual 317, 3) := by decide +kernel
theorem dX7_tell_184 : decode cX7_tell 184 = .ok (.iaload, 1) := by decide +kernel
theorem dX7_tell_185 : decode cX7_tell 185 = .ok (.bipush 9, 2) := by decide +kernel
theorem dX7_tell_187 : decode cX7_tell 187 = .ok (.if_icmp .ne 27, 3) := by decide +kernel
theorem dX7_tell_190 : decode cX7_tell 190 = .ok (.aload_n 0, 1) := by decide +kernel
theorem dX7_tell_191 : decode cX7_tell 191 = .ok (.getfield 94, 3) := by decide +kernel
theorem dX7_tell_194 : decode cX7_tell 194 = .ok (.aload_n 0, 1) := by decide +kernel
theorem dX7_tell_195 : decode cX7_tell 195 = .ok (.aload_n 0, 1) := by decide +kernel
theorem dX7_tell_196 : decode cX7_tell 196 = .ok (.getfield 103, 3) := by decide +kernel
theorem dX7_tell_199 : decode cX7_tell 199 = .ok (.iload_n 1, 1) := by decide +kernel
theorem dX7_tell_200 : decode cX7_tell 200 = .ok (.iaload, 1) := by decide +kernel
theorem dX7_tell_201 : decode cX7_tell 201 = .ok (.iload_n 3, 1) := by decide +kernel
theorem dX7_tell_202 : decode cX7_tell 202 = .ok (.iadd, 1) := by decide +kernel
theorem dX7_tell_203 : decode cX7_tell 203 = .ok (.invokevirtual 311, 3) := by decide +kernel
theorem dX7_tell_206 : decode cX7_tell 206 = .ok (.baload, 1) := by decide +kernel
theorem dX7_tell_207 : decode cX7_tell 207 = .ok (.ifCond .eq 7, 3) := by decide +kernel
theorem dX7_tell_210 : decode cX7_tell 210 = .ok (.iconst 1, 1) := by decide +kernel
theorem dX7_tell_211 : decode cX7_tell 211 = .ok (.goto 4, 3) := by decide +kernel
theorem dX7_tell_214 : decode cX7_tell 214 = .ok (.iconst 0, 1) := by decide +kernel
theorem dX7_tell_215 : decode cX7_tell 215 = .ok (.iadd, 1) := by decide +kernel
theorem dX7_tell_216 : decode cX7_tell 216 = .ok (.iastore, 1) := by decide +kernel
theorem dX7_tell_217 : decode cX7_tell 217 = .ok (.iinc 3 1, 3) := by decide +kernel
theorem dX7_tell_220 : decode cX7_tell 220 = .ok (.goto (-66), 3) := by decide +kernel
theorem dX7_tell_223 : decode cX7_tell 223 = .ok (.iinc 1 1, 3) := by decide +kernel
theorem dX7_tell_226 : decode cX7_tell 226 = .ok (.goto (-185), 3) := by decide +kernel
theorem dX7_tell_229 : decode cX7_tell 229 = .ok (.return_, 1) := by decide +kernel
theorem dX7_value_0 : decode cX7_value 0 = .ok (.aload_n 0, 1) := by decide +kernel
theorem dX7_value_1 : decode cX7_value 1 = .ok (.iconst 0, 1) := by decide +kernel
theorem dX7_value_2 : decode cX7_value 2 = .ok (.putfield 116, 3) := by decide +kernel
theorem dX7_value_5 : decode cX7_value 5 = .ok (.aload_n 0, 1) := by decide +kernel
theorem dX7_value_6 : decode cX7_value 6 = .ok (.getfield 360, 3) := by decide +kernel
theorem dX7_value_9 : decode cX7_value 9 = .ok (.ireturn, 1) := by decide +kernel
theorem dX7_count_0 : decode cX7_count 0 = .ok (.aload_n 0, 1) := by decide +kernel
theorem dX7_count_1 : decode cX7_count 1 = .ok (.iload_n 1, 1) := by decide +kernel
theorem dX7_count_2 : decode cX7_count 2 = .ok (.ifCond .lt 8, 3) := by decide +kernel
theorem dX7_count_5 : decode cX7_count 5 = .ok (.iload_n 1, 1) := by decide +kernel
theorem dX7_count_6 : decode cX7_count 6 = .ok (.iconst 5, 1) := by decide +kernel
theorem dX7_count_7 : decode cX7_count 7 = .ok (.if_icmp .le 7, 3) := by decide +kernel
theorem dX7_count_10 : decode cX7_count 10 = .ok (.iconst 1, 1) := by decide +kernel
theorem dX7_count_11 : decode cX7_count 11 = .ok (.goto 4, 3) := by decide +kernel
theorem dX7_count_14 : decode cX7_count 14 = .ok (.iconst 0, 1) := by decide +kernel
theorem dX7_count_15 : decode cX7_count 15 = .ok (.putfield 116, 3) := by decide +kernel
theorem dX7_count_18 : decode cX7_count 18 = .ok (.aload_n 0, 1) := by decide +kernel
theorem dX7_count_19 : decode cX7_count 19 = .ok (.getfield 116, 3) := by decide +kernel
theorem dX7_count_22 : decode cX7_count 22 = .ok (.ifCond .le 7, 3) := by decide +kernel
theorem dX7_count_25 : decode cX7_count 25 = .ok (.iconst 0, 1) := by decide +kernel
theorem dX7_count_26 : decode cX7_count 26 = .ok (.goto 33, 3) := by decide +kernel
theorem dX7_count_29 : decode cX7_count 29 = .ok (.iload_n 1, 1) := by decide +kernel
theorem dX7_count_30 : decode cX7_count 30 = .ok (.iconst 4, 1) := by decide +kernel
theorem dX7_count_31 : decode cX7_count 31 = .ok (.if_icmp .ge 12, 3) := by decide +kernel
theorem dX7_count_34 : decode cX7_count 34 = .ok (.aload_n 0, 1) := by decide +kernel
theorem dX7_count_35 : decode cX7_count 35 = .ok (.getfield 113, 3) := by decide +kernel
theorem dX7_count_38 : decode cX7_count 38 = .ok (.iload_n 1, 1) := by decide +kernel
theorem dX7_count_39 : decode cX7_count 39 = .ok (.iaload, 1) := by decide +kernel
theorem dX7_count_40 : decode cX7_count 40 = .ok (.goto 19, 3) := by decide +kernel
theorem dX7_count_43 : decode cX7_count 43 = .ok (.iload_n 1, 1) := by decide +kernel
theorem dX7_count_44 : decode cX7_count 44 = .ok (.iconst 4, 1) := by decide +kernel
theorem dX7_count_45 : decode cX7_count 45 = .ok (.if_icmp .ne 10, 3) := by decide +kernel
theorem dX7_count_48 : decode cX7_count 48 = .ok (.aload_n 0, 1) := by decide +kernel
theorem dX7_count_49 : decode cX7_count 49 = .ok (.getfield 288, 3) := by decide +kernel
theorem dX7_count_52 : decode cX7_count 52 = .ok (.goto 7, 3) := by decide +kernel
theorem dX7_count_55 : decode cX7_count 55 = .ok (.aload_n 0, 1) := by decide +kernel
theorem dX7_count_56 : decode cX7_count 56 = .ok (.getfield 119, 3) := by decide +kernel
theorem dX7_count_59 : decode cX7_count 59 = .ok (.ireturn, 1) := by decide +kernel
theorem dX7_definition_0 : decode cX7_definition 0 = .ok (.aload_n 0, 1) := by decide +kernel
theorem dX7_definition_1 : decode cX7_definition 1 = .ok (.iload_n 1, 1) := by decide +kernel
theorem dX7_definition_2 : decode cX7_definition 2 = .ok (.ifCond .lt 20, 3) := by decide +kernel
theorem dX7_definition_5 : decode cX7_definition 5 = .ok (.iload_n 1, 1) := by decide +kernel
theorem dX7_definition_6 : decode cX7_definition 6 = .ok (.aload_n 0, 1) := by decide +kernel
theorem dX7_definition_7 : decode cX7_definition 7 = .ok (.getfield 288, 3) := by decide +kernel
theorem dX7_definition_10 : decode cX7_definition 10 = .ok (.if_icmp .ge 12, 3) := by decide +kernel
theorem dX7_definition_13 : decode cX7_definition 13 = .ok (.iload_n 2, 1) := by decide +kernel
theorem dX7_definition_14 : decode cX7_definition 14 = .ok (.ifCond .lt 8, 3) := by decide +kernel
theorem dX7_definition_17 : decode cX7_definition 17 = .ok (.iload_n 2, 1) := by decide +kernel
theorem dX7_definition_18 : decode cX7_definition 18 = .ok (.iconst 1, 1) := by decide +kernel
theorem dX7_definition_19 : decode cX7_definition 19 = .ok (.if_icmp .le 7, 3) := by decide +kernel
theorem dX7_definition_22 : decode cX7_definition 22 = .ok (.iconst 1, 1) := by decide +kernel
theorem dX7_definition_23 : decode cX7_definition 23 = .ok (.goto 4, 3) := by decide +kernel
theorem dX7_definition_26 : decode cX7_definition 26 = .ok (.iconst 0, 1) := by decide +kernel
theorem dX7_definition_27 : decode cX7_definition 27 = .ok (.putfield 116, 3) := by decide +kernel
theorem dX7_definition_30 : decode cX7_definition 30 = .ok (.aload_n 0, 1) := by decide +kernel
theorem dX7_definition_31 : decode cX7_definition 31 = .ok (.getfield 116, 3) := by decide +kernel
theorem dX7_definition_34 : decode cX7_definition 34 = .ok (.ifCond .le 7, 3) := by decide +kernel
theorem dX7_definition_37 : decode cX7_definition 37 = .ok (.iconst 0, 1) := by decide +kernel
theorem dX7_definition_38 : decode cX7_definition 38 = .ok (.goto 38, 3) := by decide +kernel
theorem dX7_definition_41 : decode cX7_definition 41 = .ok (.iload_n 2, 1) := by decide +kernel
theorem dX7_definition_42 : decode cX7_definition 42 = .ok (.ifCond .ne 20, 3) := by decide +kernel
theorem dX7_definition_45 : decode cX7_definition 45 = .ok (.aload_n 0, 1) := by decide +kernel
theorem dX7_definition_46 : decode cX7_definition 46 = .ok (.getfield 13, 3) := by decide +kernel
theorem dX7_definition_49 : decode cX7_definition 49 = .ok (.bipush 12, 2) := by decide +kernel
theorem dX7_definition_51 : decode cX7_definition 51 = .ok (.aload_n 0, 1) := by decide +kernel
theorem dX7_definition_52 : decode cX7_definition 52 = .ok (.getfield 182, 3) := by decide +kernel
theorem dX7_definition_55 : decode cX7_definition 55 = .ok (.imul, 1) := by decide +kernel
theorem dX7_definition_56 : decode cX7_definition 56 = .ok (.iload_n 1, 1) := by decide +kernel
theorem dX7_definition_57 : decode cX7_definition 57 = .ok (.iadd, 1) := by decide +kernel
theorem dX7_definition_58 : decode cX7_definition 58 = .ok (.iaload, 1) := by decide +kernel
theorem dX7_definition_59 : decode cX7_definition 59 = .ok (.goto 17, 3) := by decide +kernel
theorem dX7_definition_62 : decode cX7_definition 62 = .ok (.aload_n 0, 1) := by decide +kernel
theorem dX7_definition_63 : decode cX7_definition 63 = .ok (.getfield 17, 3) := by decide +kernel
theorem dX7_definition_66 : decode cX7_definition 66 = .ok (.bipush 12, 2) := by decide +kernel
theorem dX7_definition_68 : decode cX7_definition 68 = .ok (.aload_n 0, 1) := by decide +kernel
theorem dX7_definition_69 : decode cX7_definition 69 = .ok (.getfield 182, 3) := by decide +kernel
theorem dX7_definition_72 : decode cX7_definition 72 = .ok (.imul, 1) := by decide +kernel
theorem dX7_definition_73 : decode cX7_definition 73 = .ok (.iload_n 1, 1) := by decide +kernel
theorem dX7_definition_74 : decode cX7_definition 74 = .ok (.iadd, 1) := by decide +kernel
theorem dX7_definition_75 : decode cX7_definition 75 = .ok (.iaload, 1) := by decide +kernel
theorem dX7_definition_76 : decode cX7_definition 76 = .ok (.ireturn, 1) := by decide +kernel
theorem dX7_clear_0 : decode cX7_clear 0 = .ok (.aload_n 0, 1) := by decide +kernel
theorem dX7_clear_1 : decode cX7_clear 1 = .ok (.iconst 0, 1) := by decide +kernel
theorem dX7_clear_2 : decode cX7_clear 2 = .ok (.putfield 116, 3) := by decide +kernel
theorem dX7_clear_5 : decode cX7_clear 5 = .ok (.aload_n 0, 1) := by decide +kernel
theorem dX7_clear_6 : decode cX7_clear 6 = .ok (.iconst 0, 1) := by decide +kernel
theorem dX7_clear_7 : decode cX7_clear 7 = .ok (.putfield 119, 3) := by decide +kernel
theorem dX7_clear_10 : decode cX7_clear 10 = .ok (.aload_n 0, 1) := by decide +kernel
theorem dX7_clear_11 : decode cX7_clear 11 = .ok (.iconst 0, 1) := by decide +kernel
theorem dX7_clear_12 : decode cX7_clear 12 = .ok (.putfield 288, 3) := by decide +kernel
theorem dX7_clear_15 : decode cX7_clear 15 = .ok (.aload_n 0, 1) := by decide +kernel
theorem dX7_clear_16 : decode cX7_clear 16 = .ok (.iconst (-1), 1) := by decide +kernel
theorem dX7_clear_17 : decode cX7_clear 17 = .ok (.putfield 109, 3) := by decide +kernel
theorem dX7_clear_20 : decode cX7_clear 20 = .ok (.aload_n 0, 1) := by decide +kernel
theorem dX7_clear_21 : decode cX7_clear 21 = .ok (.iconst 0, 1) := by decide +kernel
theorem dX7_clear_22 : decode cX7_clear 22 = .ok (.putfield 360, 3) := by decide +kernel
theorem dX7_clear_25 : decode cX7_clear 25 = .ok (.iconst 0, 1) := by decide +kernel
theorem dX7_clear_26 : decode cX7_clear 26 = .ok (.istore_n 1, 1) := by decide +kernel
theorem dX7_clear_27 : decode cX7_clear 27 = .ok (.iload_n 1, 1) := by decide +kernel
theorem dX7_clear_28 : decode cX7_clear 28 = .ok (.iconst 4, 1) := by decide +kernel
theorem dX7_clear_29 : decode cX7_clear 29 = .ok (.if_icmp .ge 16, 3) := by decide +kernel
theorem dX7_clear_32 : decode cX7_clear 32 = .ok (.aload_n 0, 1) := by decide +kernel
theorem dX7_clear_33 : decode cX7_clear 33 = .ok (.getfield 113, 3) := by decide +kernel
theorem dX7_clear_36 : decode cX7_clear 36 = .ok (.iload_n 1, 1) := by decide +kernel
theorem dX7_clear_37 : decode cX7_clear 37 = .ok (.iconst 0, 1) := by decide +kernel
theorem dX7_clear_38 : decode cX7_clear 38 = .ok (.iastore, 1) := by decide +kernel
theorem dX7_clear_39 : decode cX7_clear 39 = .ok (.iinc 1 1, 3) := by decide +kernel
theorem dX7_clear_42 : decode cX7_clear 42 = .ok (.goto (-15), 3) := by decide +kernel
theorem dX7_clear_45 : decode cX7_clear 45 = .ok (.return_, 1) := by decide +kernel
