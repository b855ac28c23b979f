theorem dX0_init_0 : decode cX0_init 0 = .ok (.aload_n 0, 1) := by decide +kernel
theorem dX0_init_1 : decode cX0_init 1 = .ok (.invokespecial 3, 3) := by decide +kernel
theorem dX0_init_4 : decode cX0_init 4 = .ok (.aload_n 0, 1) := by decide +kernel
theorem dX0_init_5 : decode cX0_init 5 = .ok (.sipush 256, 3) := by decide +kernel
theorem dX0_init_8 : decode cX0_init 8 = .ok (.newarray .int, 2) := by decide +kernel
theorem dX0_init_10 : decode cX0_init 10 = .ok (.putfield 11, 3) := by decide +kernel
theorem dX0_init_13 : decode cX0_init 13 = .ok (.aload_n 0, 1) := by decide +kernel
theorem dX0_init_14 : decode cX0_init 14 = .ok (.iconst 0, 1) := by decide +kernel
theorem dX0_init_15 : decode cX0_init 15 = .ok (.putfield 15, 3) := by decide +kernel
theorem dX0_init_18 : decode cX0_init 18 = .ok (.aload_n 0, 1) := by decide +kernel
theorem dX0_init_19 : decode cX0_init 19 = .ok (.bipush 64, 2) := by decide +kernel
theorem dX0_init_21 : decode cX0_init 21 = .ok (.newarray .int, 2) := by decide +kernel
theorem dX0_init_23 : decode cX0_init 23 = .ok (.putfield 19, 3) := by decide +kernel
theorem dX0_init_26 : decode cX0_init 26 = .ok (.aload_n 0, 1) := by decide +kernel
theorem dX0_init_27 : decode cX0_init 27 = .ok (.bipush 8, 2) := by decide +kernel
theorem dX0_init_29 : decode cX0_init 29 = .ok (.newarray .int, 2) := by decide +kernel
theorem dX0_init_31 : decode cX0_init 31 = .ok (.putfield 22, 3) := by decide +kernel
theorem dX0_init_34 : decode cX0_init 34 = .ok (.return_, 1) := by decide +kernel
theorem dX0_begin_0 : decode cX0_begin 0 = .ok (.aload_n 0, 1) := by decide +kernel
theorem dX0_begin_1 : decode cX0_begin 1 = .ok (.iconst 0, 1) := by decide +kernel
theorem dX0_begin_2 : decode cX0_begin 2 = .ok (.putfield 15, 3) := by decide +kernel
theorem dX0_begin_5 : decode cX0_begin 5 = .ok (.return_, 1) := by decide +kernel
theorem dX0_take_0 : decode cX0_take 0 = .ok (.aload_n 0, 1) := by decide +kernel
theorem dX0_take_1 : decode cX0_take 1 = .ok (.getfield 15, 3) := by decide +kernel
theorem dX0_take_4 : decode cX0_take 4 = .ok (.sipush 256, 3) := by decide +kernel
theorem dX0_take_7 : decode cX0_take 7 = .ok (.if_icmp .ge 23, 3) := by decide +kernel
theorem dX0_take_10 : decode cX0_take 10 = .ok (.aload_n 0, 1) := by decide +kernel
theorem dX0_take_11 : decode cX0_take 11 = .ok (.getfield 11, 3) := by decide +kernel
theorem dX0_take_14 : decode cX0_take 14 = .ok (.aload_n 0, 1) := by decide +kernel
theorem dX0_take_15 : decode cX0_take 15 = .ok (.getfield 15, 3) := by decide +kernel
theorem dX0_take_18 : decode cX0_take 18 = .ok (.iload_n 1, 1) := by decide +kernel
theorem dX0_take_19 : decode cX0_take 19 = .ok (.iastore, 1) := by decide +kernel
theorem dX0_take_20 : decode cX0_take 20 = .ok (.aload_n 0, 1) := by decide +kernel
theorem dX0_take_21 : decode cX0_take 21 = .ok (.dup, 1) := by decide +kernel
theorem dX0_take_22 : decode cX0_take 22 = .ok (.getfield 15, 3) := by decide +kernel
theorem dX0_take_25 : decode cX0_take 25 = .ok (.iconst 1, 1) := by decide +kernel
theorem dX0_take_26 : decode cX0_take 26 = .ok (.iadd, 1) := by decide +kernel
theorem dX0_take_27 : decode cX0_take 27 = .ok (.putfield 15, 3) := by decide +kernel
theorem dX0_take_30 : decode cX0_take 30 = .ok (.return_, 1) := by decide +kernel
theorem dX0_takeFirst_0 : decode cX0_takeFirst 0 = .ok (.iconst 0, 1) := by decide +kernel
theorem dX0_takeFirst_1 : decode cX0_takeFirst 1 = .ok (.istore_n 3, 1) := by decide +kernel
theorem dX0_takeFirst_2 : decode cX0_takeFirst 2 = .ok (.iload_n 3, 1) := by decide +kernel
theorem dX0_takeFirst_3 : decode cX0_takeFirst 3 = .ok (.iload_n 2, 1) := by decide +kernel
theorem dX0_takeFirst_4 : decode cX0_takeFirst 4 = .ok (.if_icmp .ge 16, 3) := by decide +kernel
theorem dX0_takeFirst_7 : decode cX0_takeFirst 7 = .ok (.aload_n 0, 1) := by decide +kernel
theorem dX0_takeFirst_8 : decode cX0_takeFirst 8 = .ok (.aload_n 1, 1) := by decide +kernel
theorem dX0_takeFirst_9 : decode cX0_takeFirst 9 = .ok (.iload_n 3, 1) := by decide +kernel
theorem dX0_takeFirst_10 : decode cX0_takeFirst 10 = .ok (.iaload, 1) := by decide +kernel
theorem dX0_takeFirst_11 : decode cX0_takeFirst 11 = .ok (.invokevirtual 25, 3) := by decide +kernel
theorem dX0_takeFirst_14 : decode cX0_takeFirst 14 = .ok (.iinc 3 1, 3) := by decide +kernel
theorem dX0_takeFirst_17 : decode cX0_takeFirst 17 = .ok (.goto (-15), 3) := by decide +kernel
theorem dX0_takeFirst_20 : decode cX0_takeFirst 20 = .ok (.return_, 1) := by decide +kernel
theorem dX0_finishInto_0 : decode cX0_finishInto 0 = .ok (.ldc2_w 29, 3) := by decide +kernel
theorem dX0_finishInto_3 : decode cX0_finishInto 3 = .ok (.aload_n 0, 1) := by decide +kernel
theorem dX0_finishInto_4 : decode cX0_finishInto 4 = .ok (.getfield 15, 3) := by decide +kernel
theorem dX0_finishInto_7 : decode cX0_finishInto 7 = .ok (.i2l, 1) := by decide +kernel
theorem dX0_finishInto_8 : decode cX0_finishInto 8 = .ok (.lmul, 1) := by decide +kernel
theorem dX0_finishInto_9 : decode cX0_finishInto 9 = .ok (.lstore_n 2, 1) := by decide +kernel
theorem dX0_finishInto_10 : decode cX0_finishInto 10 = .ok (.bipush 55, 2) := by decide +kernel
theorem dX0_finishInto_12 : decode cX0_finishInto 12 = .ok (.aload_n 0, 1) := by decide +kernel
theorem dX0_finishInto_13 : decode cX0_finishInto 13 = .ok (.getfield 15, 3) := by decide +kernel
theorem dX0_finishInto_16 : decode cX0_finishInto 16 = .ok (.isub, 1) := by decide +kernel
theorem dX0_finishInto_17 : decode cX0_finishInto 17 = .ok (.bipush 64, 2) := by decide +kernel
theorem dX0_finishInto_19 : decode cX0_finishInto 19 = .ok (.invokestatic 31, 3) := by decide +kernel
theorem dX0_finishInto_22 : decode cX0_finishInto 22 = .ok (.istore 4, 2) := by decide +kernel
theorem dX0_finishInto_24 : decode cX0_finishInto 24 = .ok (.aload_n 0, 1) := by decide +kernel
theorem dX0_finishInto_25 : decode cX0_finishInto 25 = .ok (.sipush 128, 3) := by decide +kernel
theorem dX0_finishInto_28 : decode cX0_finishInto 28 = .ok (.invokevirtual 25, 3) := by decide +kernel
theorem dX0_finishInto_31 : decode cX0_finishInto 31 = .ok (.iconst 0, 1) := by decide +kernel
theorem dX0_finishInto_32 : decode cX0_finishInto 32 = .ok (.istore 5, 2) := by decide +kernel
theorem dX0_finishInto_34 : decode cX0_finishInto 34 = .ok (.iload 5, 2) := by decide +kernel
theorem dX0_finishInto_36 : decode cX0_finishInto 36 = .ok (.iload 4, 2) := by decide +kernel
theorem dX0_finishInto_38 : decode cX0_finishInto 38 = .ok (.if_icmp .ge 14, 3) := by decide +kernel
theorem dX0_finishInto_41 : decode cX0_finishInto 41 = .ok (.aload_n 0, 1) := by decide +kernel
theorem dX0_finishInto_42 : decode cX0_finishInto 42 = .ok (.iconst 0, 1) := by decide +kernel
theorem dX0_finishInto_43 : decode cX0_finishInto 43 = .ok (.invokevirtual 25, 3) := by decide +kernel
theorem dX0_finishInto_46 : decode cX0_finishInto 46 = .ok (.iinc 5 1, 3) := by decide +kernel
theorem dX0_finishInto_49 : decode cX0_finishInto 49 = .ok (.goto (-15), 3) := by decide +kernel
theorem dX0_finishInto_52 : decode cX0_finishInto 52 = .ok (.aload_n 0, 1) := by decide +kernel
theorem dX0_finishInto_53 : decode cX0_finishInto 53 = .ok (.lload_n 2, 1) := by decide +kernel
theorem dX0_finishInto_54 : decode cX0_finishInto 54 = .ok (.invokevirtual 37, 3) := by decide +kernel
theorem dX0_finishInto_57 : decode cX0_finishInto 57 = .ok (.getstatic 41, 3) := by decide +kernel
theorem dX0_finishInto_60 : decode cX0_finishInto 60 = .ok (.iconst 0, 1) := by decide +kernel
theorem dX0_finishInto_61 : decode cX0_finishInto 61 = .ok (.aload_n 0, 1) := by decide +kernel
theorem dX0_finishInto_62 : decode cX0_finishInto 62 = .ok (.getfield 22, 3) := by decide +kernel
theorem dX0_finishInto_65 : decode cX0_finishInto 65 = .ok (.iconst 0, 1) := by decide +kernel
theorem dX0_finishInto_66 : decode cX0_finishInto 66 = .ok (.bipush 8, 2) := by decide +kernel
theorem dX0_finishInto_68 : decode cX0_finishInto 68 = .ok (.invokestatic 44, 3) := by decide +kernel
theorem dX0_finishInto_71 : decode cX0_finishInto 71 = .ok (.iconst 0, 1) := by decide +kernel
theorem dX0_finishInto_72 : decode cX0_finishInto 72 = .ok (.istore 5, 2) := by decide +kernel
theorem dX0_finishInto_74 : decode cX0_finishInto 74 = .ok (.iload 5, 2) := by decide +kernel
theorem dX0_finishInto_76 : decode cX0_finishInto 76 = .ok (.bipush 64, 2) := by decide +kernel
theorem dX0_finishInto_78 : decode cX0_finishInto 78 = .ok (.iadd, 1) := by decide +kernel
theorem dX0_finishInto_79 : decode cX0_finishInto 79 = .ok (.aload_n 0, 1) := by decide +kernel
theorem dX0_finishInto_80 : decode cX0_finishInto 80 = .ok (.getfield 15, 3) := by decide +kernel
theorem dX0_finishInto_83 : decode cX0_finishInto 83 = .ok (.if_icmp .gt 19, 3) := by decide +kernel
theorem dX0_finishInto_86 : decode cX0_finishInto 86 = .ok (.aload_n 0, 1) := by decide +kernel
theorem dX0_finishInto_87 : decode cX0_finishInto 87 = .ok (.iload 5, 2) := by decide +kernel
theorem dX0_finishInto_89 : decode cX0_finishInto 89 = .ok (.invokevirtual 50, 3) := by decide +kernel
theorem dX0_finishInto_92 : decode cX0_finishInto 92 = .ok (.aload_n 0, 1) := by decide +kernel
theorem dX0_finishInto_93 : decode cX0_finishInto 93 = .ok (.invokevirtual 53, 3) := by decide +kernel
theorem dX0_finishInto_96 : decode cX0_finishInto 96 = .ok (.iinc 5 64, 3) := by decide +kernel
theorem dX0_finishInto_99 : decode cX0_finishInto 99 = .ok (.goto (-25), 3) := by decide +kernel
theorem dX0_finishInto_102 : decode cX0_finishInto 102 = .ok (.iconst 0, 1) := by decide +kernel
theorem dX0_finishInto_103 : decode cX0_finishInto 103 = .ok (.istore 5, 2) := by decide +kernel
theorem dX0_finishInto_105 : decode cX0_finishInto 105 = .ok (.iload 5, 2) := by decide +kernel
theorem dX0_finishInto_107 : decode cX0_finishInto 107 = .ok (.bipush 32, 2) := by decide +kernel
theorem dX0_finishInto_109 : decode cX0_finishInto 109 = .ok (.if_icmp .ge 37, 3) := by decide +kernel
theorem dX0_finishInto_112 : decode cX0_finishInto 112 = .ok (.aload_n 1, 1) := by decide +kernel
theorem dX0_finishInto_113 : decode cX0_finishInto 113 = .ok (.iload 5, 2) := by decide +kernel
theorem dX0_finishInto_115 : decode cX0_finishInto 115 = .ok (.aload_n 0, 1) := by decide +kernel
theorem dX0_finishInto_116 : decode cX0_finishInto 116 = .ok (.getfield 22, 3) := by decide +kernel
theorem dX0_finishInto_119 : decode cX0_finishInto 119 = .ok (.iload 5, 2) := by decide +kernel
theorem dX0_finishInto_121 : decode cX0_finishInto 121 = .ok (.iconst 4, 1) := by decide +kernel
theorem dX0_finishInto_122 : decode cX0_finishInto 122 = .ok (.idiv, 1) := by decide +kernel
theorem dX0_finishInto_123 : decode cX0_finishInto 123 = .ok (.iaload, 1) := by decide +kernel
theorem dX0_finishInto_124 : decode cX0_finishInto 124 = .ok (.bipush 24, 2) := by decide +kernel
theorem dX0_finishInto_126 : decode cX0_finishInto 126 = .ok (.bipush 8, 2) := by decide +kernel
theorem dX0_finishInto_128 : decode cX0_finishInto 128 = .ok (.iload 5, 2) := by decide +kernel
theorem dX0_finishInto_130 : decode cX0_finishInto 130 = .ok (.iconst 4, 1) := by decide +kernel
theorem dX0_finishInto_131 : decode cX0_finishInto 131 = .ok (.irem, 1) := by decide +kernel
theorem dX0_finishInto_132 : decode cX0_finishInto 132 = .ok (.imul, 1) := by decide +kernel
theorem dX0_finishInto_133 : decode cX0_finishInto 133 = .ok (.isub, 1) := by decide +kernel
theorem dX0_finishInto_134 : decode cX0_finishInto 134 = .ok (.iushr, 1) := by decide +kernel
theorem dX0_finishInto_135 : decode cX0_finishInto 135 = .ok (.sipush 255, 3) := by decide +kernel
theorem dX0_finishInto_138 : decode cX0_finishInto 138 = .ok (.iand, 1) := by decide +kernel
theorem dX0_finishInto_139 : decode cX0_finishInto 139 = .ok (.iastore, 1) := by decide +kernel
theorem dX0_finishInto_140 : decode cX0_finishInto 140 = .ok (.iinc 5 1, 3) := by decide +kernel
theorem dX0_finishInto_143 : decode cX0_finishInto 143 = .ok (.goto (-38), 3) := by decide +kernel
theorem dX0_finishInto_146 : decode cX0_finishInto 146 = .ok (.return_, 1) := by decide +kernel
theorem dX0_takeLong_0 : decode cX0_takeLong 0 = .ok (.bipush 56, 2) := by decide +kernel
theorem dX0_takeLong_2 : decode cX0_takeLong 2 = .ok (.istore_n 3, 1) := by decide +kernel
theorem dX0_takeLong_3 : decode cX0_takeLong 3 = .ok (.iload_n 3, 1) := by decide +kernel
theorem dX0_takeLong_4 : decode cX0_takeLong 4 = .ok (.ifCond .lt 21, 3) := by decide +kernel
theorem dX0_takeLong_7 : decode cX0_takeLong 7 = .ok (.aload_n 0, 1) := by decide +kernel
theorem dX0_takeLong_8 : decode cX0_takeLong 8 = .ok (.lload_n 1, 1) := by decide +kernel
theorem dX0_takeLong_9 : decode cX0_takeLong 9 = .ok (.iload_n 3, 1) := by decide +kernel
theorem dX0_takeLong_10 : decode cX0_takeLong 10 = .ok (.lushr, 1) := by decide +kernel
theorem dX0_takeLong_11 : decode cX0_takeLong 11 = .ok (.l2i, 1) := by decide +kernel
theorem dX0_takeLong_12 : decode cX0_takeLong 12 = .ok (.sipush 255, 3) := by decide +kernel
theorem dX0_takeLong_15 : decode cX0_takeLong 15 = .ok (.iand, 1) := by decide +kernel
theorem dX0_takeLong_16 : decode cX0_takeLong 16 = .ok (.invokevirtual 25, 3) := by decide +kernel
theorem dX0_takeLong_19 : decode cX0_takeLong 19 = .ok (.iinc 3 (-8), 3) := by decide +kernel
theorem dX0_takeLong_22 : decode cX0_takeLong 22 = .ok (.goto (-19), 3) := by decide +kernel
theorem dX0_takeLong_25 : decode cX0_takeLong 25 = .ok (.return_, 1) := by decide +kernel
theorem dX0_spreadBlock_0 : decode cX0_spreadBlock 0 = .ok (.iconst 0, 1) := by decide +kernel
theorem dX0_spreadBlock_1 : decode cX0_spreadBlock 1 = .ok (.istore_n 2, 1) := by decide +kernel
theorem dX0_spreadBlock_2 : decode cX0_spreadBlock 2 = .ok (.iload_n 2, 1) := by decide +kernel
theorem dX0_spreadBlock_3 : decode cX0_spreadBlock 3 = .ok (.bipush 16, 2) := by decide +kernel
theorem dX0_spreadBlock_5 : decode cX0_spreadBlock 5 = .ok (.if_icmp .ge 63, 3) := by decide +kernel
theorem dX0_spreadBlock_8 : decode cX0_spreadBlock 8 = .ok (.iload_n 1, 1) := by decide +kernel
theorem dX0_spreadBlock_9 : decode cX0_spreadBlock 9 = .ok (.iconst 4, 1) := by decide +kernel
theorem dX0_spreadBlock_10 : decode cX0_spreadBlock 10 = .ok (.iload_n 2, 1) := by decide +kernel
theorem dX0_spreadBlock_11 : decode cX0_spreadBlock 11 = .ok (.imul, 1) := by decide +kernel
theorem dX0_spreadBlock_12 : decode cX0_spreadBlock 12 = .ok (.iadd, 1) := by decide +kernel
theorem dX0_spreadBlock_13 : decode cX0_spreadBlock 13 = .ok (.istore_n 3, 1) := by decide +kernel
theorem dX0_spreadBlock_14 : decode cX0_spreadBlock 14 = .ok (.aload_n 0, 1) := by decide +kernel
theorem dX0_spreadBlock_15 : decode cX0_spreadBlock 15 = .ok (.getfield 19, 3) := by decide +kernel
theorem dX0_spreadBlock_18 : decode cX0_spreadBlock 18 = .ok (.iload_n 2, 1) := by decide +kernel
theorem dX0_spreadBlock_19 : decode cX0_spreadBlock 19 = .ok (.aload_n 0, 1) := by decide +kernel
theorem dX0_spreadBlock_20 : decode cX0_spreadBlock 20 = .ok (.getfield 11, 3) := by decide +kernel
theorem dX0_spreadBlock_23 : decode cX0_spreadBlock 23 = .ok (.iload_n 3, 1) := by decide +kernel
theorem dX0_spreadBlock_24 : decode cX0_spreadBlock 24 = .ok (.iaload, 1) := by decide +kernel
theorem dX0_spreadBlock_25 : decode cX0_spreadBlock 25 = .ok (.bipush 24, 2) := by decide +kernel
theorem dX0_spreadBlock_27 : decode cX0_spreadBlock 27 = .ok (.ishl, 1) := by decide +kernel
theorem dX0_spreadBlock_28 : decode cX0_spreadBlock 28 = .ok (.aload_n 0, 1) := by decide +kernel
theorem dX0_spreadBlock_29 : decode cX0_spreadBlock 29 = .ok (.getfield 11, 3) := by decide +kernel
theorem dX0_spreadBlock_32 : decode cX0_spreadBlock 32 = .ok (.iload_n 3, 1) := by decide +kernel
theorem dX0_spreadBlock_33 : decode cX0_spreadBlock 33 = .ok (.iconst 1, 1) := by decide +kernel
theorem dX0_spreadBlock_34 : decode cX0_spreadBlock 34 = .ok (.iadd, 1) := by decide +kernel
theorem dX0_spreadBlock_35 : decode cX0_spreadBlock 35 = .ok (.iaload, 1) := by decide +kernel
theorem dX0_spreadBlock_36 : decode cX0_spreadBlock 36 = .ok (.bipush 16, 2) := by decide +kernel
theorem dX0_spreadBlock_38 : decode cX0_spreadBlock 38 = .ok (.ishl, 1) := by decide +kernel
theorem dX0_spreadBlock_39 : decode cX0_spreadBlock 39 = .ok (.ior, 1) := by decide +kernel
theorem dX0_spreadBlock_40 : decode cX0_spreadBlock 40 = .ok (.aload_n 0, 1) := by decide +kernel
theorem dX0_spreadBlock_41 : decode cX0_spreadBlock 41 = .ok (.getfield 11, 3) := by decide +kernel
theorem dX0_spreadBlock_44 : decode cX0_spreadBlock 44 = .ok (.iload_n 3, 1) := by decide +kernel
theorem dX0_spreadBlock_45 : decode cX0_spreadBlock 45 = .ok (.iconst 2, 1) := by decide +kernel
theorem dX0_spreadBlock_46 : decode cX0_spreadBlock 46 = .ok (.iadd, 1) := by decide +kernel
theorem dX0_spreadBlock_47 : decode cX0_spreadBlock 47 = .ok (.iaload, 1) := by decide +kernel
theorem dX0_spreadBlock_48 : decode cX0_spreadBlock 48 = .ok (.bipush 8, 2) := by decide +kernel
theorem dX0_spreadBlock_50 : decode cX0_spreadBlock 50 = .ok (.ishl, 1) := by decide +kernel
theorem dX0_spreadBlock_51 : decode cX0_spreadBlock 51 = .ok (.ior, 1) := by decide +kernel
theorem dX0_spreadBlock_52 : decode cX0_spreadBlock 52 = .ok (.aload_n 0, 1) := by decide +kernel
theorem dX0_spreadBlock_53 : decode cX0_spreadBlock 53 = .ok (.getfield 11, 3) := by decide +kernel
theorem dX0_spreadBlock_56 : decode cX0_spreadBlock 56 = .ok (.iload_n 3, 1) := by decide +kernel
theorem dX0_spreadBlock_57 : decode cX0_spreadBlock 57 = .ok (.iconst 3, 1) := by decide +kernel
theorem dX0_spreadBlock_58 : decode cX0_spreadBlock 58 = .ok (.iadd, 1) := by decide +kernel
theorem dX0_spreadBlock_59 : decode cX0_spreadBlock 59 = .ok (.iaload, 1) := by decide +kernel
theorem dX0_spreadBlock_60 : decode cX0_spreadBlock 60 = .ok (.ior, 1) := by decide +kernel
theorem dX0_spreadBlock_61 : decode cX0_spreadBlock 61 = .ok (.iastore, 1) := by decide +kernel
theorem dX0_spreadBlock_62 : decode cX0_spreadBlock 62 = .ok (.iinc 2 1, 3) := by decide +kernel
theorem dX0_spreadBlock_65 : decode cX0_spreadBlock 65 = .ok (.goto (-63), 3) := by decide +kernel
theorem dX0_spreadBlock_68 : decode cX0_spreadBlock 68 = .ok (.bipush 16, 2) := by decide +kernel
theorem dX0_spreadBlock_70 : decode cX0_spreadBlock 70 = .ok (.istore_n 2, 1) := by decide +kernel
theorem dX0_spreadBlock_71 : decode cX0_spreadBlock 71 = .ok (.iload_n 2, 1) := by decide +kernel
theorem dX0_spreadBlock_72 : decode cX0_spreadBlock 72 = .ok (.bipush 64, 2) := by decide +kernel
theorem dX0_spreadBlock_74 : decode cX0_spreadBlock 74 = .ok (.if_icmp .ge 102, 3) := by decide +kernel
theorem dX0_spreadBlock_77 : decode cX0_spreadBlock 77 = .ok (.aload_n 0, 1) := by decide +kernel
theorem dX0_spreadBlock_78 : decode cX0_spreadBlock 78 = .ok (.getfield 19, 3) := by decide +kernel
theorem dX0_spreadBlock_81 : decode cX0_spreadBlock 81 = .ok (.iload_n 2, 1) := by decide +kernel
theorem dX0_spreadBlock_82 : decode cX0_spreadBlock 82 = .ok (.bipush 15, 2) := by decide +kernel
theorem dX0_spreadBlock_84 : decode cX0_spreadBlock 84 = .ok (.isub, 1) := by decide +kernel
theorem dX0_spreadBlock_85 : decode cX0_spreadBlock 85 = .ok (.iaload, 1) := by decide +kernel
theorem dX0_spreadBlock_86 : decode cX0_spreadBlock 86 = .ok (.istore_n 3, 1) := by decide +kernel
theorem dX0_spreadBlock_87 : decode cX0_spreadBlock 87 = .ok (.aload_n 0, 1) := by decide +kernel
theorem dX0_spreadBlock_88 : decode cX0_spreadBlock 88 = .ok (.getfield 19, 3) := by decide +kernel
theorem dX0_spreadBlock_91 : decode cX0_spreadBlock 91 = .ok (.iload_n 2, 1) := by decide +kernel
theorem dX0_spreadBlock_92 : decode cX0_spreadBlock 92 = .ok (.iconst 2, 1) := by decide +kernel
theorem dX0_spreadBlock_93 : decode cX0_spreadBlock 93 = .ok (.isub, 1) := by decide +kernel
theorem dX0_spreadBlock_94 : decode cX0_spreadBlock 94 = .ok (.iaload, 1) := by decide +kernel
theorem dX0_spreadBlock_95 : decode cX0_spreadBlock 95 = .ok (.istore 4, 2) := by decide +kernel
theorem dX0_spreadBlock_97 : decode cX0_spreadBlock 97 = .ok (.iload_n 3, 1) := by decide +kernel
theorem dX0_spreadBlock_98 : decode cX0_spreadBlock 98 = .ok (.bipush 7, 2) := by decide +kernel
theorem dX0_spreadBlock_100 : decode cX0_spreadBlock 100 = .ok (.invokestatic 56, 3) := by decide +kernel
theorem dX0_spreadBlock_103 : decode cX0_spreadBlock 103 = .ok (.iload_n 3, 1) := by decide +kernel
theorem dX0_spreadBlock_104 : decode cX0_spreadBlock 104 = .ok (.bipush 18, 2) := by decide +kernel
theorem dX0_spreadBlock_106 : decode cX0_spreadBlock 106 = .ok (.invokestatic 56, 3) := by decide +kernel
theorem dX0_spreadBlock_109 : decode cX0_spreadBlock 109 = .ok (.ixor, 1) := by decide +kernel
theorem dX0_spreadBlock_110 : decode cX0_spreadBlock 110 = .ok (.iload_n 3, 1) := by decide +kernel
theorem dX0_spreadBlock_111 : decode cX0_spreadBlock 111 = .ok (.iconst 3, 1) := by decide +kernel
theorem dX0_spreadBlock_112 : decode cX0_spreadBlock 112 = .ok (.iushr, 1) := by decide +kernel
theorem dX0_spreadBlock_113 : decode cX0_spreadBlock 113 = .ok (.ixor, 1) := by decide +kernel
theorem dX0_spreadBlock_114 : decode cX0_spreadBlock 114 = .ok (.istore 5, 2) := by decide +kernel
theorem dX0_spreadBlock_116 : decode cX0_spreadBlock 116 = .ok (.iload 4, 2) := by decide +kernel
theorem dX0_spreadBlock_118 : decode cX0_spreadBlock 118 = .ok (.bipush 17, 2) := by decide +kernel
theorem dX0_spreadBlock_120 : decode cX0_spreadBlock 120 = .ok (.invokestatic 56, 3) := by decide +kernel
theorem dX0_spreadBlock_123 : decode cX0_spreadBlock 123 = .ok (.iload 4, 2) := by decide +kernel
theorem dX0_spreadBlock_125 : decode cX0_spreadBlock 125 = .ok (.bipush 19, 2) := by decide +kernel
theorem dX0_spreadBlock_127 : decode cX0_spreadBlock 127 = .ok (.invokestatic 56, 3) := by decide +kernel
theorem dX0_spreadBlock_130 : decode cX0_spreadBlock 130 = .ok (.ixor, 1) := by decide +kernel
theorem dX0_spreadBlock_131 : decode cX0_spreadBlock 131 = .ok (.iload 4, 2) := by decide +kernel
theorem dX0_spreadBlock_133 : decode cX0_spreadBlock 133 = .ok (.bipush 10, 2) := by decide +kernel
theorem dX0_spreadBlock_135 : decode cX0_spreadBlock 135 = .ok (.iushr, 1) := by decide +kernel
theorem dX0_spreadBlock_136 : decode cX0_spreadBlock 136 = .ok (.ixor, 1) := by decide +kernel
theorem dX0_spreadBlock_137 : decode cX0_spreadBlock 137 = .ok (.istore 6, 2) := by decide +kernel
theorem dX0_spreadBlock_139 : decode cX0_spreadBlock 139 = .ok (.aload_n 0, 1) := by decide +kernel
theorem dX0_spreadBlock_140 : decode cX0_spreadBlock 140 = .ok (.getfield 19, 3) := by decide +kernel
theorem dX0_spreadBlock_143 : decode cX0_spreadBlock 143 = .ok (.iload_n 2, 1) := by decide +kernel
theorem dX0_spreadBlock_144 : decode cX0_spreadBlock 144 = .ok (.iload 6, 2) := by decide +kernel
theorem dX0_spreadBlock_146 : decode cX0_spreadBlock 146 = .ok (.aload_n 0, 1) := by decide +kernel
theorem dX0_spreadBlock_147 : decode cX0_spreadBlock 147 = .ok (.getfield 19, 3) := by decide +kernel
theorem dX0_spreadBlock_150 : decode cX0_spreadBlock 150 = .ok (.iload_n 2, 1) := by decide +kernel
theorem dX0_spreadBlock_151 : decode cX0_spreadBlock 151 = .ok (.bipush 7, 2) := by decide +kernel
theorem dX0_spreadBlock_153 : decode cX0_spreadBlock 153 = .ok (.isub, 1) := by decide +kernel
theorem dX0_spreadBlock_154 : decode cX0_spreadBlock 154 = .ok (.iaload, 1) := by decide +kernel
theorem dX0_spreadBlock_155 : decode cX0_spreadBlock 155 = .ok (.iadd, 1) := by decide +kernel
theorem dX0_spreadBlock_156 : decode cX0_spreadBlock 156 = .ok (.iload 5, 2) := by decide +kernel
theorem dX0_spreadBlock_158 : decode cX0_spreadBlock 158 = .ok (.iadd, 1) := by decide +kernel
theorem dX0_spreadBlock_159 : decode cX0_spreadBlock 159 = .ok (.aload_n 0, 1) := by decide +kernel
theorem dX0_spreadBlock_160 : decode cX0_spreadBlock 160 = .ok (.getfield 19, 3) := by decide +kernel
theorem dX0_spreadBlock_163 : decode cX0_spreadBlock 163 = .ok (.iload_n 2, 1) := by decide +kernel
theorem dX0_spreadBlock_164 : decode cX0_spreadBlock 164 = .ok (.bipush 16, 2) := by decide +kernel
theorem dX0_spreadBlock_166 : decode cX0_spreadBlock 166 = .ok (.isub, 1) := by decide +kernel
theorem dX0_spreadBlock_167 : decode cX0_spreadBlock 167 = .ok (.iaload, 1) := by decide +kernel
theorem dX0_spreadBlock_168 : decode cX0_spreadBlock 168 = .ok (.iadd, 1) := by decide +kernel
theorem dX0_spreadBlock_169 : decode cX0_spreadBlock 169 = .ok (.iastore, 1) := by decide +kernel
theorem dX0_spreadBlock_170 : decode cX0_spreadBlock 170 = .ok (.iinc 2 1, 3) := by decide +kernel
theorem dX0_spreadBlock_173 : decode cX0_spreadBlock 173 = .ok (.goto (-102), 3) := by decide +kernel
theorem dX0_spreadBlock_176 : decode cX0_spreadBlock 176 = .ok (.return_, 1) := by decide +kernel
theorem dX0_stirState_0 : decode cX0_stirState 0 = .ok (.aload_n 0, 1) := by decide +kernel
theorem dX0_stirState_1 : decode cX0_stirState 1 = .ok (.getfield 22, 3) := by decide +kernel
theorem dX0_stirState_4 : decode cX0_stirState 4 = .ok (.iconst 0, 1) := by decide +kernel
theorem dX0_stirState_5 : decode cX0_stirState 5 = .ok (.iaload, 1) := by decide +kernel
theorem dX0_stirState_6 : decode cX0_stirState 6 = .ok (.istore_n 1, 1) := by decide +kernel
theorem dX0_stirState_7 : decode cX0_stirState 7 = .ok (.aload_n 0, 1) := by decide +kernel
theorem dX0_stirState_8 : decode cX0_stirState 8 = .ok (.getfield 22, 3) := by decide +kernel
theorem dX0_stirState_11 : decode cX0_stirState 11 = .ok (.iconst 1, 1) := by decide +kernel
theorem dX0_stirState_12 : decode cX0_stirState 12 = .ok (.iaload, 1) := by decide +kernel
theorem dX0_stirState_13 : decode cX0_stirState 13 = .ok (.istore_n 2, 1) := by decide +kernel
theorem dX0_stirState_14 : decode cX0_stirState 14 = .ok (.aload_n 0, 1) := by decide +kernel
theorem dX0_stirState_15 : decode cX0_stirState 15 = .ok (.getfield 22, 3) := by decide +kernel
theorem dX0_stirState_18 : decode cX0_stirState 18 = .ok (.iconst 2, 1) := by decide +kernel
theorem dX0_stirState_19 : decode cX0_stirState 19 = .ok (.iaload, 1) := by decide +kernel
theorem dX0_stirState_20 : decode cX0_stirState 20 = .ok (.istore_n 3, 1) := by decide +kernel
theorem dX0_stirState_21 : decode cX0_stirState 21 = .ok (.aload_n 0, 1) := by decide +kernel
theorem dX0_stirState_22 : decode cX0_stirState 22 = .ok (.getfield 22, 3) := by decide +kernel
theorem dX0_stirState_25 : decode cX0_stirState 25 = .ok (.iconst 3, 1) := by decide +kernel
theorem dX0_stirState_26 : decode cX0_stirState 26 = .ok (.iaload, 1) := by decide +kernel
theorem dX0_stirState_27 : decode cX0_stirState 27 = .ok (.istore 4, 2) := by decide +kernel
theorem dX0_stirState_29 : decode cX0_stirState 29 = .ok (.aload_n 0, 1) := by decide +kernel
theorem dX0_stirState_30 : decode cX0_stirState 30 = .ok (.getfield 22, 3) := by decide +kernel
theorem dX0_stirState_33 : decode cX0_stirState 33 = .ok (.iconst 4, 1) := by decide +kernel
theorem dX0_stirState_34 : decode cX0_stirState 34 = .ok (.iaload, 1) := by decide +kernel
theorem dX0_stirState_35 : decode cX0_stirState 35 = .ok (.istore 5, 2) := by decide +kernel
theorem dX0_stirState_37 : decode cX0_stirState 37 = .ok (.aload_n 0, 1) := by decide +kernel
theorem dX0_stirState_38 : decode cX0_stirState 38 = .ok (.getfield 22, 3) := by decide +kernel
theorem dX0_stirState_41 : decode cX0_stirState 41 = .ok (.iconst 5, 1) := by decide +kernel
theorem dX0_stirState_42 : decode cX0_stirState 42 = .ok (.iaload, 1) := by decide +kernel
theorem dX0_stirState_43 : decode cX0_stirState 43 = .ok (.istore 6, 2) := by decide +kernel
theorem dX0_stirState_45 : decode cX0_stirState 45 = .ok (.aload_n 0, 1) := by decide +kernel
theorem dX0_stirState_46 : decode cX0_stirState 46 = .ok (.getfield 22, 3) := by decide +kernel
theorem dX0_stirState_49 : decode cX0_stirState 49 = .ok (.bipush 6, 2) := by decide +kernel
theorem dX0_stirState_51 : decode cX0_stirState 51 = .ok (.iaload, 1) := by decide +kernel
theorem dX0_stirState_52 : decode cX0_stirState 52 = .ok (.istore 7, 2) := by decide +kernel
theorem dX0_stirState_54 : decode cX0_stirState 54 = .ok (.aload_n 0, 1) := by decide +kernel
theorem dX0_stirState_55 : decode cX0_stirState 55 = .ok (.getfield 22, 3) := by decide +kernel
theorem dX0_stirState_58 : decode cX0_stirState 58 = .ok (.bipush 7, 2) := by decide +kernel
theorem dX0_stirState_60 : decode cX0_stirState 60 = .ok (.iaload, 1) := by decide +kernel
theorem dX0_stirState_61 : decode cX0_stirState 61 = .ok (.istore 8, 2) := by decide +kernel
theorem dX0_stirState_63 : decode cX0_stirState 63 = .ok (.iconst 0, 1) := by decide +kernel
theorem dX0_stirState_64 : decode cX0_stirState 64 = .ok (.istore 9, 2) := by decide +kernel
theorem dX0_stirState_66 : decode cX0_stirState 66 = .ok (.iload 9, 2) := by decide +kernel
theorem dX0_stirState_68 : decode cX0_stirState 68 = .ok (.bipush 64, 2) := by decide +kernel
theorem dX0_stirState_70 : decode cX0_stirState 70 = .ok (.if_icmp .ge 143, 3) := by decide +kernel
theorem dX0_stirState_73 : decode cX0_stirState 73 = .ok (.iload 5, 2) := by decide +kernel
theorem dX0_stirState_75 : decode cX0_stirState 75 = .ok (.bipush 6, 2) := by decide +kernel
theorem dX0_stirState_77 : decode cX0_stirState 77 = .ok (.invokestatic 56, 3) := by decide +kernel
theorem dX0_stirState_80 : decode cX0_stirState 80 = .ok (.iload 5, 2) := by decide +kernel
theorem dX0_stirState_82 : decode cX0_stirState 82 = .ok (.bipush 11, 2) := by decide +kernel
theorem dX0_stirState_84 : decode cX0_stirState 84 = .ok (.invokestatic 56, 3) := by decide +kernel
theorem dX0_stirState_87 : decode cX0_stirState 87 = .ok (.ixor, 1) := by decide +kernel
theorem dX0_stirState_88 : decode cX0_stirState 88 = .ok (.iload 5, 2) := by decide +kernel
theorem dX0_stirState_90 : decode cX0_stirState 90 = .ok (.bipush 25, 2) := by decide +kernel
theorem dX0_stirState_92 : decode cX0_stirState 92 = .ok (.invokestatic 56, 3) := by decide +kernel
theorem dX0_stirState_95 : decode cX0_stirState 95 = .ok (.ixor, 1) := by decide +kernel
theorem dX0_stirState_96 : decode cX0_stirState 96 = .ok (.istore 10, 2) := by decide +kernel
theorem dX0_stirState_98 : decode cX0_stirState 98 = .ok (.iload 5, 2) := by decide +kernel
theorem dX0_stirState_100 : decode cX0_stirState 100 = .ok (.iload 6, 2) := by decide +kernel
theorem dX0_stirState_102 : decode cX0_stirState 102 = .ok (.iand, 1) := by decide +kernel
theorem dX0_stirState_103 : decode cX0_stirState 103 = .ok (.iload 5, 2) := by decide +kernel
theorem dX0_stirState_105 : decode cX0_stirState 105 = .ok (.iconst (-1), 1) := by decide +kernel
theorem dX0_stirState_106 : decode cX0_stirState 106 = .ok (.ixor, 1) := by decide +kernel
theorem dX0_stirState_107 : decode cX0_stirState 107 = .ok (.iload 7, 2) := by decide +kernel
theorem dX0_stirState_109 : decode cX0_stirState 109 = .ok (.iand, 1) := by decide +kernel
theorem dX0_stirState_110 : decode cX0_stirState 110 = .ok (.ixor, 1) := by decide +kernel
theorem dX0_stirState_111 : decode cX0_stirState 111 = .ok (.istore 11, 2) := by decide +kernel
theorem dX0_stirState_113 : decode cX0_stirState 113 = .ok (.iload 8, 2) := by decide +kernel
theorem dX0_stirState_115 : decode cX0_stirState 115 = .ok (.iload 10, 2) := by decide +kernel
theorem dX0_stirState_117 : decode cX0_stirState 117 = .ok (.iadd, 1) := by decide +kernel
theorem dX0_stirState_118 : decode cX0_stirState 118 = .ok (.iload 11, 2) := by decide +kernel
theorem dX0_stirState_120 : decode cX0_stirState 120 = .ok (.iadd, 1) := by decide +kernel
theorem dX0_stirState_121 : decode cX0_stirState 121 = .ok (.getstatic 61, 3) := by decide +kernel
theorem dX0_stirState_124 : decode cX0_stirState 124 = .ok (.iload 9, 2) := by decide +kernel
theorem dX0_stirState_126 : decode cX0_stirState 126 = .ok (.iaload, 1) := by decide +kernel
theorem dX0_stirState_127 : decode cX0_stirState 127 = .ok (.iadd, 1) := by decide +kernel
theorem dX0_stirState_128 : decode cX0_stirState 128 = .ok (.aload_n 0, 1) := by decide +kernel
theorem dX0_stirState_129 : decode cX0_stirState 129 = .ok (.getfield 19, 3) := by decide +kernel
theorem dX0_stirState_132 : decode cX0_stirState 132 = .ok (.iload 9, 2) := by decide +kernel
theorem dX0_stirState_134 : decode cX0_stirState 134 = .ok (.iaload, 1) := by decide +kernel
theorem dX0_stirState_135 : decode cX0_stirState 135 = .ok (.iadd, 1) := by decide +kernel
theorem dX0_stirState_136 : decode cX0_stirState 136 = .ok (.istore 12, 2) := by decide +kernel
theorem dX0_stirState_138 : decode cX0_stirState 138 = .ok (.iload_n 1, 1) := by decide +kernel
theorem dX0_stirState_139 : decode cX0_stirState 139 = .ok (.iconst 2, 1) := by decide +kernel
theorem dX0_stirState_140 : decode cX0_stirState 140 = .ok (.invokestatic 56, 3) := by decide +kernel
theorem dX0_stirState_143 : decode cX0_stirState 143 = .ok (.iload_n 1, 1) := by decide +kernel
theorem dX0_stirState_144 : decode cX0_stirState 144 = .ok (.bipush 13, 2) := by decide +kernel
theorem dX0_stirState_146 : decode cX0_stirState 146 = .ok (.invokestatic 56, 3) := by decide +kernel
theorem dX0_stirState_149 : decode cX0_stirState 149 = .ok (.ixor, 1) := by decide +kernel
theorem dX0_stirState_150 : decode cX0_stirState 150 = .ok (.iload_n 1, 1) := by decide +kernel
theorem dX0_stirState_151 : decode cX0_stirState 151 = .ok (.bipush 22, 2) := by decide +kernel
theorem dX0_stirState_153 : decode cX0_stirState 153 = .ok (.invokestatic 56, 3) := by decide +kernel
theorem dX0_stirState_156 : decode cX0_stirState 156 = .ok (.ixor, 1) := by decide +kernel
theorem dX0_stirState_157 : decode cX0_stirState 157 = .ok (.istore 13, 2) := by decide +kernel
theorem dX0_stirState_159 : decode cX0_stirState 159 = .ok (.iload_n 1, 1) := by decide +kernel
theorem dX0_stirState_160 : decode cX0_stirState 160 = .ok (.iload_n 2, 1) := by decide +kernel
theorem dX0_stirState_161 : decode cX0_stirState 161 = .ok (.iand, 1) := by decide +kernel
theorem dX0_stirState_162 : decode cX0_stirState 162 = .ok (.iload_n 1, 1) := by decide +kernel
theorem dX0_stirState_163 : decode cX0_stirState 163 = .ok (.iload_n 3, 1) := by decide +kernel
theorem dX0_stirState_164 : decode cX0_stirState 164 = .ok (.iand, 1) := by decide +kernel
theorem dX0_stirState_165 : decode cX0_stirState 165 = .ok (.ixor, 1) := by decide +kernel
theorem dX0_stirState_166 : decode cX0_stirState 166 = .ok (.iload_n 2, 1) := by decide +kernel
theorem dX0_stirState_167 : decode cX0_stirState 167 = .ok (.iload_n 3, 1) := by decide +kernel
theorem dX0_stirState_168 : decode cX0_stirState 168 = .ok (.iand, 1) := by decide +kernel
theorem dX0_stirState_169 : decode cX0_stirState 169 = .ok (.ixor, 1) := by decide +kernel
theorem dX0_stirState_170 : decode cX0_stirState 170 = .ok (.istore 14, 2) := by decide +kernel
theorem dX0_stirState_172 : decode cX0_stirState 172 = .ok (.iload 7, 2) := by decide +kernel
theorem dX0_stirState_174 : decode cX0_stirState 174 = .ok (.istore 8, 2) := by decide +kernel
theorem dX0_stirState_176 : decode cX0_stirState 176 = .ok (.iload 6, 2) := by decide +kernel
theorem dX0_stirState_178 : decode cX0_stirState 178 = .ok (.istore 7, 2) := by decide +kernel
theorem dX0_stirState_180 : decode cX0_stirState 180 = .ok (.iload 5, 2) := by decide +kernel
theorem dX0_stirState_182 : decode cX0_stirState 182 = .ok (.istore 6, 2) := by decide +kernel
theorem dX0_stirState_184 : decode cX0_stirState 184 = .ok (.iload 4, 2) := by decide +kernel
theorem dX0_stirState_186 : decode cX0_stirState 186 = .ok (.iload 12, 2) := by decide +kernel
theorem dX0_stirState_188 : decode cX0_stirState 188 = .ok (.iadd, 1) := by decide +kernel
theorem dX0_stirState_189 : decode cX0_stirState 189 = .ok (.istore 5, 2) := by decide +kernel
theorem dX0_stirState_191 : decode cX0_stirState 191 = .ok (.iload_n 3, 1) := by decide +kernel
theorem dX0_stirState_192 : decode cX0_stirState 192 = .ok (.istore 4, 2) := by decide +kernel
theorem dX0_stirState_194 : decode cX0_stirState 194 = .ok (.iload_n 2, 1) := by decide +kernel
theorem dX0_stirState_195 : decode cX0_stirState 195 = .ok (.istore_n 3, 1) := by decide +kernel
theorem dX0_stirState_196 : decode cX0_stirState 196 = .ok (.iload_n 1, 1) := by decide +kernel
theorem dX0_stirState_197 : decode cX0_stirState 197 = .ok (.istore_n 2, 1) := by decide +kernel
theorem dX0_stirState_198 : decode cX0_stirState 198 = .ok (.iload 12, 2) := by decide +kernel
theorem dX0_stirState_200 : decode cX0_stirState 200 = .ok (.iload 13, 2) := by decide +kernel
theorem dX0_stirState_202 : decode cX0_stirState 202 = .ok (.iadd, 1) := by decide +kernel
theorem dX0_stirState_203 : decode cX0_stirState 203 = .ok (.iload 14, 2) := by decide +kernel
theorem dX0_stirState_205 : decode cX0_stirState 205 = .ok (.iadd, 1) := by decide +kernel
theorem dX0_stirState_206 : decode cX0_stirState 206 = .ok (.istore_n 1, 1) := by decide +kernel
theorem dX0_stirState_207 : decode cX0_stirState 207 = .ok (.iinc 9 1, 3) := by decide +kernel
theorem dX0_stirState_210 : decode cX0_stirState 210 = .ok (.goto (-144), 3) := by decide +kernel
theorem dX0_stirState_213 : decode cX0_stirState 213 = .ok (.aload_n 0, 1) := by decide +kernel
theorem dX0_stirState_214 : decode cX0_stirState 214 = .ok (.getfield 22, 3) := by decide +kernel
theorem dX0_stirState_217 : decode cX0_stirState 217 = .ok (.iconst 0, 1) := by decide +kernel
theorem dX0_stirState_218 : decode cX0_stirState 218 = .ok (.dup2, 1) := by decide +kernel
theorem dX0_stirState_219 : decode cX0_stirState 219 = .ok (.iaload, 1) := by decide +kernel
theorem dX0_stirState_220 : decode cX0_stirState 220 = .ok (.iload_n 1, 1) := by decide +kernel
theorem dX0_stirState_221 : decode cX0_stirState 221 = .ok (.iadd, 1) := by decide +kernel
theorem dX0_stirState_222 : decode cX0_stirState 222 = .ok (.iastore, 1) := by decide +kernel
theorem dX0_stirState_223 : decode cX0_stirState 223 = .ok (.aload_n 0, 1) := by decide +kernel
theorem dX0_stirState_224 : decode cX0_stirState 224 = .ok (.getfield 22, 3) := by decide +kernel
theorem dX0_stirState_227 : decode cX0_stirState 227 = .ok (.iconst 1, 1) := by decide +kernel
theorem dX0_stirState_228 : decode cX0_stirState 228 = .ok (.dup2, 1) := by decide +kernel
theorem dX0_stirState_229 : decode cX0_stirState 229 = .ok (.iaload, 1) := by decide +kernel
theorem dX0_stirState_230 : decode cX0_stirState 230 = .ok (.iload_n 2, 1) := by decide +kernel
theorem dX0_stirState_231 : decode cX0_stirState 231 = .ok (.iadd, 1) := by decide +kernel
theorem dX0_stirState_232 : decode cX0_stirState 232 = .ok (.iastore, 1) := by decide +kernel
theorem dX0_stirState_233 : decode cX0_stirState 233 = .ok (.aload_n 0, 1) := by decide +kernel
theorem dX0_stirState_234 : decode cX0_stirState 234 = .ok (.getfield 22, 3) := by decide +kernel
theorem dX0_stirState_237 : decode cX0_stirState 237 = .ok (.iconst 2, 1) := by decide +kernel
theorem dX0_stirState_238 : decode cX0_stirState 238 = .ok (.dup2, 1) := by decide +kernel
theorem dX0_stirState_239 : decode cX0_stirState 239 = .ok (.iaload, 1) := by decide +kernel
theorem dX0_stirState_240 : decode cX0_stirState 240 = .ok (.iload_n 3, 1) := by decide +kernel
theorem dX0_stirState_241 : decode cX0_stirState 241 = .ok (.iadd, 1) := by decide +kernel
theorem dX0_stirState_242 : decode cX0_stirState 242 = .ok (.iastore, 1) := by decide +kernel
theorem dX0_stirState_243 : decode cX0_stirState 243 = .ok (.aload_n 0, 1) := by decide +kernel
theorem dX0_stirState_244 : decode cX0_stirState 244 = .ok (.getfield 22, 3) := by decide +kernel
theorem dX0_stirState_247 : decode cX0_stirState 247 = .ok (.iconst 3, 1) := by decide +kernel
theorem dX0_stirState_248 : decode cX0_stirState 248 = .ok (.dup2, 1) := by decide +kernel
theorem dX0_stirState_249 : decode cX0_stirState 249 = .ok (.iaload, 1) := by decide +kernel
theorem dX0_stirState_250 : decode cX0_stirState 250 = .ok (.iload 4, 2) := by decide +kernel
theorem dX0_stirState_252 : decode cX0_stirState 252 = .ok (.iadd, 1) := by decide +kernel
theorem dX0_stirState_253 : decode cX0_stirState 253 = .ok (.iastore, 1) := by decide +kernel
theorem dX0_stirState_254 : decode cX0_stirState 254 = .ok (.aload_n 0, 1) := by decide +kernel
theorem dX0_stirState_255 : decode cX0_stirState 255 = .ok (.getfield 22, 3) := by decide +kernel
theorem dX0_stirState_258 : decode cX0_stirState 258 = .ok (.iconst 4, 1) := by decide +kernel
theorem dX0_stirState_259 : decode cX0_stirState 259 = .ok (.dup2, 1) := by decide +kernel
theorem dX0_stirState_260 : decode cX0_stirState 260 = .ok (.iaload, 1) := by decide +kernel
theorem dX0_stirState_261 : decode cX0_stirState 261 = .ok (.iload 5, 2) := by decide +kernel
theorem dX0_stirState_263 : decode cX0_stirState 263 = .ok (.iadd, 1) := by decide +kernel
theorem dX0_stirState_264 : decode cX0_stirState 264 = .ok (.iastore, 1) := by decide +kernel
theorem dX0_stirState_265 : decode cX0_stirState 265 = .ok (.aload_n 0, 1) := by decide +kernel
theorem dX0_stirState_266 : decode cX0_stirState 266 = .ok (.getfield 22, 3) := by decide +kernel
theorem dX0_stirState_269 : decode cX0_stirState 269 = .ok (.iconst 5, 1) := by decide +kernel
theorem dX0_stirState_270 : decode cX0_stirState 270 = .ok (.dup2, 1) := by decide +kernel
theorem dX0_stirState_271 : decode cX0_stirState 271 = .ok (.iaload, 1) := by decide +kernel
theorem dX0_stirState_272 : decode cX0_stirState 272 = .ok (.iload 6, 2) := by decide +kernel
theorem dX0_stirState_274 : decode cX0_stirState 274 = .ok (.iadd, 1) := by decide +kernel
theorem dX0_stirState_275 : decode cX0_stirState 275 = .ok (.iastore, 1) := by decide +kernel
theorem dX0_stirState_276 : decode cX0_stirState 276 = .ok (.aload_n 0, 1) := by decide +kernel
theorem dX0_stirState_277 : decode cX0_stirState 277 = .ok (.getfield 22, 3) := by decide +kernel
theorem dX0_stirState_280 : decode cX0_stirState 280 = .ok (.bipush 6, 2) := by decide +kernel
theorem dX0_stirState_282 : decode cX0_stirState 282 = .ok (.dup2, 1) := by decide +kernel
theorem dX0_stirState_283 : decode cX0_stirState 283 = .ok (.iaload, 1) := by decide +kernel
theorem dX0_stirState_284 : decode cX0_stirState 284 = .ok (.iload 7, 2) := by decide +kernel
theorem dX0_stirState_286 : decode cX0_stirState 286 = .ok (.iadd, 1) := by decide +kernel
theorem dX0_stirState_287 : decode cX0_stirState 287 = .ok (.iastore, 1) := by decide +kernel
theorem dX0_stirState_288 : decode cX0_stirState 288 = .ok (.aload_n 0, 1) := by decide +kernel
theorem dX0_stirState_289 : decode cX0_stirState 289 = .ok (.getfield 22, 3) := by decide +kernel
theorem dX0_stirState_292 : decode cX0_stirState 292 = .ok (.bipush 7, 2) := by decide +kernel
theorem dX0_stirState_294 : decode cX0_stirState 294 = .ok (.dup2, 1) := by decide +kernel
theorem dX0_stirState_295 : decode cX0_stirState 295 = .ok (.iaload, 1) := by decide +kernel
theorem dX0_stirState_296 : decode cX0_stirState 296 = .ok (.iload 8, 2) := by decide +kernel
theorem dX0_stirState_298 : decode cX0_stirState 298 = .ok (.iadd, 1) := by decide +kernel
theorem dX0_stirState_299 : decode cX0_stirState 299 = .ok (.iastore, 1) := by decide +kernel
theorem dX0_stirState_300 : decode cX0_stirState 300 = .ok (.return_, 1) := by decide +kernel
