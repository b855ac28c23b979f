theorem dX1_init_0 : decode cX1_init 0 = .ok (.aload_n 0, 1) := by decide +kernel
theorem dX1_init_1 : decode cX1_init 1 = .ok (.invokespecial 1, 3) := by decide +kernel
theorem dX1_init_4 : decode cX1_init 4 = .ok (.aload_n 0, 1) := by decide +kernel
theorem dX1_init_5 : decode cX1_init 5 = .ok (.new 7, 3) := by decide +kernel
theorem dX1_init_8 : decode cX1_init 8 = .ok (.dup, 1) := by decide +kernel
theorem dX1_init_9 : decode cX1_init 9 = .ok (.invokespecial 9, 3) := by decide +kernel
theorem dX1_init_12 : decode cX1_init 12 = .ok (.putfield 10, 3) := by decide +kernel
theorem dX1_init_15 : decode cX1_init 15 = .ok (.aload_n 0, 1) := by decide +kernel
theorem dX1_init_16 : decode cX1_init 16 = .ok (.sipush 200, 3) := by decide +kernel
theorem dX1_init_19 : decode cX1_init 19 = .ok (.newarray .int, 2) := by decide +kernel
theorem dX1_init_21 : decode cX1_init 21 = .ok (.putfield 16, 3) := by decide +kernel
theorem dX1_init_24 : decode cX1_init 24 = .ok (.aload_n 0, 1) := by decide +kernel
theorem dX1_init_25 : decode cX1_init 25 = .ok (.iconst 0, 1) := by decide +kernel
theorem dX1_init_26 : decode cX1_init 26 = .ok (.putfield 20, 3) := by decide +kernel
theorem dX1_init_29 : decode cX1_init 29 = .ok (.aload_n 0, 1) := by decide +kernel
theorem dX1_init_30 : decode cX1_init 30 = .ok (.bipush 24, 2) := by decide +kernel
theorem dX1_init_32 : decode cX1_init 32 = .ok (.bipush 32, 2) := by decide +kernel
theorem dX1_init_34 : decode cX1_init 34 = .ok (.multianewarray 24 2, 4) := by decide +kernel
theorem dX1_init_38 : decode cX1_init 38 = .ok (.putfield 26, 3) := by decide +kernel
theorem dX1_init_41 : decode cX1_init 41 = .ok (.aload_n 0, 1) := by decide +kernel
theorem dX1_init_42 : decode cX1_init 42 = .ok (.bipush 24, 2) := by decide +kernel
theorem dX1_init_44 : decode cX1_init 44 = .ok (.newarray .boolean, 2) := by decide +kernel
theorem dX1_init_46 : decode cX1_init 46 = .ok (.putfield 29, 3) := by decide +kernel
theorem dX1_init_49 : decode cX1_init 49 = .ok (.aload_n 0, 1) := by decide +kernel
theorem dX1_init_50 : decode cX1_init 50 = .ok (.iconst 0, 1) := by decide +kernel
theorem dX1_init_51 : decode cX1_init 51 = .ok (.putfield 33, 3) := by decide +kernel
theorem dX1_init_54 : decode cX1_init 54 = .ok (.aload_n 0, 1) := by decide +kernel
theorem dX1_init_55 : decode cX1_init 55 = .ok (.iconst 0, 1) := by decide +kernel
theorem dX1_init_56 : decode cX1_init 56 = .ok (.putfield 36, 3) := by decide +kernel
theorem dX1_init_59 : decode cX1_init 59 = .ok (.aload_n 0, 1) := by decide +kernel
theorem dX1_init_60 : decode cX1_init 60 = .ok (.bipush 12, 2) := by decide +kernel
theorem dX1_init_62 : decode cX1_init 62 = .ok (.bipush 32, 2) := by decide +kernel
theorem dX1_init_64 : decode cX1_init 64 = .ok (.multianewarray 24 2, 4) := by decide +kernel
theorem dX1_init_68 : decode cX1_init 68 = .ok (.putfield 39, 3) := by decide +kernel
theorem dX1_init_71 : decode cX1_init 71 = .ok (.aload_n 0, 1) := by decide +kernel
theorem dX1_init_72 : decode cX1_init 72 = .ok (.bipush 12, 2) := by decide +kernel
theorem dX1_init_74 : decode cX1_init 74 = .ok (.newarray .int, 2) := by decide +kernel
theorem dX1_init_76 : decode cX1_init 76 = .ok (.putfield 42, 3) := by decide +kernel
theorem dX1_init_79 : decode cX1_init 79 = .ok (.aload_n 0, 1) := by decide +kernel
theorem dX1_init_80 : decode cX1_init 80 = .ok (.iconst 0, 1) := by decide +kernel
theorem dX1_init_81 : decode cX1_init 81 = .ok (.putfield 45, 3) := by decide +kernel
theorem dX1_init_84 : decode cX1_init 84 = .ok (.aload_n 0, 1) := by decide +kernel
theorem dX1_init_85 : decode cX1_init 85 = .ok (.iconst 5, 1) := by decide +kernel
theorem dX1_init_86 : decode cX1_init 86 = .ok (.bipush 32, 2) := by decide +kernel
theorem dX1_init_88 : decode cX1_init 88 = .ok (.multianewarray 24 2, 4) := by decide +kernel
theorem dX1_init_92 : decode cX1_init 92 = .ok (.putfield 48, 3) := by decide +kernel
theorem dX1_init_95 : decode cX1_init 95 = .ok (.aload_n 0, 1) := by decide +kernel
theorem dX1_init_96 : decode cX1_init 96 = .ok (.iconst (-1), 1) := by decide +kernel
theorem dX1_init_97 : decode cX1_init 97 = .ok (.putfield 51, 3) := by decide +kernel
theorem dX1_init_100 : decode cX1_init 100 = .ok (.aload_n 0, 1) := by decide +kernel
theorem dX1_init_101 : decode cX1_init 101 = .ok (.bipush 24, 2) := by decide +kernel
theorem dX1_init_103 : decode cX1_init 103 = .ok (.bipush 32, 2) := by decide +kernel
theorem dX1_init_105 : decode cX1_init 105 = .ok (.multianewarray 24 2, 4) := by decide +kernel
theorem dX1_init_109 : decode cX1_init 109 = .ok (.putfield 54, 3) := by decide +kernel
theorem dX1_init_112 : decode cX1_init 112 = .ok (.aload_n 0, 1) := by decide +kernel
theorem dX1_init_113 : decode cX1_init 113 = .ok (.bipush 32, 2) := by decide +kernel
theorem dX1_init_115 : decode cX1_init 115 = .ok (.newarray .int, 2) := by decide +kernel
theorem dX1_init_117 : decode cX1_init 117 = .ok (.putfield 57, 3) := by decide +kernel
theorem dX1_init_120 : decode cX1_init 120 = .ok (.return_, 1) := by decide +kernel
theorem dX1_feed_0 : decode cX1_feed 0 = .ok (.iload_n 3, 1) := by decide +kernel
theorem dX1_feed_1 : decode cX1_feed 1 = .ok (.iconst 1, 1) := by decide +kernel
theorem dX1_feed_2 : decode cX1_feed 2 = .ok (.if_icmp .lt 9, 3) := by decide +kernel
theorem dX1_feed_5 : decode cX1_feed 5 = .ok (.iload_n 3, 1) := by decide +kernel
theorem dX1_feed_6 : decode cX1_feed 6 = .ok (.bipush 8, 2) := by decide +kernel
theorem dX1_feed_8 : decode cX1_feed 8 = .ok (.if_icmp .le 13, 3) := by decide +kernel
theorem dX1_feed_11 : decode cX1_feed 11 = .ok (.new 60, 3) := by decide +kernel
theorem dX1_feed_14 : decode cX1_feed 14 = .ok (.dup, 1) := by decide +kernel
theorem dX1_feed_15 : decode cX1_feed 15 = .ok (.ldc 62, 2) := by decide +kernel
theorem dX1_feed_17 : decode cX1_feed 17 = .ok (.invokespecial 64, 3) := by decide +kernel
theorem dX1_feed_20 : decode cX1_feed 20 = .ok (.athrow, 1) := by decide +kernel
theorem dX1_feed_21 : decode cX1_feed 21 = .ok (.aload_n 0, 1) := by decide +kernel
theorem dX1_feed_22 : decode cX1_feed 22 = .ok (.getfield 20, 3) := by decide +kernel
theorem dX1_feed_25 : decode cX1_feed 25 = .ok (.iload_n 3, 1) := by decide +kernel
theorem dX1_feed_26 : decode cX1_feed 26 = .ok (.iadd, 1) := by decide +kernel
theorem dX1_feed_27 : decode cX1_feed 27 = .ok (.sipush 200, 3) := by decide +kernel
theorem dX1_feed_30 : decode cX1_feed 30 = .ok (.if_icmp .le 13, 3) := by decide +kernel
theorem dX1_feed_33 : decode cX1_feed 33 = .ok (.new 67, 3) := by decide +kernel
theorem dX1_feed_36 : decode cX1_feed 36 = .ok (.dup, 1) := by decide +kernel
theorem dX1_feed_37 : decode cX1_feed 37 = .ok (.ldc 69, 2) := by decide +kernel
theorem dX1_feed_39 : decode cX1_feed 39 = .ok (.invokespecial 71, 3) := by decide +kernel
theorem dX1_feed_42 : decode cX1_feed 42 = .ok (.athrow, 1) := by decide +kernel
theorem dX1_feed_43 : decode cX1_feed 43 = .ok (.iload_n 3, 1) := by decide +kernel
theorem dX1_feed_44 : decode cX1_feed 44 = .ok (.iconst 1, 1) := by decide +kernel
theorem dX1_feed_45 : decode cX1_feed 45 = .ok (.isub, 1) := by decide +kernel
theorem dX1_feed_46 : decode cX1_feed 46 = .ok (.istore 4, 2) := by decide +kernel
theorem dX1_feed_48 : decode cX1_feed 48 = .ok (.iload 4, 2) := by decide +kernel
theorem dX1_feed_50 : decode cX1_feed 50 = .ok (.ifCond .lt 40, 3) := by decide +kernel
theorem dX1_feed_53 : decode cX1_feed 53 = .ok (.aload_n 0, 1) := by decide +kernel
theorem dX1_feed_54 : decode cX1_feed 54 = .ok (.getfield 16, 3) := by decide +kernel
theorem dX1_feed_57 : decode cX1_feed 57 = .ok (.aload_n 0, 1) := by decide +kernel
theorem dX1_feed_58 : decode cX1_feed 58 = .ok (.getfield 20, 3) := by decide +kernel
theorem dX1_feed_61 : decode cX1_feed 61 = .ok (.lload_n 1, 1) := by decide +kernel
theorem dX1_feed_62 : decode cX1_feed 62 = .ok (.bipush 8, 2) := by decide +kernel
theorem dX1_feed_64 : decode cX1_feed 64 = .ok (.iload 4, 2) := by decide +kernel
theorem dX1_feed_66 : decode cX1_feed 66 = .ok (.imul, 1) := by decide +kernel
theorem dX1_feed_67 : decode cX1_feed 67 = .ok (.lushr, 1) := by decide +kernel
theorem dX1_feed_68 : decode cX1_feed 68 = .ok (.l2i, 1) := by decide +kernel
theorem dX1_feed_69 : decode cX1_feed 69 = .ok (.sipush 255, 3) := by decide +kernel
theorem dX1_feed_72 : decode cX1_feed 72 = .ok (.iand, 1) := by decide +kernel
theorem dX1_feed_73 : decode cX1_feed 73 = .ok (.iastore, 1) := by decide +kernel
theorem dX1_feed_74 : decode cX1_feed 74 = .ok (.aload_n 0, 1) := by decide +kernel
theorem dX1_feed_75 : decode cX1_feed 75 = .ok (.dup, 1) := by decide +kernel
theorem dX1_feed_76 : decode cX1_feed 76 = .ok (.getfield 20, 3) := by decide +kernel
theorem dX1_feed_79 : decode cX1_feed 79 = .ok (.iconst 1, 1) := by decide +kernel
theorem dX1_feed_80 : decode cX1_feed 80 = .ok (.iadd, 1) := by decide +kernel
theorem dX1_feed_81 : decode cX1_feed 81 = .ok (.putfield 20, 3) := by decide +kernel
theorem dX1_feed_84 : decode cX1_feed 84 = .ok (.iinc 4 (-1), 3) := by decide +kernel
theorem dX1_feed_87 : decode cX1_feed 87 = .ok (.goto (-39), 3) := by decide +kernel
theorem dX1_feed_90 : decode cX1_feed 90 = .ok (.aload_n 0, 1) := by decide +kernel
theorem dX1_feed_91 : decode cX1_feed 91 = .ok (.getfield 20, 3) := by decide +kernel
theorem dX1_feed_94 : decode cX1_feed 94 = .ok (.ireturn, 1) := by decide +kernel
theorem dX1_leaf_0 : decode cX1_leaf 0 = .ok (.aload_n 0, 1) := by decide +kernel
theorem dX1_leaf_1 : decode cX1_leaf 1 = .ok (.getfield 33, 3) := by decide +kernel
theorem dX1_leaf_4 : decode cX1_leaf 4 = .ok (.bipush 24, 2) := by decide +kernel
theorem dX1_leaf_6 : decode cX1_leaf 6 = .ok (.if_icmp .lt 13, 3) := by decide +kernel
theorem dX1_leaf_9 : decode cX1_leaf 9 = .ok (.new 67, 3) := by decide +kernel
theorem dX1_leaf_12 : decode cX1_leaf 12 = .ok (.dup, 1) := by decide +kernel
theorem dX1_leaf_13 : decode cX1_leaf 13 = .ok (.ldc 72, 2) := by decide +kernel
theorem dX1_leaf_15 : decode cX1_leaf 15 = .ok (.invokespecial 71, 3) := by decide +kernel
theorem dX1_leaf_18 : decode cX1_leaf 18 = .ok (.athrow, 1) := by decide +kernel
theorem dX1_leaf_19 : decode cX1_leaf 19 = .ok (.aload_n 0, 1) := by decide +kernel
theorem dX1_leaf_20 : decode cX1_leaf 20 = .ok (.getfield 10, 3) := by decide +kernel
theorem dX1_leaf_23 : decode cX1_leaf 23 = .ok (.invokevirtual 74, 3) := by decide +kernel
theorem dX1_leaf_26 : decode cX1_leaf 26 = .ok (.aload_n 0, 1) := by decide +kernel
theorem dX1_leaf_27 : decode cX1_leaf 27 = .ok (.getfield 10, 3) := by decide +kernel
theorem dX1_leaf_30 : decode cX1_leaf 30 = .ok (.iconst 0, 1) := by decide +kernel
theorem dX1_leaf_31 : decode cX1_leaf 31 = .ok (.invokevirtual 77, 3) := by decide +kernel
theorem dX1_leaf_34 : decode cX1_leaf 34 = .ok (.aload_n 0, 1) := by decide +kernel
theorem dX1_leaf_35 : decode cX1_leaf 35 = .ok (.getfield 10, 3) := by decide +kernel
theorem dX1_leaf_38 : decode cX1_leaf 38 = .ok (.aload_n 0, 1) := by decide +kernel
theorem dX1_leaf_39 : decode cX1_leaf 39 = .ok (.getfield 16, 3) := by decide +kernel
theorem dX1_leaf_42 : decode cX1_leaf 42 = .ok (.aload_n 0, 1) := by decide +kernel
theorem dX1_leaf_43 : decode cX1_leaf 43 = .ok (.getfield 20, 3) := by decide +kernel
theorem dX1_leaf_46 : decode cX1_leaf 46 = .ok (.invokevirtual 81, 3) := by decide +kernel
theorem dX1_leaf_49 : decode cX1_leaf 49 = .ok (.aload_n 0, 1) := by decide +kernel
theorem dX1_leaf_50 : decode cX1_leaf 50 = .ok (.getfield 10, 3) := by decide +kernel
theorem dX1_leaf_53 : decode cX1_leaf 53 = .ok (.aload_n 0, 1) := by decide +kernel
theorem dX1_leaf_54 : decode cX1_leaf 54 = .ok (.getfield 26, 3) := by decide +kernel
theorem dX1_leaf_57 : decode cX1_leaf 57 = .ok (.aload_n 0, 1) := by decide +kernel
theorem dX1_leaf_58 : decode cX1_leaf 58 = .ok (.getfield 33, 3) := by decide +kernel
theorem dX1_leaf_61 : decode cX1_leaf 61 = .ok (.aaload, 1) := by decide +kernel
theorem dX1_leaf_62 : decode cX1_leaf 62 = .ok (.invokevirtual 85, 3) := by decide +kernel
theorem dX1_leaf_65 : decode cX1_leaf 65 = .ok (.aload_n 0, 1) := by decide +kernel
theorem dX1_leaf_66 : decode cX1_leaf 66 = .ok (.iconst 0, 1) := by decide +kernel
theorem dX1_leaf_67 : decode cX1_leaf 67 = .ok (.putfield 20, 3) := by decide +kernel
theorem dX1_leaf_70 : decode cX1_leaf 70 = .ok (.aload_n 0, 1) := by decide +kernel
theorem dX1_leaf_71 : decode cX1_leaf 71 = .ok (.dup, 1) := by decide +kernel
theorem dX1_leaf_72 : decode cX1_leaf 72 = .ok (.getfield 33, 3) := by decide +kernel
theorem dX1_leaf_75 : decode cX1_leaf 75 = .ok (.iconst 1, 1) := by decide +kernel
theorem dX1_leaf_76 : decode cX1_leaf 76 = .ok (.iadd, 1) := by decide +kernel
theorem dX1_leaf_77 : decode cX1_leaf 77 = .ok (.putfield 33, 3) := by decide +kernel
theorem dX1_leaf_80 : decode cX1_leaf 80 = .ok (.aload_n 0, 1) := by decide +kernel
theorem dX1_leaf_81 : decode cX1_leaf 81 = .ok (.getfield 33, 3) := by decide +kernel
theorem dX1_leaf_84 : decode cX1_leaf 84 = .ok (.iconst 1, 1) := by decide +kernel
theorem dX1_leaf_85 : decode cX1_leaf 85 = .ok (.isub, 1) := by decide +kernel
theorem dX1_leaf_86 : decode cX1_leaf 86 = .ok (.ireturn, 1) := by decide +kernel
theorem dX1_close_0 : decode cX1_close 0 = .ok (.aload_n 0, 1) := by decide +kernel
theorem dX1_close_1 : decode cX1_close 1 = .ok (.getfield 45, 3) := by decide +kernel
theorem dX1_close_4 : decode cX1_close 4 = .ok (.bipush 12, 2) := by decide +kernel
theorem dX1_close_6 : decode cX1_close 6 = .ok (.if_icmp .lt 13, 3) := by decide +kernel
theorem dX1_close_9 : decode cX1_close 9 = .ok (.new 67, 3) := by decide +kernel
theorem dX1_close_12 : decode cX1_close 12 = .ok (.dup, 1) := by decide +kernel
theorem dX1_close_13 : decode cX1_close 13 = .ok (.ldc 89, 2) := by decide +kernel
theorem dX1_close_15 : decode cX1_close 15 = .ok (.invokespecial 71, 3) := by decide +kernel
theorem dX1_close_18 : decode cX1_close 18 = .ok (.athrow, 1) := by decide +kernel
theorem dX1_close_19 : decode cX1_close 19 = .ok (.aload_n 0, 1) := by decide +kernel
theorem dX1_close_20 : decode cX1_close 20 = .ok (.aload_n 0, 1) := by decide +kernel
theorem dX1_close_21 : decode cX1_close 21 = .ok (.getfield 33, 3) := by decide +kernel
theorem dX1_close_24 : decode cX1_close 24 = .ok (.aload_n 0, 1) := by decide +kernel
theorem dX1_close_25 : decode cX1_close 25 = .ok (.getfield 39, 3) := by decide +kernel
theorem dX1_close_28 : decode cX1_close 28 = .ok (.aload_n 0, 1) := by decide +kernel
theorem dX1_close_29 : decode cX1_close 29 = .ok (.getfield 45, 3) := by decide +kernel
theorem dX1_close_32 : decode cX1_close 32 = .ok (.aaload, 1) := by decide +kernel
theorem dX1_close_33 : decode cX1_close 33 = .ok (.invokevirtual 91, 3) := by decide +kernel
theorem dX1_close_36 : decode cX1_close 36 = .ok (.aload_n 0, 1) := by decide +kernel
theorem dX1_close_37 : decode cX1_close 37 = .ok (.getfield 42, 3) := by decide +kernel
theorem dX1_close_40 : decode cX1_close 40 = .ok (.aload_n 0, 1) := by decide +kernel
theorem dX1_close_41 : decode cX1_close 41 = .ok (.getfield 45, 3) := by decide +kernel
theorem dX1_close_44 : decode cX1_close 44 = .ok (.aload_n 0, 1) := by decide +kernel
theorem dX1_close_45 : decode cX1_close 45 = .ok (.getfield 33, 3) := by decide +kernel
theorem dX1_close_48 : decode cX1_close 48 = .ok (.iastore, 1) := by decide +kernel
theorem dX1_close_49 : decode cX1_close 49 = .ok (.aload_n 0, 1) := by decide +kernel
theorem dX1_close_50 : decode cX1_close 50 = .ok (.dup, 1) := by decide +kernel
theorem dX1_close_51 : decode cX1_close 51 = .ok (.getfield 45, 3) := by decide +kernel
theorem dX1_close_54 : decode cX1_close 54 = .ok (.iconst 1, 1) := by decide +kernel
theorem dX1_close_55 : decode cX1_close 55 = .ok (.iadd, 1) := by decide +kernel
theorem dX1_close_56 : decode cX1_close 56 = .ok (.putfield 45, 3) := by decide +kernel
theorem dX1_close_59 : decode cX1_close 59 = .ok (.aload_n 0, 1) := by decide +kernel
theorem dX1_close_60 : decode cX1_close 60 = .ok (.getfield 45, 3) := by decide +kernel
theorem dX1_close_63 : decode cX1_close 63 = .ok (.iconst 1, 1) := by decide +kernel
theorem dX1_close_64 : decode cX1_close 64 = .ok (.isub, 1) := by decide +kernel
theorem dX1_close_65 : decode cX1_close 65 = .ok (.ireturn, 1) := by decide +kernel
theorem dX1_treeInto_0 : decode cX1_treeInto 0 = .ok (.iload_n 1, 1) := by decide +kernel
theorem dX1_treeInto_1 : decode cX1_treeInto 1 = .ok (.iconst 1, 1) := by decide +kernel
theorem dX1_treeInto_2 : decode cX1_treeInto 2 = .ok (.if_icmp .ge 19, 3) := by decide +kernel
theorem dX1_treeInto_5 : decode cX1_treeInto 5 = .ok (.aload_n 0, 1) := by decide +kernel
theorem dX1_treeInto_6 : decode cX1_treeInto 6 = .ok (.getfield 10, 3) := by decide +kernel
theorem dX1_treeInto_9 : decode cX1_treeInto 9 = .ok (.invokevirtual 74, 3) := by decide +kernel
theorem dX1_treeInto_12 : decode cX1_treeInto 12 = .ok (.aload_n 0, 1) := by decide +kernel
theorem dX1_treeInto_13 : decode cX1_treeInto 13 = .ok (.getfield 10, 3) := by decide +kernel
theorem dX1_treeInto_16 : decode cX1_treeInto 16 = .ok (.aload_n 2, 1) := by decide +kernel
theorem dX1_treeInto_17 : decode cX1_treeInto 17 = .ok (.invokevirtual 85, 3) := by decide +kernel
theorem dX1_treeInto_20 : decode cX1_treeInto 20 = .ok (.return_, 1) := by decide +kernel
theorem dX1_treeInto_21 : decode cX1_treeInto 21 = .ok (.aload_n 0, 1) := by decide +kernel
theorem dX1_treeInto_22 : decode cX1_treeInto 22 = .ok (.iload_n 1, 1) := by decide +kernel
theorem dX1_treeInto_23 : decode cX1_treeInto 23 = .ok (.invokevirtual 167, 3) := by decide +kernel
theorem dX1_treeInto_26 : decode cX1_treeInto 26 = .ok (.iload_n 1, 1) := by decide +kernel
theorem dX1_treeInto_27 : decode cX1_treeInto 27 = .ok (.istore_n 3, 1) := by decide +kernel
theorem dX1_treeInto_28 : decode cX1_treeInto 28 = .ok (.iload_n 3, 1) := by decide +kernel
theorem dX1_treeInto_29 : decode cX1_treeInto 29 = .ok (.iconst 1, 1) := by decide +kernel
theorem dX1_treeInto_30 : decode cX1_treeInto 30 = .ok (.if_icmp .le 17, 3) := by decide +kernel
theorem dX1_treeInto_33 : decode cX1_treeInto 33 = .ok (.aload_n 0, 1) := by decide +kernel
theorem dX1_treeInto_34 : decode cX1_treeInto 34 = .ok (.iload_n 3, 1) := by decide +kernel
theorem dX1_treeInto_35 : decode cX1_treeInto 35 = .ok (.invokevirtual 170, 3) := by decide +kernel
theorem dX1_treeInto_38 : decode cX1_treeInto 38 = .ok (.iload_n 3, 1) := by decide +kernel
theorem dX1_treeInto_39 : decode cX1_treeInto 39 = .ok (.iload_n 3, 1) := by decide +kernel
theorem dX1_treeInto_40 : decode cX1_treeInto 40 = .ok (.iconst 2, 1) := by decide +kernel
theorem dX1_treeInto_41 : decode cX1_treeInto 41 = .ok (.idiv, 1) := by decide +kernel
theorem dX1_treeInto_42 : decode cX1_treeInto 42 = .ok (.isub, 1) := by decide +kernel
theorem dX1_treeInto_43 : decode cX1_treeInto 43 = .ok (.istore_n 3, 1) := by decide +kernel
theorem dX1_treeInto_44 : decode cX1_treeInto 44 = .ok (.goto (-16), 3) := by decide +kernel
theorem dX1_treeInto_47 : decode cX1_treeInto 47 = .ok (.aload_n 0, 1) := by decide +kernel
theorem dX1_treeInto_48 : decode cX1_treeInto 48 = .ok (.getfield 54, 3) := by decide +kernel
theorem dX1_treeInto_51 : decode cX1_treeInto 51 = .ok (.iconst 0, 1) := by decide +kernel
theorem dX1_treeInto_52 : decode cX1_treeInto 52 = .ok (.aaload, 1) := by decide +kernel
theorem dX1_treeInto_53 : decode cX1_treeInto 53 = .ok (.aload_n 2, 1) := by decide +kernel
theorem dX1_treeInto_54 : decode cX1_treeInto 54 = .ok (.invokestatic 173, 3) := by decide +kernel
theorem dX1_treeInto_57 : decode cX1_treeInto 57 = .ok (.return_, 1) := by decide +kernel
theorem dX1_layLeaves_0 : decode cX1_layLeaves 0 = .ok (.iconst 0, 1) := by decide +kernel
theorem dX1_layLeaves_1 : decode cX1_layLeaves 1 = .ok (.istore_n 2, 1) := by decide +kernel
theorem dX1_layLeaves_2 : decode cX1_layLeaves 2 = .ok (.iload_n 2, 1) := by decide +kernel
theorem dX1_layLeaves_3 : decode cX1_layLeaves 3 = .ok (.iload_n 1, 1) := by decide +kernel
theorem dX1_layLeaves_4 : decode cX1_layLeaves 4 = .ok (.if_icmp .ge 24, 3) := by decide +kernel
theorem dX1_layLeaves_7 : decode cX1_layLeaves 7 = .ok (.aload_n 0, 1) := by decide +kernel
theorem dX1_layLeaves_8 : decode cX1_layLeaves 8 = .ok (.getfield 26, 3) := by decide +kernel
theorem dX1_layLeaves_11 : decode cX1_layLeaves 11 = .ok (.iload_n 2, 1) := by decide +kernel
theorem dX1_layLeaves_12 : decode cX1_layLeaves 12 = .ok (.aaload, 1) := by decide +kernel
theorem dX1_layLeaves_13 : decode cX1_layLeaves 13 = .ok (.aload_n 0, 1) := by decide +kernel
theorem dX1_layLeaves_14 : decode cX1_layLeaves 14 = .ok (.getfield 54, 3) := by decide +kernel
theorem dX1_layLeaves_17 : decode cX1_layLeaves 17 = .ok (.iload_n 2, 1) := by decide +kernel
theorem dX1_layLeaves_18 : decode cX1_layLeaves 18 = .ok (.aaload, 1) := by decide +kernel
theorem dX1_layLeaves_19 : decode cX1_layLeaves 19 = .ok (.invokestatic 173, 3) := by decide +kernel
theorem dX1_layLeaves_22 : decode cX1_layLeaves 22 = .ok (.iinc 2 1, 3) := by decide +kernel
theorem dX1_layLeaves_25 : decode cX1_layLeaves 25 = .ok (.goto (-23), 3) := by decide +kernel
theorem dX1_layLeaves_28 : decode cX1_layLeaves 28 = .ok (.return_, 1) := by decide +kernel
theorem dX1_copyDigest_0 : decode cX1_copyDigest 0 = .ok (.aload_n 0, 1) := by decide +kernel
theorem dX1_copyDigest_1 : decode cX1_copyDigest 1 = .ok (.iconst 0, 1) := by decide +kernel
theorem dX1_copyDigest_2 : decode cX1_copyDigest 2 = .ok (.aload_n 1, 1) := by decide +kernel
theorem dX1_copyDigest_3 : decode cX1_copyDigest 3 = .ok (.iconst 0, 1) := by decide +kernel
theorem dX1_copyDigest_4 : decode cX1_copyDigest 4 = .ok (.bipush 32, 2) := by decide +kernel
theorem dX1_copyDigest_6 : decode cX1_copyDigest 6 = .ok (.invokestatic 197, 3) := by decide +kernel
theorem dX1_copyDigest_9 : decode cX1_copyDigest 9 = .ok (.return_, 1) := by decide +kernel
theorem dX1_foldLevel_0 : decode cX1_foldLevel 0 = .ok (.iconst 0, 1) := by decide +kernel
theorem dX1_foldLevel_1 : decode cX1_foldLevel 1 = .ok (.istore_n 2, 1) := by decide +kernel
theorem dX1_foldLevel_2 : decode cX1_foldLevel 2 = .ok (.iload_n 2, 1) := by decide +kernel
theorem dX1_foldLevel_3 : decode cX1_foldLevel 3 = .ok (.iconst 1, 1) := by decide +kernel
theorem dX1_foldLevel_4 : decode cX1_foldLevel 4 = .ok (.iadd, 1) := by decide +kernel
theorem dX1_foldLevel_5 : decode cX1_foldLevel 5 = .ok (.iload_n 1, 1) := by decide +kernel
theorem dX1_foldLevel_6 : decode cX1_foldLevel 6 = .ok (.if_icmp .ge 35, 3) := by decide +kernel
theorem dX1_foldLevel_9 : decode cX1_foldLevel 9 = .ok (.aload_n 0, 1) := by decide +kernel
theorem dX1_foldLevel_10 : decode cX1_foldLevel 10 = .ok (.aload_n 0, 1) := by decide +kernel
theorem dX1_foldLevel_11 : decode cX1_foldLevel 11 = .ok (.getfield 54, 3) := by decide +kernel
theorem dX1_foldLevel_14 : decode cX1_foldLevel 14 = .ok (.iload_n 2, 1) := by decide +kernel
theorem dX1_foldLevel_15 : decode cX1_foldLevel 15 = .ok (.aaload, 1) := by decide +kernel
theorem dX1_foldLevel_16 : decode cX1_foldLevel 16 = .ok (.aload_n 0, 1) := by decide +kernel
theorem dX1_foldLevel_17 : decode cX1_foldLevel 17 = .ok (.getfield 54, 3) := by decide +kernel
theorem dX1_foldLevel_20 : decode cX1_foldLevel 20 = .ok (.iload_n 2, 1) := by decide +kernel
theorem dX1_foldLevel_21 : decode cX1_foldLevel 21 = .ok (.iconst 1, 1) := by decide +kernel
theorem dX1_foldLevel_22 : decode cX1_foldLevel 22 = .ok (.iadd, 1) := by decide +kernel
theorem dX1_foldLevel_23 : decode cX1_foldLevel 23 = .ok (.aaload, 1) := by decide +kernel
theorem dX1_foldLevel_24 : decode cX1_foldLevel 24 = .ok (.aload_n 0, 1) := by decide +kernel
theorem dX1_foldLevel_25 : decode cX1_foldLevel 25 = .ok (.getfield 54, 3) := by decide +kernel
theorem dX1_foldLevel_28 : decode cX1_foldLevel 28 = .ok (.iload_n 2, 1) := by decide +kernel
theorem dX1_foldLevel_29 : decode cX1_foldLevel 29 = .ok (.iconst 2, 1) := by decide +kernel
theorem dX1_foldLevel_30 : decode cX1_foldLevel 30 = .ok (.idiv, 1) := by decide +kernel
theorem dX1_foldLevel_31 : decode cX1_foldLevel 31 = .ok (.aaload, 1) := by decide +kernel
theorem dX1_foldLevel_32 : decode cX1_foldLevel 32 = .ok (.invokevirtual 185, 3) := by decide +kernel
theorem dX1_foldLevel_35 : decode cX1_foldLevel 35 = .ok (.iinc 2 2, 3) := by decide +kernel
theorem dX1_foldLevel_38 : decode cX1_foldLevel 38 = .ok (.goto (-36), 3) := by decide +kernel
theorem dX1_foldLevel_41 : decode cX1_foldLevel 41 = .ok (.iload_n 1, 1) := by decide +kernel
theorem dX1_foldLevel_42 : decode cX1_foldLevel 42 = .ok (.iconst 2, 1) := by decide +kernel
theorem dX1_foldLevel_43 : decode cX1_foldLevel 43 = .ok (.irem, 1) := by decide +kernel
theorem dX1_foldLevel_44 : decode cX1_foldLevel 44 = .ok (.iconst 1, 1) := by decide +kernel
theorem dX1_foldLevel_45 : decode cX1_foldLevel 45 = .ok (.if_icmp .ne 22, 3) := by decide +kernel
theorem dX1_foldLevel_48 : decode cX1_foldLevel 48 = .ok (.aload_n 0, 1) := by decide +kernel
theorem dX1_foldLevel_49 : decode cX1_foldLevel 49 = .ok (.getfield 54, 3) := by decide +kernel
theorem dX1_foldLevel_52 : decode cX1_foldLevel 52 = .ok (.iload_n 1, 1) := by decide +kernel
theorem dX1_foldLevel_53 : decode cX1_foldLevel 53 = .ok (.iconst 1, 1) := by decide +kernel
theorem dX1_foldLevel_54 : decode cX1_foldLevel 54 = .ok (.isub, 1) := by decide +kernel
theorem dX1_foldLevel_55 : decode cX1_foldLevel 55 = .ok (.aaload, 1) := by decide +kernel
theorem dX1_foldLevel_56 : decode cX1_foldLevel 56 = .ok (.aload_n 0, 1) := by decide +kernel
theorem dX1_foldLevel_57 : decode cX1_foldLevel 57 = .ok (.getfield 54, 3) := by decide +kernel
theorem dX1_foldLevel_60 : decode cX1_foldLevel 60 = .ok (.iload_n 1, 1) := by decide +kernel
theorem dX1_foldLevel_61 : decode cX1_foldLevel 61 = .ok (.iconst 2, 1) := by decide +kernel
theorem dX1_foldLevel_62 : decode cX1_foldLevel 62 = .ok (.idiv, 1) := by decide +kernel
theorem dX1_foldLevel_63 : decode cX1_foldLevel 63 = .ok (.aaload, 1) := by decide +kernel
theorem dX1_foldLevel_64 : decode cX1_foldLevel 64 = .ok (.invokestatic 173, 3) := by decide +kernel
theorem dX1_foldLevel_67 : decode cX1_foldLevel 67 = .ok (.return_, 1) := by decide +kernel
theorem dX1_nodeInto_0 : decode cX1_nodeInto 0 = .ok (.aload_n 0, 1) := by decide +kernel
theorem dX1_nodeInto_1 : decode cX1_nodeInto 1 = .ok (.getfield 10, 3) := by decide +kernel
theorem dX1_nodeInto_4 : decode cX1_nodeInto 4 = .ok (.invokevirtual 74, 3) := by decide +kernel
theorem dX1_nodeInto_7 : decode cX1_nodeInto 7 = .ok (.aload_n 0, 1) := by decide +kernel
theorem dX1_nodeInto_8 : decode cX1_nodeInto 8 = .ok (.getfield 10, 3) := by decide +kernel
theorem dX1_nodeInto_11 : decode cX1_nodeInto 11 = .ok (.iconst 1, 1) := by decide +kernel
theorem dX1_nodeInto_12 : decode cX1_nodeInto 12 = .ok (.invokevirtual 77, 3) := by decide +kernel
theorem dX1_nodeInto_15 : decode cX1_nodeInto 15 = .ok (.aload_n 0, 1) := by decide +kernel
theorem dX1_nodeInto_16 : decode cX1_nodeInto 16 = .ok (.getfield 10, 3) := by decide +kernel
theorem dX1_nodeInto_19 : decode cX1_nodeInto 19 = .ok (.aload_n 1, 1) := by decide +kernel
theorem dX1_nodeInto_20 : decode cX1_nodeInto 20 = .ok (.bipush 32, 2) := by decide +kernel
theorem dX1_nodeInto_22 : decode cX1_nodeInto 22 = .ok (.invokevirtual 81, 3) := by decide +kernel
theorem dX1_nodeInto_25 : decode cX1_nodeInto 25 = .ok (.aload_n 0, 1) := by decide +kernel
theorem dX1_nodeInto_26 : decode cX1_nodeInto 26 = .ok (.getfield 10, 3) := by decide +kernel
theorem dX1_nodeInto_29 : decode cX1_nodeInto 29 = .ok (.aload_n 2, 1) := by decide +kernel
theorem dX1_nodeInto_30 : decode cX1_nodeInto 30 = .ok (.bipush 32, 2) := by decide +kernel
theorem dX1_nodeInto_32 : decode cX1_nodeInto 32 = .ok (.invokevirtual 81, 3) := by decide +kernel
theorem dX1_nodeInto_35 : decode cX1_nodeInto 35 = .ok (.aload_n 0, 1) := by decide +kernel
theorem dX1_nodeInto_36 : decode cX1_nodeInto 36 = .ok (.getfield 10, 3) := by decide +kernel
theorem dX1_nodeInto_39 : decode cX1_nodeInto 39 = .ok (.aload_n 3, 1) := by decide +kernel
theorem dX1_nodeInto_40 : decode cX1_nodeInto 40 = .ok (.invokevirtual 85, 3) := by decide +kernel
theorem dX1_nodeInto_43 : decode cX1_nodeInto 43 = .ok (.return_, 1) := by decide +kernel
theorem dX1_root_0 : decode cX1_root 0 = .ok (.aload_n 0, 1) := by decide +kernel
theorem dX1_root_1 : decode cX1_root 1 = .ok (.iload_n 1, 1) := by decide +kernel
theorem dX1_root_2 : decode cX1_root 2 = .ok (.invokevirtual 95, 3) := by decide +kernel
theorem dX1_root_5 : decode cX1_root 5 = .ok (.iload_n 2, 1) := by decide +kernel
theorem dX1_root_6 : decode cX1_root 6 = .ok (.invokestatic 98, 3) := by decide +kernel
theorem dX1_root_9 : decode cX1_root 9 = .ok (.aload_n 0, 1) := by decide +kernel
theorem dX1_root_10 : decode cX1_root 10 = .ok (.getfield 39, 3) := by decide +kernel
theorem dX1_root_13 : decode cX1_root 13 = .ok (.iload_n 1, 1) := by decide +kernel
theorem dX1_root_14 : decode cX1_root 14 = .ok (.aaload, 1) := by decide +kernel
theorem dX1_root_15 : decode cX1_root 15 = .ok (.iload_n 2, 1) := by decide +kernel
theorem dX1_root_16 : decode cX1_root 16 = .ok (.iaload, 1) := by decide +kernel
theorem dX1_root_17 : decode cX1_root 17 = .ok (.ireturn, 1) := by decide +kernel
theorem dX1_requireDay_0 : decode cX1_requireDay 0 = .ok (.iload_n 1, 1) := by decide +kernel
theorem dX1_requireDay_1 : decode cX1_requireDay 1 = .ok (.ifCond .lt 11, 3) := by decide +kernel
theorem dX1_requireDay_4 : decode cX1_requireDay 4 = .ok (.iload_n 1, 1) := by decide +kernel
theorem dX1_requireDay_5 : decode cX1_requireDay 5 = .ok (.aload_n 0, 1) := by decide +kernel
theorem dX1_requireDay_6 : decode cX1_requireDay 6 = .ok (.getfield 45, 3) := by decide +kernel
theorem dX1_requireDay_9 : decode cX1_requireDay 9 = .ok (.if_icmp .lt 13, 3) := by decide +kernel
theorem dX1_requireDay_12 : decode cX1_requireDay 12 = .ok (.new 143, 3) := by decide +kernel
theorem dX1_requireDay_15 : decode cX1_requireDay 15 = .ok (.dup, 1) := by decide +kernel
theorem dX1_requireDay_16 : decode cX1_requireDay 16 = .ok (.ldc 159, 2) := by decide +kernel
theorem dX1_requireDay_18 : decode cX1_requireDay 18 = .ok (.invokespecial 147, 3) := by decide +kernel
theorem dX1_requireDay_21 : decode cX1_requireDay 21 = .ok (.athrow, 1) := by decide +kernel
theorem dX1_requireDay_22 : decode cX1_requireDay 22 = .ok (.return_, 1) := by decide +kernel
theorem dX1_requireByte_0 : decode cX1_requireByte 0 = .ok (.iload_n 0, 1) := by decide +kernel
theorem dX1_requireByte_1 : decode cX1_requireByte 1 = .ok (.ifCond .lt 9, 3) := by decide +kernel
theorem dX1_requireByte_4 : decode cX1_requireByte 4 = .ok (.iload_n 0, 1) := by decide +kernel
theorem dX1_requireByte_5 : decode cX1_requireByte 5 = .ok (.bipush 32, 2) := by decide +kernel
theorem dX1_requireByte_7 : decode cX1_requireByte 7 = .ok (.if_icmp .lt 13, 3) := by decide +kernel
theorem dX1_requireByte_10 : decode cX1_requireByte 10 = .ok (.new 143, 3) := by decide +kernel
theorem dX1_requireByte_13 : decode cX1_requireByte 13 = .ok (.dup, 1) := by decide +kernel
theorem dX1_requireByte_14 : decode cX1_requireByte 14 = .ok (.ldc 163, 2) := by decide +kernel
theorem dX1_requireByte_16 : decode cX1_requireByte 16 = .ok (.invokespecial 147, 3) := by decide +kernel
theorem dX1_requireByte_19 : decode cX1_requireByte 19 = .ok (.athrow, 1) := by decide +kernel
theorem dX1_requireByte_20 : decode cX1_requireByte 20 = .ok (.return_, 1) := by decide +kernel
theorem dX1_digest_0 : decode cX1_digest 0 = .ok (.aload_n 0, 1) := by decide +kernel
theorem dX1_digest_1 : decode cX1_digest 1 = .ok (.iload_n 1, 1) := by decide +kernel
theorem dX1_digest_2 : decode cX1_digest 2 = .ok (.invokevirtual 101, 3) := by decide +kernel
theorem dX1_digest_5 : decode cX1_digest 5 = .ok (.iload_n 2, 1) := by decide +kernel
theorem dX1_digest_6 : decode cX1_digest 6 = .ok (.invokestatic 98, 3) := by decide +kernel
theorem dX1_digest_9 : decode cX1_digest 9 = .ok (.aload_n 0, 1) := by decide +kernel
theorem dX1_digest_10 : decode cX1_digest 10 = .ok (.getfield 26, 3) := by decide +kernel
theorem dX1_digest_13 : decode cX1_digest 13 = .ok (.iload_n 1, 1) := by decide +kernel
theorem dX1_digest_14 : decode cX1_digest 14 = .ok (.aaload, 1) := by decide +kernel
theorem dX1_digest_15 : decode cX1_digest 15 = .ok (.iload_n 2, 1) := by decide +kernel
theorem dX1_digest_16 : decode cX1_digest 16 = .ok (.iaload, 1) := by decide +kernel
theorem dX1_digest_17 : decode cX1_digest 17 = .ok (.ireturn, 1) := by decide +kernel
theorem dX1_requireLeaf_0 : decode cX1_requireLeaf 0 = .ok (.iload_n 1, 1) := by decide +kernel
theorem dX1_requireLeaf_1 : decode cX1_requireLeaf 1 = .ok (.ifCond .lt 11, 3) := by decide +kernel
theorem dX1_requireLeaf_4 : decode cX1_requireLeaf 4 = .ok (.iload_n 1, 1) := by decide +kernel
theorem dX1_requireLeaf_5 : decode cX1_requireLeaf 5 = .ok (.aload_n 0, 1) := by decide +kernel
theorem dX1_requireLeaf_6 : decode cX1_requireLeaf 6 = .ok (.getfield 33, 3) := by decide +kernel
theorem dX1_requireLeaf_9 : decode cX1_requireLeaf 9 = .ok (.if_icmp .lt 13, 3) := by decide +kernel
theorem dX1_requireLeaf_12 : decode cX1_requireLeaf 12 = .ok (.new 143, 3) := by decide +kernel
theorem dX1_requireLeaf_15 : decode cX1_requireLeaf 15 = .ok (.dup, 1) := by decide +kernel
theorem dX1_requireLeaf_16 : decode cX1_requireLeaf 16 = .ok (.ldc 157, 2) := by decide +kernel
theorem dX1_requireLeaf_18 : decode cX1_requireLeaf 18 = .ok (.invokespecial 147, 3) := by decide +kernel
theorem dX1_requireLeaf_21 : decode cX1_requireLeaf 21 = .ok (.athrow, 1) := by decide +kernel
theorem dX1_requireLeaf_22 : decode cX1_requireLeaf 22 = .ok (.return_, 1) := by decide +kernel
theorem dX1_count_0 : decode cX1_count 0 = .ok (.aload_n 0, 1) := by decide +kernel
theorem dX1_count_1 : decode cX1_count 1 = .ok (.iload_n 1, 1) := by decide +kernel
theorem dX1_count_2 : decode cX1_count 2 = .ok (.invokevirtual 95, 3) := by decide +kernel
theorem dX1_count_5 : decode cX1_count 5 = .ok (.aload_n 0, 1) := by decide +kernel
theorem dX1_count_6 : decode cX1_count 6 = .ok (.getfield 42, 3) := by decide +kernel
theorem dX1_count_9 : decode cX1_count 9 = .ok (.iload_n 1, 1) := by decide +kernel
theorem dX1_count_10 : decode cX1_count 10 = .ok (.iaload, 1) := by decide +kernel
theorem dX1_count_11 : decode cX1_count 11 = .ok (.ireturn, 1) := by decide +kernel
theorem dX1_prove_0 : decode cX1_prove 0 = .ok (.aload_n 0, 1) := by decide +kernel
theorem dX1_prove_1 : decode cX1_prove 1 = .ok (.iload_n 1, 1) := by decide +kernel
theorem dX1_prove_2 : decode cX1_prove 2 = .ok (.invokevirtual 101, 3) := by decide +kernel
theorem dX1_prove_5 : decode cX1_prove 5 = .ok (.aload_n 0, 1) := by decide +kernel
theorem dX1_prove_6 : decode cX1_prove 6 = .ok (.iload_n 2, 1) := by decide +kernel
theorem dX1_prove_7 : decode cX1_prove 7 = .ok (.invokevirtual 95, 3) := by decide +kernel
theorem dX1_prove_10 : decode cX1_prove 10 = .ok (.iload_n 1, 1) := by decide +kernel
theorem dX1_prove_11 : decode cX1_prove 11 = .ok (.aload_n 0, 1) := by decide +kernel
theorem dX1_prove_12 : decode cX1_prove 12 = .ok (.getfield 42, 3) := by decide +kernel
theorem dX1_prove_15 : decode cX1_prove 15 = .ok (.iload_n 2, 1) := by decide +kernel
theorem dX1_prove_16 : decode cX1_prove 16 = .ok (.iaload, 1) := by decide +kernel
theorem dX1_prove_17 : decode cX1_prove 17 = .ok (.if_icmp .lt 13, 3) := by decide +kernel
theorem dX1_prove_20 : decode cX1_prove 20 = .ok (.new 104, 3) := by decide +kernel
theorem dX1_prove_23 : decode cX1_prove 23 = .ok (.dup, 1) := by decide +kernel
theorem dX1_prove_24 : decode cX1_prove 24 = .ok (.ldc 106, 2) := by decide +kernel
theorem dX1_prove_26 : decode cX1_prove 26 = .ok (.invokespecial 108, 3) := by decide +kernel
theorem dX1_prove_29 : decode cX1_prove 29 = .ok (.athrow, 1) := by decide +kernel
theorem dX1_prove_30 : decode cX1_prove 30 = .ok (.aload_n 0, 1) := by decide +kernel
theorem dX1_prove_31 : decode cX1_prove 31 = .ok (.iload_n 1, 1) := by decide +kernel
theorem dX1_prove_32 : decode cX1_prove 32 = .ok (.aload_n 0, 1) := by decide +kernel
theorem dX1_prove_33 : decode cX1_prove 33 = .ok (.getfield 42, 3) := by decide +kernel
theorem dX1_prove_36 : decode cX1_prove 36 = .ok (.iload_n 2, 1) := by decide +kernel
theorem dX1_prove_37 : decode cX1_prove 37 = .ok (.iaload, 1) := by decide +kernel
theorem dX1_prove_38 : decode cX1_prove 38 = .ok (.invokevirtual 109, 3) := by decide +kernel
theorem dX1_prove_41 : decode cX1_prove 41 = .ok (.aload_n 0, 1) := by decide +kernel
theorem dX1_prove_42 : decode cX1_prove 42 = .ok (.getfield 51, 3) := by decide +kernel
theorem dX1_prove_45 : decode cX1_prove 45 = .ok (.ireturn, 1) := by decide +kernel
theorem dX1_makePath_0 : decode cX1_makePath 0 = .ok (.aload_n 0, 1) := by decide +kernel
theorem dX1_makePath_1 : decode cX1_makePath 1 = .ok (.iload_n 2, 1) := by decide +kernel
theorem dX1_makePath_2 : decode cX1_makePath 2 = .ok (.invokevirtual 167, 3) := by decide +kernel
theorem dX1_makePath_5 : decode cX1_makePath 5 = .ok (.aload_n 0, 1) := by decide +kernel
theorem dX1_makePath_6 : decode cX1_makePath 6 = .ok (.iconst 0, 1) := by decide +kernel
theorem dX1_makePath_7 : decode cX1_makePath 7 = .ok (.putfield 51, 3) := by decide +kernel
theorem dX1_makePath_10 : decode cX1_makePath 10 = .ok (.iload_n 1, 1) := by decide +kernel
theorem dX1_makePath_11 : decode cX1_makePath 11 = .ok (.istore_n 3, 1) := by decide +kernel
theorem dX1_makePath_12 : decode cX1_makePath 12 = .ok (.iload_n 2, 1) := by decide +kernel
theorem dX1_makePath_13 : decode cX1_makePath 13 = .ok (.istore 4, 2) := by decide +kernel
theorem dX1_makePath_15 : decode cX1_makePath 15 = .ok (.iload 4, 2) := by decide +kernel
theorem dX1_makePath_17 : decode cX1_makePath 17 = .ok (.iconst 1, 1) := by decide +kernel
theorem dX1_makePath_18 : decode cX1_makePath 18 = .ok (.if_icmp .le 65, 3) := by decide +kernel
theorem dX1_makePath_21 : decode cX1_makePath 21 = .ok (.iload_n 3, 1) := by decide +kernel
theorem dX1_makePath_22 : decode cX1_makePath 22 = .ok (.iload 4, 2) := by decide +kernel
theorem dX1_makePath_24 : decode cX1_makePath 24 = .ok (.invokestatic 177, 3) := by decide +kernel
theorem dX1_makePath_27 : decode cX1_makePath 27 = .ok (.ifCond .eq 34, 3) := by decide +kernel
theorem dX1_makePath_30 : decode cX1_makePath 30 = .ok (.aload_n 0, 1) := by decide +kernel
theorem dX1_makePath_31 : decode cX1_makePath 31 = .ok (.getfield 54, 3) := by decide +kernel
theorem dX1_makePath_34 : decode cX1_makePath 34 = .ok (.iload_n 3, 1) := by decide +kernel
theorem dX1_makePath_35 : decode cX1_makePath 35 = .ok (.invokestatic 181, 3) := by decide +kernel
theorem dX1_makePath_38 : decode cX1_makePath 38 = .ok (.aaload, 1) := by decide +kernel
theorem dX1_makePath_39 : decode cX1_makePath 39 = .ok (.aload_n 0, 1) := by decide +kernel
theorem dX1_makePath_40 : decode cX1_makePath 40 = .ok (.getfield 48, 3) := by decide +kernel
theorem dX1_makePath_43 : decode cX1_makePath 43 = .ok (.aload_n 0, 1) := by decide +kernel
theorem dX1_makePath_44 : decode cX1_makePath 44 = .ok (.getfield 51, 3) := by decide +kernel
theorem dX1_makePath_47 : decode cX1_makePath 47 = .ok (.aaload, 1) := by decide +kernel
theorem dX1_makePath_48 : decode cX1_makePath 48 = .ok (.invokestatic 173, 3) := by decide +kernel
theorem dX1_makePath_51 : decode cX1_makePath 51 = .ok (.aload_n 0, 1) := by decide +kernel
theorem dX1_makePath_52 : decode cX1_makePath 52 = .ok (.dup, 1) := by decide +kernel
theorem dX1_makePath_53 : decode cX1_makePath 53 = .ok (.getfield 51, 3) := by decide +kernel
theorem dX1_makePath_56 : decode cX1_makePath 56 = .ok (.iconst 1, 1) := by decide +kernel
theorem dX1_makePath_57 : decode cX1_makePath 57 = .ok (.iadd, 1) := by decide +kernel
theorem dX1_makePath_58 : decode cX1_makePath 58 = .ok (.putfield 51, 3) := by decide +kernel
theorem dX1_makePath_61 : decode cX1_makePath 61 = .ok (.aload_n 0, 1) := by decide +kernel
theorem dX1_makePath_62 : decode cX1_makePath 62 = .ok (.iload 4, 2) := by decide +kernel
theorem dX1_makePath_64 : decode cX1_makePath 64 = .ok (.invokevirtual 170, 3) := by decide +kernel
theorem dX1_makePath_67 : decode cX1_makePath 67 = .ok (.iload_n 3, 1) := by decide +kernel
theorem dX1_makePath_68 : decode cX1_makePath 68 = .ok (.iconst 2, 1) := by decide +kernel
theorem dX1_makePath_69 : decode cX1_makePath 69 = .ok (.idiv, 1) := by decide +kernel
theorem dX1_makePath_70 : decode cX1_makePath 70 = .ok (.istore_n 3, 1) := by decide +kernel
theorem dX1_makePath_71 : decode cX1_makePath 71 = .ok (.iload 4, 2) := by decide +kernel
theorem dX1_makePath_73 : decode cX1_makePath 73 = .ok (.iload 4, 2) := by decide +kernel
theorem dX1_makePath_75 : decode cX1_makePath 75 = .ok (.iconst 2, 1) := by decide +kernel
theorem dX1_makePath_76 : decode cX1_makePath 76 = .ok (.idiv, 1) := by decide +kernel
theorem dX1_makePath_77 : decode cX1_makePath 77 = .ok (.isub, 1) := by decide +kernel
theorem dX1_makePath_78 : decode cX1_makePath 78 = .ok (.istore 4, 2) := by decide +kernel
theorem dX1_makePath_80 : decode cX1_makePath 80 = .ok (.goto (-65), 3) := by decide +kernel
theorem dX1_makePath_83 : decode cX1_makePath 83 = .ok (.return_, 1) := by decide +kernel
theorem dX1_hasPartner_0 : decode cX1_hasPartner 0 = .ok (.iload_n 0, 1) := by decide +kernel
theorem dX1_hasPartner_1 : decode cX1_hasPartner 1 = .ok (.invokestatic 181, 3) := by decide +kernel
theorem dX1_hasPartner_4 : decode cX1_hasPartner 4 = .ok (.iload_n 1, 1) := by decide +kernel
theorem dX1_hasPartner_5 : decode cX1_hasPartner 5 = .ok (.if_icmp .ge 7, 3) := by decide +kernel
theorem dX1_hasPartner_8 : decode cX1_hasPartner 8 = .ok (.iconst 1, 1) := by decide +kernel
theorem dX1_hasPartner_9 : decode cX1_hasPartner 9 = .ok (.goto 4, 3) := by decide +kernel
theorem dX1_hasPartner_12 : decode cX1_hasPartner 12 = .ok (.iconst 0, 1) := by decide +kernel
theorem dX1_hasPartner_13 : decode cX1_hasPartner 13 = .ok (.ireturn, 1) := by decide +kernel
theorem dX1_partnerOf_0 : decode cX1_partnerOf 0 = .ok (.iload_n 0, 1) := by decide +kernel
theorem dX1_partnerOf_1 : decode cX1_partnerOf 1 = .ok (.iconst 1, 1) := by decide +kernel
theorem dX1_partnerOf_2 : decode cX1_partnerOf 2 = .ok (.ixor, 1) := by decide +kernel
theorem dX1_partnerOf_3 : decode cX1_partnerOf 3 = .ok (.ireturn, 1) := by decide +kernel
theorem dX1_proof_0 : decode cX1_proof 0 = .ok (.aload_n 0, 1) := by decide +kernel
theorem dX1_proof_1 : decode cX1_proof 1 = .ok (.iload_n 1, 1) := by decide +kernel
theorem dX1_proof_2 : decode cX1_proof 2 = .ok (.invokevirtual 113, 3) := by decide +kernel
theorem dX1_proof_5 : decode cX1_proof 5 = .ok (.iload_n 2, 1) := by decide +kernel
theorem dX1_proof_6 : decode cX1_proof 6 = .ok (.invokestatic 98, 3) := by decide +kernel
theorem dX1_proof_9 : decode cX1_proof 9 = .ok (.aload_n 0, 1) := by decide +kernel
theorem dX1_proof_10 : decode cX1_proof 10 = .ok (.getfield 48, 3) := by decide +kernel
theorem dX1_proof_13 : decode cX1_proof 13 = .ok (.iload_n 1, 1) := by decide +kernel
theorem dX1_proof_14 : decode cX1_proof 14 = .ok (.aaload, 1) := by decide +kernel
theorem dX1_proof_15 : decode cX1_proof 15 = .ok (.iload_n 2, 1) := by decide +kernel
theorem dX1_proof_16 : decode cX1_proof 16 = .ok (.iaload, 1) := by decide +kernel
theorem dX1_proof_17 : decode cX1_proof 17 = .ok (.ireturn, 1) := by decide +kernel
theorem dX1_requirePathDigest_0 : decode cX1_requirePathDigest 0 = .ok (.iload_n 1, 1) := by decide +kernel
theorem dX1_requirePathDigest_1 : decode cX1_requirePathDigest 1 = .ok (.ifCond .lt 11, 3) := by decide +kernel
theorem dX1_requirePathDigest_4 : decode cX1_requirePathDigest 4 = .ok (.iload_n 1, 1) := by decide +kernel
theorem dX1_requirePathDigest_5 : decode cX1_requirePathDigest 5 = .ok (.aload_n 0, 1) := by decide +kernel
theorem dX1_requirePathDigest_6 : decode cX1_requirePathDigest 6 = .ok (.getfield 51, 3) := by decide +kernel
theorem dX1_requirePathDigest_9 : decode cX1_requirePathDigest 9 = .ok (.if_icmp .lt 13, 3) := by decide +kernel
theorem dX1_requirePathDigest_12 : decode cX1_requirePathDigest 12 = .ok (.new 143, 3) := by decide +kernel
theorem dX1_requirePathDigest_15 : decode cX1_requirePathDigest 15 = .ok (.dup, 1) := by decide +kernel
theorem dX1_requirePathDigest_16 : decode cX1_requirePathDigest 16 = .ok (.ldc 161, 2) := by decide +kernel
theorem dX1_requirePathDigest_18 : decode cX1_requirePathDigest 18 = .ok (.invokespecial 147, 3) := by decide +kernel
theorem dX1_requirePathDigest_21 : decode cX1_requirePathDigest 21 = .ok (.athrow, 1) := by decide +kernel
theorem dX1_requirePathDigest_22 : decode cX1_requirePathDigest 22 = .ok (.return_, 1) := by decide +kernel
theorem dX1_bend_0 : decode cX1_bend 0 = .ok (.aload_n 0, 1) := by decide +kernel
theorem dX1_bend_1 : decode cX1_bend 1 = .ok (.iload_n 1, 1) := by decide +kernel
theorem dX1_bend_2 : decode cX1_bend 2 = .ok (.invokevirtual 113, 3) := by decide +kernel
theorem dX1_bend_5 : decode cX1_bend 5 = .ok (.iload_n 2, 1) := by decide +kernel
theorem dX1_bend_6 : decode cX1_bend 6 = .ok (.invokestatic 98, 3) := by decide +kernel
theorem dX1_bend_9 : decode cX1_bend 9 = .ok (.iload_n 3, 1) := by decide +kernel
theorem dX1_bend_10 : decode cX1_bend 10 = .ok (.invokestatic 116, 3) := by decide +kernel
theorem dX1_bend_13 : decode cX1_bend 13 = .ok (.aload_n 0, 1) := by decide +kernel
theorem dX1_bend_14 : decode cX1_bend 14 = .ok (.getfield 48, 3) := by decide +kernel
theorem dX1_bend_17 : decode cX1_bend 17 = .ok (.iload_n 1, 1) := by decide +kernel
theorem dX1_bend_18 : decode cX1_bend 18 = .ok (.aaload, 1) := by decide +kernel
theorem dX1_bend_19 : decode cX1_bend 19 = .ok (.iload_n 2, 1) := by decide +kernel
theorem dX1_bend_20 : decode cX1_bend 20 = .ok (.dup2, 1) := by decide +kernel
theorem dX1_bend_21 : decode cX1_bend 21 = .ok (.iaload, 1) := by decide +kernel
theorem dX1_bend_22 : decode cX1_bend 22 = .ok (.iload_n 3, 1) := by decide +kernel
theorem dX1_bend_23 : decode cX1_bend 23 = .ok (.ixor, 1) := by decide +kernel
theorem dX1_bend_24 : decode cX1_bend 24 = .ok (.iastore, 1) := by decide +kernel
theorem dX1_bend_25 : decode cX1_bend 25 = .ok (.return_, 1) := by decide +kernel
theorem dX1_requireMask_0 : decode cX1_requireMask 0 = .ok (.iload_n 0, 1) := by decide +kernel
theorem dX1_requireMask_1 : decode cX1_requireMask 1 = .ok (.iconst 1, 1) := by decide +kernel
theorem dX1_requireMask_2 : decode cX1_requireMask 2 = .ok (.if_icmp .lt 10, 3) := by decide +kernel
theorem dX1_requireMask_5 : decode cX1_requireMask 5 = .ok (.iload_n 0, 1) := by decide +kernel
theorem dX1_requireMask_6 : decode cX1_requireMask 6 = .ok (.sipush 255, 3) := by decide +kernel
theorem dX1_requireMask_9 : decode cX1_requireMask 9 = .ok (.if_icmp .le 13, 3) := by decide +kernel
theorem dX1_requireMask_12 : decode cX1_requireMask 12 = .ok (.new 60, 3) := by decide +kernel
theorem dX1_requireMask_15 : decode cX1_requireMask 15 = .ok (.dup, 1) := by decide +kernel
theorem dX1_requireMask_16 : decode cX1_requireMask 16 = .ok (.ldc 165, 2) := by decide +kernel
theorem dX1_requireMask_18 : decode cX1_requireMask 18 = .ok (.invokespecial 64, 3) := by decide +kernel
theorem dX1_requireMask_21 : decode cX1_requireMask 21 = .ok (.athrow, 1) := by decide +kernel
theorem dX1_requireMask_22 : decode cX1_requireMask 22 = .ok (.return_, 1) := by decide +kernel
theorem dX1_check_0 : decode cX1_check 0 = .ok (.aload_n 0, 1) := by decide +kernel
theorem dX1_check_1 : decode cX1_check 1 = .ok (.iload_n 1, 1) := by decide +kernel
theorem dX1_check_2 : decode cX1_check 2 = .ok (.invokevirtual 101, 3) := by decide +kernel
theorem dX1_check_5 : decode cX1_check 5 = .ok (.aload_n 0, 1) := by decide +kernel
theorem dX1_check_6 : decode cX1_check 6 = .ok (.iload_n 2, 1) := by decide +kernel
theorem dX1_check_7 : decode cX1_check 7 = .ok (.invokevirtual 95, 3) := by decide +kernel
theorem dX1_check_10 : decode cX1_check 10 = .ok (.aload_n 0, 1) := by decide +kernel
theorem dX1_check_11 : decode cX1_check 11 = .ok (.getfield 51, 3) := by decide +kernel
theorem dX1_check_14 : decode cX1_check 14 = .ok (.iconst (-1), 1) := by decide +kernel
theorem dX1_check_15 : decode cX1_check 15 = .ok (.if_icmp .ne 13, 3) := by decide +kernel
theorem dX1_check_18 : decode cX1_check 18 = .ok (.new 104, 3) := by decide +kernel
theorem dX1_check_21 : decode cX1_check 21 = .ok (.dup, 1) := by decide +kernel
theorem dX1_check_22 : decode cX1_check 22 = .ok (.ldc 119, 2) := by decide +kernel
theorem dX1_check_24 : decode cX1_check 24 = .ok (.invokespecial 108, 3) := by decide +kernel
theorem dX1_check_27 : decode cX1_check 27 = .ok (.athrow, 1) := by decide +kernel
theorem dX1_check_28 : decode cX1_check 28 = .ok (.iload_n 3, 1) := by decide +kernel
theorem dX1_check_29 : decode cX1_check 29 = .ok (.ifCond .lt 9, 3) := by decide +kernel
theorem dX1_check_32 : decode cX1_check 32 = .ok (.iload_n 3, 1) := by decide +kernel
theorem dX1_check_33 : decode cX1_check 33 = .ok (.iload 4, 2) := by decide +kernel
theorem dX1_check_35 : decode cX1_check 35 = .ok (.if_icmp .lt 13, 3) := by decide +kernel
theorem dX1_check_38 : decode cX1_check 38 = .ok (.new 60, 3) := by decide +kernel
theorem dX1_check_41 : decode cX1_check 41 = .ok (.dup, 1) := by decide +kernel
theorem dX1_check_42 : decode cX1_check 42 = .ok (.ldc 121, 2) := by decide +kernel
theorem dX1_check_44 : decode cX1_check 44 = .ok (.invokespecial 64, 3) := by decide +kernel
theorem dX1_check_47 : decode cX1_check 47 = .ok (.athrow, 1) := by decide +kernel
theorem dX1_check_48 : decode cX1_check 48 = .ok (.iload 4, 2) := by decide +kernel
theorem dX1_check_50 : decode cX1_check 50 = .ok (.aload_n 0, 1) := by decide +kernel
theorem dX1_check_51 : decode cX1_check 51 = .ok (.getfield 42, 3) := by decide +kernel
theorem dX1_check_54 : decode cX1_check 54 = .ok (.iload_n 2, 1) := by decide +kernel
theorem dX1_check_55 : decode cX1_check 55 = .ok (.iaload, 1) := by decide +kernel
theorem dX1_check_56 : decode cX1_check 56 = .ok (.if_icmp .eq 5, 3) := by decide +kernel
theorem dX1_check_59 : decode cX1_check 59 = .ok (.iconst 1, 1) := by decide +kernel
theorem dX1_check_60 : decode cX1_check 60 = .ok (.ireturn, 1) := by decide +kernel
theorem dX1_check_61 : decode cX1_check 61 = .ok (.aload_n 0, 1) := by decide +kernel
theorem dX1_check_62 : decode cX1_check 62 = .ok (.getfield 51, 3) := by decide +kernel
theorem dX1_check_65 : decode cX1_check 65 = .ok (.iload_n 3, 1) := by decide +kernel
theorem dX1_check_66 : decode cX1_check 66 = .ok (.iload 4, 2) := by decide +kernel
theorem dX1_check_68 : decode cX1_check 68 = .ok (.invokestatic 123, 3) := by decide +kernel
theorem dX1_check_71 : decode cX1_check 71 = .ok (.if_icmp .eq 5, 3) := by decide +kernel
theorem dX1_check_74 : decode cX1_check 74 = .ok (.iconst 2, 1) := by decide +kernel
theorem dX1_check_75 : decode cX1_check 75 = .ok (.ireturn, 1) := by decide +kernel
theorem dX1_check_76 : decode cX1_check 76 = .ok (.aload_n 0, 1) := by decide +kernel
theorem dX1_check_77 : decode cX1_check 77 = .ok (.aload_n 0, 1) := by decide +kernel
theorem dX1_check_78 : decode cX1_check 78 = .ok (.getfield 26, 3) := by decide +kernel
theorem dX1_check_81 : decode cX1_check 81 = .ok (.iload_n 1, 1) := by decide +kernel
theorem dX1_check_82 : decode cX1_check 82 = .ok (.aaload, 1) := by decide +kernel
theorem dX1_check_83 : decode cX1_check 83 = .ok (.iload_n 3, 1) := by decide +kernel
theorem dX1_check_84 : decode cX1_check 84 = .ok (.iload 4, 2) := by decide +kernel
theorem dX1_check_86 : decode cX1_check 86 = .ok (.invokevirtual 127, 3) := by decide +kernel
theorem dX1_check_89 : decode cX1_check 89 = .ok (.aload_n 0, 1) := by decide +kernel
theorem dX1_check_90 : decode cX1_check 90 = .ok (.getfield 57, 3) := by decide +kernel
theorem dX1_check_93 : decode cX1_check 93 = .ok (.aload_n 0, 1) := by decide +kernel
theorem dX1_check_94 : decode cX1_check 94 = .ok (.getfield 39, 3) := by decide +kernel
theorem dX1_check_97 : decode cX1_check 97 = .ok (.iload_n 2, 1) := by decide +kernel
theorem dX1_check_98 : decode cX1_check 98 = .ok (.aaload, 1) := by decide +kernel
theorem dX1_check_99 : decode cX1_check 99 = .ok (.invokestatic 131, 3) := by decide +kernel
theorem dX1_check_102 : decode cX1_check 102 = .ok (.ifCond .ne 7, 3) := by decide +kernel
theorem dX1_check_105 : decode cX1_check 105 = .ok (.iconst 0, 1) := by decide +kernel
theorem dX1_check_106 : decode cX1_check 106 = .ok (.goto 4, 3) := by decide +kernel
theorem dX1_check_109 : decode cX1_check 109 = .ok (.iconst 3, 1) := by decide +kernel
theorem dX1_check_110 : decode cX1_check 110 = .ok (.ireturn, 1) := by decide +kernel
theorem dX1_dueLength_0 : decode cX1_dueLength 0 = .ok (.iconst 0, 1) := by decide +kernel
theorem dX1_dueLength_1 : decode cX1_dueLength 1 = .ok (.istore_n 2, 1) := by decide +kernel
theorem dX1_dueLength_2 : decode cX1_dueLength 2 = .ok (.iload_n 0, 1) := by decide +kernel
theorem dX1_dueLength_3 : decode cX1_dueLength 3 = .ok (.istore_n 3, 1) := by decide +kernel
theorem dX1_dueLength_4 : decode cX1_dueLength 4 = .ok (.iload_n 1, 1) := by decide +kernel
theorem dX1_dueLength_5 : decode cX1_dueLength 5 = .ok (.istore 4, 2) := by decide +kernel
theorem dX1_dueLength_7 : decode cX1_dueLength 7 = .ok (.iload 4, 2) := by decide +kernel
theorem dX1_dueLength_9 : decode cX1_dueLength 9 = .ok (.iconst 1, 1) := by decide +kernel
theorem dX1_dueLength_10 : decode cX1_dueLength 10 = .ok (.if_icmp .le 31, 3) := by decide +kernel
theorem dX1_dueLength_13 : decode cX1_dueLength 13 = .ok (.iload_n 3, 1) := by decide +kernel
theorem dX1_dueLength_14 : decode cX1_dueLength 14 = .ok (.iload 4, 2) := by decide +kernel
theorem dX1_dueLength_16 : decode cX1_dueLength 16 = .ok (.invokestatic 177, 3) := by decide +kernel
theorem dX1_dueLength_19 : decode cX1_dueLength 19 = .ok (.ifCond .eq 6, 3) := by decide +kernel
theorem dX1_dueLength_22 : decode cX1_dueLength 22 = .ok (.iinc 2 1, 3) := by decide +kernel
theorem dX1_dueLength_25 : decode cX1_dueLength 25 = .ok (.iload_n 3, 1) := by decide +kernel
theorem dX1_dueLength_26 : decode cX1_dueLength 26 = .ok (.iconst 2, 1) := by decide +kernel
theorem dX1_dueLength_27 : decode cX1_dueLength 27 = .ok (.idiv, 1) := by decide +kernel
theorem dX1_dueLength_28 : decode cX1_dueLength 28 = .ok (.istore_n 3, 1) := by decide +kernel
theorem dX1_dueLength_29 : decode cX1_dueLength 29 = .ok (.iload 4, 2) := by decide +kernel
theorem dX1_dueLength_31 : decode cX1_dueLength 31 = .ok (.iload 4, 2) := by decide +kernel
theorem dX1_dueLength_33 : decode cX1_dueLength 33 = .ok (.iconst 2, 1) := by decide +kernel
theorem dX1_dueLength_34 : decode cX1_dueLength 34 = .ok (.idiv, 1) := by decide +kernel
theorem dX1_dueLength_35 : decode cX1_dueLength 35 = .ok (.isub, 1) := by decide +kernel
theorem dX1_dueLength_36 : decode cX1_dueLength 36 = .ok (.istore 4, 2) := by decide +kernel
theorem dX1_dueLength_38 : decode cX1_dueLength 38 = .ok (.goto (-31), 3) := by decide +kernel
theorem dX1_dueLength_41 : decode cX1_dueLength 41 = .ok (.iload_n 2, 1) := by decide +kernel
theorem dX1_dueLength_42 : decode cX1_dueLength 42 = .ok (.ireturn, 1) := by decide +kernel
theorem dX1_climb_0 : decode cX1_climb 0 = .ok (.aload_n 1, 1) := by decide +kernel
theorem dX1_climb_1 : decode cX1_climb 1 = .ok (.aload_n 0, 1) := by decide +kernel
theorem dX1_climb_2 : decode cX1_climb 2 = .ok (.getfield 57, 3) := by decide +kernel
theorem dX1_climb_5 : decode cX1_climb 5 = .ok (.invokestatic 173, 3) := by decide +kernel
theorem dX1_climb_8 : decode cX1_climb 8 = .ok (.iload_n 2, 1) := by decide +kernel
theorem dX1_climb_9 : decode cX1_climb 9 = .ok (.istore 4, 2) := by decide +kernel
theorem dX1_climb_11 : decode cX1_climb 11 = .ok (.iconst 0, 1) := by decide +kernel
theorem dX1_climb_12 : decode cX1_climb 12 = .ok (.istore 5, 2) := by decide +kernel
theorem dX1_climb_14 : decode cX1_climb 14 = .ok (.iload_n 3, 1) := by decide +kernel
theorem dX1_climb_15 : decode cX1_climb 15 = .ok (.istore 6, 2) := by decide +kernel
theorem dX1_climb_17 : decode cX1_climb 17 = .ok (.iload 6, 2) := by decide +kernel
theorem dX1_climb_19 : decode cX1_climb 19 = .ok (.iconst 1, 1) := by decide +kernel
theorem dX1_climb_20 : decode cX1_climb 20 = .ok (.if_icmp .le 85, 3) := by decide +kernel
theorem dX1_climb_23 : decode cX1_climb 23 = .ok (.iload 4, 2) := by decide +kernel
theorem dX1_climb_25 : decode cX1_climb 25 = .ok (.iload 6, 2) := by decide +kernel
theorem dX1_climb_27 : decode cX1_climb 27 = .ok (.invokestatic 177, 3) := by decide +kernel
theorem dX1_climb_30 : decode cX1_climb 30 = .ok (.ifCond .eq 57, 3) := by decide +kernel
theorem dX1_climb_33 : decode cX1_climb 33 = .ok (.iload 4, 2) := by decide +kernel
theorem dX1_climb_35 : decode cX1_climb 35 = .ok (.invokestatic 181, 3) := by decide +kernel
theorem dX1_climb_38 : decode cX1_climb 38 = .ok (.iload 4, 2) := by decide +kernel
theorem dX1_climb_40 : decode cX1_climb 40 = .ok (.if_icmp .le 25, 3) := by decide +kernel
theorem dX1_climb_43 : decode cX1_climb 43 = .ok (.aload_n 0, 1) := by decide +kernel
theorem dX1_climb_44 : decode cX1_climb 44 = .ok (.aload_n 0, 1) := by decide +kernel
theorem dX1_climb_45 : decode cX1_climb 45 = .ok (.getfield 57, 3) := by decide +kernel
theorem dX1_climb_48 : decode cX1_climb 48 = .ok (.aload_n 0, 1) := by decide +kernel
theorem dX1_climb_49 : decode cX1_climb 49 = .ok (.getfield 48, 3) := by decide +kernel
theorem dX1_climb_52 : decode cX1_climb 52 = .ok (.iload 5, 2) := by decide +kernel
theorem dX1_climb_54 : decode cX1_climb 54 = .ok (.aaload, 1) := by decide +kernel
theorem dX1_climb_55 : decode cX1_climb 55 = .ok (.aload_n 0, 1) := by decide +kernel
theorem dX1_climb_56 : decode cX1_climb 56 = .ok (.getfield 57, 3) := by decide +kernel
theorem dX1_climb_59 : decode cX1_climb 59 = .ok (.invokevirtual 185, 3) := by decide +kernel
theorem dX1_climb_62 : decode cX1_climb 62 = .ok (.goto 22, 3) := by decide +kernel
theorem dX1_climb_65 : decode cX1_climb 65 = .ok (.aload_n 0, 1) := by decide +kernel
theorem dX1_climb_66 : decode cX1_climb 66 = .ok (.aload_n 0, 1) := by decide +kernel
theorem dX1_climb_67 : decode cX1_climb 67 = .ok (.getfield 48, 3) := by decide +kernel
theorem dX1_climb_70 : decode cX1_climb 70 = .ok (.iload 5, 2) := by decide +kernel
theorem dX1_climb_72 : decode cX1_climb 72 = .ok (.aaload, 1) := by decide +kernel
theorem dX1_climb_73 : decode cX1_climb 73 = .ok (.aload_n 0, 1) := by decide +kernel
theorem dX1_climb_74 : decode cX1_climb 74 = .ok (.getfield 57, 3) := by decide +kernel
theorem dX1_climb_77 : decode cX1_climb 77 = .ok (.aload_n 0, 1) := by decide +kernel
theorem dX1_climb_78 : decode cX1_climb 78 = .ok (.getfield 57, 3) := by decide +kernel
theorem dX1_climb_81 : decode cX1_climb 81 = .ok (.invokevirtual 185, 3) := by decide +kernel
theorem dX1_climb_84 : decode cX1_climb 84 = .ok (.iinc 5 1, 3) := by decide +kernel
theorem dX1_climb_87 : decode cX1_climb 87 = .ok (.iload 4, 2) := by decide +kernel
theorem dX1_climb_89 : decode cX1_climb 89 = .ok (.iconst 2, 1) := by decide +kernel
theorem dX1_climb_90 : decode cX1_climb 90 = .ok (.idiv, 1) := by decide +kernel
theorem dX1_climb_91 : decode cX1_climb 91 = .ok (.istore 4, 2) := by decide +kernel
theorem dX1_climb_93 : decode cX1_climb 93 = .ok (.iload 6, 2) := by decide +kernel
theorem dX1_climb_95 : decode cX1_climb 95 = .ok (.iload 6, 2) := by decide +kernel
theorem dX1_climb_97 : decode cX1_climb 97 = .ok (.iconst 2, 1) := by decide +kernel
theorem dX1_climb_98 : decode cX1_climb 98 = .ok (.idiv, 1) := by decide +kernel
theorem dX1_climb_99 : decode cX1_climb 99 = .ok (.isub, 1) := by decide +kernel
theorem dX1_climb_100 : decode cX1_climb 100 = .ok (.istore 6, 2) := by decide +kernel
theorem dX1_climb_102 : decode cX1_climb 102 = .ok (.goto (-85), 3) := by decide +kernel
theorem dX1_climb_105 : decode cX1_climb 105 = .ok (.return_, 1) := by decide +kernel
theorem dX1_compareDigests_0 : decode cX1_compareDigests 0 = .ok (.iconst 0, 1) := by decide +kernel
theorem dX1_compareDigests_1 : decode cX1_compareDigests 1 = .ok (.istore_n 2, 1) := by decide +kernel
theorem dX1_compareDigests_2 : decode cX1_compareDigests 2 = .ok (.iload_n 2, 1) := by decide +kernel
theorem dX1_compareDigests_3 : decode cX1_compareDigests 3 = .ok (.bipush 32, 2) := by decide +kernel
theorem dX1_compareDigests_5 : decode cX1_compareDigests 5 = .ok (.if_icmp .ge 33, 3) := by decide +kernel
theorem dX1_compareDigests_8 : decode cX1_compareDigests 8 = .ok (.aload_n 0, 1) := by decide +kernel
theorem dX1_compareDigests_9 : decode cX1_compareDigests 9 = .ok (.iload_n 2, 1) := by decide +kernel
theorem dX1_compareDigests_10 : decode cX1_compareDigests 10 = .ok (.iaload, 1) := by decide +kernel
theorem dX1_compareDigests_11 : decode cX1_compareDigests 11 = .ok (.aload_n 1, 1) := by decide +kernel
theorem dX1_compareDigests_12 : decode cX1_compareDigests 12 = .ok (.iload_n 2, 1) := by decide +kernel
theorem dX1_compareDigests_13 : decode cX1_compareDigests 13 = .ok (.iaload, 1) := by decide +kernel
theorem dX1_compareDigests_14 : decode cX1_compareDigests 14 = .ok (.if_icmp .eq 18, 3) := by decide +kernel
theorem dX1_compareDigests_17 : decode cX1_compareDigests 17 = .ok (.aload_n 0, 1) := by decide +kernel
theorem dX1_compareDigests_18 : decode cX1_compareDigests 18 = .ok (.iload_n 2, 1) := by decide +kernel
theorem dX1_compareDigests_19 : decode cX1_compareDigests 19 = .ok (.iaload, 1) := by decide +kernel
theorem dX1_compareDigests_20 : decode cX1_compareDigests 20 = .ok (.aload_n 1, 1) := by decide +kernel
theorem dX1_compareDigests_21 : decode cX1_compareDigests 21 = .ok (.iload_n 2, 1) := by decide +kernel
theorem dX1_compareDigests_22 : decode cX1_compareDigests 22 = .ok (.iaload, 1) := by decide +kernel
theorem dX1_compareDigests_23 : decode cX1_compareDigests 23 = .ok (.if_icmp .ge 7, 3) := by decide +kernel
theorem dX1_compareDigests_26 : decode cX1_compareDigests 26 = .ok (.iconst (-1), 1) := by decide +kernel
theorem dX1_compareDigests_27 : decode cX1_compareDigests 27 = .ok (.goto 4, 3) := by decide +kernel
theorem dX1_compareDigests_30 : decode cX1_compareDigests 30 = .ok (.iconst 1, 1) := by decide +kernel
theorem dX1_compareDigests_31 : decode cX1_compareDigests 31 = .ok (.ireturn, 1) := by decide +kernel
theorem dX1_compareDigests_32 : decode cX1_compareDigests 32 = .ok (.iinc 2 1, 3) := by decide +kernel
theorem dX1_compareDigests_35 : decode cX1_compareDigests 35 = .ok (.goto (-33), 3) := by decide +kernel
theorem dX1_compareDigests_38 : decode cX1_compareDigests 38 = .ok (.iconst 0, 1) := by decide +kernel
theorem dX1_compareDigests_39 : decode cX1_compareDigests 39 = .ok (.ireturn, 1) := by decide +kernel
theorem dX1_grew_0 : decode cX1_grew 0 = .ok (.aload_n 0, 1) := by decide +kernel
theorem dX1_grew_1 : decode cX1_grew 1 = .ok (.iload_n 1, 1) := by decide +kernel
theorem dX1_grew_2 : decode cX1_grew 2 = .ok (.invokevirtual 95, 3) := by decide +kernel
theorem dX1_grew_5 : decode cX1_grew 5 = .ok (.aload_n 0, 1) := by decide +kernel
theorem dX1_grew_6 : decode cX1_grew 6 = .ok (.iload_n 2, 1) := by decide +kernel
theorem dX1_grew_7 : decode cX1_grew 7 = .ok (.invokevirtual 95, 3) := by decide +kernel
theorem dX1_grew_10 : decode cX1_grew 10 = .ok (.iload_n 1, 1) := by decide +kernel
theorem dX1_grew_11 : decode cX1_grew 11 = .ok (.iload_n 2, 1) := by decide +kernel
theorem dX1_grew_12 : decode cX1_grew 12 = .ok (.if_icmp .le 13, 3) := by decide +kernel
theorem dX1_grew_15 : decode cX1_grew 15 = .ok (.new 60, 3) := by decide +kernel
theorem dX1_grew_18 : decode cX1_grew 18 = .ok (.dup, 1) := by decide +kernel
theorem dX1_grew_19 : decode cX1_grew 19 = .ok (.ldc 135, 2) := by decide +kernel
theorem dX1_grew_21 : decode cX1_grew 21 = .ok (.invokespecial 64, 3) := by decide +kernel
theorem dX1_grew_24 : decode cX1_grew 24 = .ok (.athrow, 1) := by decide +kernel
theorem dX1_grew_25 : decode cX1_grew 25 = .ok (.aload_n 0, 1) := by decide +kernel
theorem dX1_grew_26 : decode cX1_grew 26 = .ok (.iload_n 1, 1) := by decide +kernel
theorem dX1_grew_27 : decode cX1_grew 27 = .ok (.invokevirtual 137, 3) := by decide +kernel
theorem dX1_grew_30 : decode cX1_grew 30 = .ok (.ifCond .eq 15, 3) := by decide +kernel
theorem dX1_grew_33 : decode cX1_grew 33 = .ok (.aload_n 0, 1) := by decide +kernel
theorem dX1_grew_34 : decode cX1_grew 34 = .ok (.iload_n 2, 1) := by decide +kernel
theorem dX1_grew_35 : decode cX1_grew 35 = .ok (.invokevirtual 137, 3) := by decide +kernel
theorem dX1_grew_38 : decode cX1_grew 38 = .ok (.ifCond .eq 7, 3) := by decide +kernel
theorem dX1_grew_41 : decode cX1_grew 41 = .ok (.iconst 1, 1) := by decide +kernel
theorem dX1_grew_42 : decode cX1_grew 42 = .ok (.goto 4, 3) := by decide +kernel
theorem dX1_grew_45 : decode cX1_grew 45 = .ok (.iconst 0, 1) := by decide +kernel
theorem dX1_grew_46 : decode cX1_grew 46 = .ok (.ireturn, 1) := by decide +kernel
theorem dX1_stillMakesRoot_0 : decode cX1_stillMakesRoot 0 = .ok (.aload_n 0, 1) := by decide +kernel
theorem dX1_stillMakesRoot_1 : decode cX1_stillMakesRoot 1 = .ok (.aload_n 0, 1) := by decide +kernel
theorem dX1_stillMakesRoot_2 : decode cX1_stillMakesRoot 2 = .ok (.getfield 42, 3) := by decide +kernel
theorem dX1_stillMakesRoot_5 : decode cX1_stillMakesRoot 5 = .ok (.iload_n 1, 1) := by decide +kernel
theorem dX1_stillMakesRoot_6 : decode cX1_stillMakesRoot 6 = .ok (.iaload, 1) := by decide +kernel
theorem dX1_stillMakesRoot_7 : decode cX1_stillMakesRoot 7 = .ok (.aload_n 0, 1) := by decide +kernel
theorem dX1_stillMakesRoot_8 : decode cX1_stillMakesRoot 8 = .ok (.getfield 57, 3) := by decide +kernel
theorem dX1_stillMakesRoot_11 : decode cX1_stillMakesRoot 11 = .ok (.invokevirtual 91, 3) := by decide +kernel
theorem dX1_stillMakesRoot_14 : decode cX1_stillMakesRoot 14 = .ok (.aload_n 0, 1) := by decide +kernel
theorem dX1_stillMakesRoot_15 : decode cX1_stillMakesRoot 15 = .ok (.getfield 57, 3) := by decide +kernel
theorem dX1_stillMakesRoot_18 : decode cX1_stillMakesRoot 18 = .ok (.aload_n 0, 1) := by decide +kernel
theorem dX1_stillMakesRoot_19 : decode cX1_stillMakesRoot 19 = .ok (.getfield 39, 3) := by decide +kernel
theorem dX1_stillMakesRoot_22 : decode cX1_stillMakesRoot 22 = .ok (.iload_n 1, 1) := by decide +kernel
theorem dX1_stillMakesRoot_23 : decode cX1_stillMakesRoot 23 = .ok (.aaload, 1) := by decide +kernel
theorem dX1_stillMakesRoot_24 : decode cX1_stillMakesRoot 24 = .ok (.invokestatic 131, 3) := by decide +kernel
theorem dX1_stillMakesRoot_27 : decode cX1_stillMakesRoot 27 = .ok (.ifCond .ne 7, 3) := by decide +kernel
theorem dX1_stillMakesRoot_30 : decode cX1_stillMakesRoot 30 = .ok (.iconst 1, 1) := by decide +kernel
theorem dX1_stillMakesRoot_31 : decode cX1_stillMakesRoot 31 = .ok (.goto 4, 3) := by decide +kernel
theorem dX1_stillMakesRoot_34 : decode cX1_stillMakesRoot 34 = .ok (.iconst 0, 1) := by decide +kernel
theorem dX1_stillMakesRoot_35 : decode cX1_stillMakesRoot 35 = .ok (.ireturn, 1) := by decide +kernel
theorem dX1_withdraw_0 : decode cX1_withdraw 0 = .ok (.aload_n 0, 1) := by decide +kernel
theorem dX1_withdraw_1 : decode cX1_withdraw 1 = .ok (.iload_n 1, 1) := by decide +kernel
theorem dX1_withdraw_2 : decode cX1_withdraw 2 = .ok (.invokevirtual 101, 3) := by decide +kernel
theorem dX1_withdraw_5 : decode cX1_withdraw 5 = .ok (.aload_n 0, 1) := by decide +kernel
theorem dX1_withdraw_6 : decode cX1_withdraw 6 = .ok (.getfield 29, 3) := by decide +kernel
theorem dX1_withdraw_9 : decode cX1_withdraw 9 = .ok (.iload_n 1, 1) := by decide +kernel
theorem dX1_withdraw_10 : decode cX1_withdraw 10 = .ok (.baload, 1) := by decide +kernel
theorem dX1_withdraw_11 : decode cX1_withdraw 11 = .ok (.ifCond .eq 13, 3) := by decide +kernel
theorem dX1_withdraw_14 : decode cX1_withdraw 14 = .ok (.new 67, 3) := by decide +kernel
theorem dX1_withdraw_17 : decode cX1_withdraw 17 = .ok (.dup, 1) := by decide +kernel
theorem dX1_withdraw_18 : decode cX1_withdraw 18 = .ok (.ldc 141, 2) := by decide +kernel
theorem dX1_withdraw_20 : decode cX1_withdraw 20 = .ok (.invokespecial 71, 3) := by decide +kernel
theorem dX1_withdraw_23 : decode cX1_withdraw 23 = .ok (.athrow, 1) := by decide +kernel
theorem dX1_withdraw_24 : decode cX1_withdraw 24 = .ok (.aload_n 0, 1) := by decide +kernel
theorem dX1_withdraw_25 : decode cX1_withdraw 25 = .ok (.getfield 29, 3) := by decide +kernel
theorem dX1_withdraw_28 : decode cX1_withdraw 28 = .ok (.iload_n 1, 1) := by decide +kernel
theorem dX1_withdraw_29 : decode cX1_withdraw 29 = .ok (.iconst 1, 1) := by decide +kernel
theorem dX1_withdraw_30 : decode cX1_withdraw 30 = .ok (.bastore, 1) := by decide +kernel
theorem dX1_withdraw_31 : decode cX1_withdraw 31 = .ok (.aload_n 0, 1) := by decide +kernel
theorem dX1_withdraw_32 : decode cX1_withdraw 32 = .ok (.dup, 1) := by decide +kernel
theorem dX1_withdraw_33 : decode cX1_withdraw 33 = .ok (.getfield 36, 3) := by decide +kernel
theorem dX1_withdraw_36 : decode cX1_withdraw 36 = .ok (.iconst 1, 1) := by decide +kernel
theorem dX1_withdraw_37 : decode cX1_withdraw 37 = .ok (.iadd, 1) := by decide +kernel
theorem dX1_withdraw_38 : decode cX1_withdraw 38 = .ok (.putfield 36, 3) := by decide +kernel
theorem dX1_withdraw_41 : decode cX1_withdraw 41 = .ok (.aload_n 0, 1) := by decide +kernel
theorem dX1_withdraw_42 : decode cX1_withdraw 42 = .ok (.getfield 36, 3) := by decide +kernel
theorem dX1_withdraw_45 : decode cX1_withdraw 45 = .ok (.ireturn, 1) := by decide +kernel
theorem dX1_absence_0 : decode cX1_absence 0 = .ok (.aload_n 0, 1) := by decide +kernel
theorem dX1_absence_1 : decode cX1_absence 1 = .ok (.iload_n 1, 1) := by decide +kernel
theorem dX1_absence_2 : decode cX1_absence 2 = .ok (.invokevirtual 101, 3) := by decide +kernel
theorem dX1_absence_5 : decode cX1_absence 5 = .ok (.iload_n 2, 1) := by decide +kernel
theorem dX1_absence_6 : decode cX1_absence 6 = .ok (.ifCond .eq 18, 3) := by decide +kernel
theorem dX1_absence_9 : decode cX1_absence 9 = .ok (.iload_n 2, 1) := by decide +kernel
theorem dX1_absence_10 : decode cX1_absence 10 = .ok (.iconst 1, 1) := by decide +kernel
theorem dX1_absence_11 : decode cX1_absence 11 = .ok (.if_icmp .eq 13, 3) := by decide +kernel
theorem dX1_absence_14 : decode cX1_absence 14 = .ok (.new 143, 3) := by decide +kernel
theorem dX1_absence_17 : decode cX1_absence 17 = .ok (.dup, 1) := by decide +kernel
theorem dX1_absence_18 : decode cX1_absence 18 = .ok (.ldc 145, 2) := by decide +kernel
theorem dX1_absence_20 : decode cX1_absence 20 = .ok (.invokespecial 147, 3) := by decide +kernel
theorem dX1_absence_23 : decode cX1_absence 23 = .ok (.athrow, 1) := by decide +kernel
theorem dX1_absence_24 : decode cX1_absence 24 = .ok (.aload_n 0, 1) := by decide +kernel
theorem dX1_absence_25 : decode cX1_absence 25 = .ok (.getfield 29, 3) := by decide +kernel
theorem dX1_absence_28 : decode cX1_absence 28 = .ok (.iload_n 1, 1) := by decide +kernel
theorem dX1_absence_29 : decode cX1_absence 29 = .ok (.baload, 1) := by decide +kernel
theorem dX1_absence_30 : decode cX1_absence 30 = .ok (.ifCond .eq 13, 3) := by decide +kernel
theorem dX1_absence_33 : decode cX1_absence 33 = .ok (.new 104, 3) := by decide +kernel
theorem dX1_absence_36 : decode cX1_absence 36 = .ok (.dup, 1) := by decide +kernel
theorem dX1_absence_37 : decode cX1_absence 37 = .ok (.ldc 148, 2) := by decide +kernel
theorem dX1_absence_39 : decode cX1_absence 39 = .ok (.invokespecial 108, 3) := by decide +kernel
theorem dX1_absence_42 : decode cX1_absence 42 = .ok (.athrow, 1) := by decide +kernel
theorem dX1_absence_43 : decode cX1_absence 43 = .ok (.aload_n 0, 1) := by decide +kernel
theorem dX1_absence_44 : decode cX1_absence 44 = .ok (.iload_n 1, 1) := by decide +kernel
theorem dX1_absence_45 : decode cX1_absence 45 = .ok (.iload_n 2, 1) := by decide +kernel
theorem dX1_absence_46 : decode cX1_absence 46 = .ok (.invokevirtual 150, 3) := by decide +kernel
theorem dX1_absence_49 : decode cX1_absence 49 = .ok (.ireturn, 1) := by decide +kernel
theorem dX1_nearestWithdrawn_0 : decode cX1_nearestWithdrawn 0 = .ok (.iconst (-1), 1) := by decide +kernel
theorem dX1_nearestWithdrawn_1 : decode cX1_nearestWithdrawn 1 = .ok (.istore_n 3, 1) := by decide +kernel
theorem dX1_nearestWithdrawn_2 : decode cX1_nearestWithdrawn 2 = .ok (.iconst 0, 1) := by decide +kernel
theorem dX1_nearestWithdrawn_3 : decode cX1_nearestWithdrawn 3 = .ok (.istore 4, 2) := by decide +kernel
theorem dX1_nearestWithdrawn_5 : decode cX1_nearestWithdrawn 5 = .ok (.iload 4, 2) := by decide +kernel
theorem dX1_nearestWithdrawn_7 : decode cX1_nearestWithdrawn 7 = .ok (.aload_n 0, 1) := by decide +kernel
theorem dX1_nearestWithdrawn_8 : decode cX1_nearestWithdrawn 8 = .ok (.getfield 33, 3) := by decide +kernel
theorem dX1_nearestWithdrawn_11 : decode cX1_nearestWithdrawn 11 = .ok (.if_icmp .ge 49, 3) := by decide +kernel
theorem dX1_nearestWithdrawn_14 : decode cX1_nearestWithdrawn 14 = .ok (.aload_n 0, 1) := by decide +kernel
theorem dX1_nearestWithdrawn_15 : decode cX1_nearestWithdrawn 15 = .ok (.getfield 29, 3) := by decide +kernel
theorem dX1_nearestWithdrawn_18 : decode cX1_nearestWithdrawn 18 = .ok (.iload 4, 2) := by decide +kernel
theorem dX1_nearestWithdrawn_20 : decode cX1_nearestWithdrawn 20 = .ok (.baload, 1) := by decide +kernel
theorem dX1_nearestWithdrawn_21 : decode cX1_nearestWithdrawn 21 = .ok (.ifCond .eq 33, 3) := by decide +kernel
theorem dX1_nearestWithdrawn_24 : decode cX1_nearestWithdrawn 24 = .ok (.aload_n 0, 1) := by decide +kernel
theorem dX1_nearestWithdrawn_25 : decode cX1_nearestWithdrawn 25 = .ok (.iload_n 2, 1) := by decide +kernel
theorem dX1_nearestWithdrawn_26 : decode cX1_nearestWithdrawn 26 = .ok (.iload 4, 2) := by decide +kernel
theorem dX1_nearestWithdrawn_28 : decode cX1_nearestWithdrawn 28 = .ok (.iload_n 1, 1) := by decide +kernel
theorem dX1_nearestWithdrawn_29 : decode cX1_nearestWithdrawn 29 = .ok (.invokevirtual 193, 3) := by decide +kernel
theorem dX1_nearestWithdrawn_32 : decode cX1_nearestWithdrawn 32 = .ok (.ifCond .eq 22, 3) := by decide +kernel
theorem dX1_nearestWithdrawn_35 : decode cX1_nearestWithdrawn 35 = .ok (.iload_n 3, 1) := by decide +kernel
theorem dX1_nearestWithdrawn_36 : decode cX1_nearestWithdrawn 36 = .ok (.iconst (-1), 1) := by decide +kernel
theorem dX1_nearestWithdrawn_37 : decode cX1_nearestWithdrawn 37 = .ok (.if_icmp .eq 14, 3) := by decide +kernel
theorem dX1_nearestWithdrawn_40 : decode cX1_nearestWithdrawn 40 = .ok (.aload_n 0, 1) := by decide +kernel
theorem dX1_nearestWithdrawn_41 : decode cX1_nearestWithdrawn 41 = .ok (.iload_n 2, 1) := by decide +kernel
theorem dX1_nearestWithdrawn_42 : decode cX1_nearestWithdrawn 42 = .ok (.iload_n 3, 1) := by decide +kernel
theorem dX1_nearestWithdrawn_43 : decode cX1_nearestWithdrawn 43 = .ok (.iload 4, 2) := by decide +kernel
theorem dX1_nearestWithdrawn_45 : decode cX1_nearestWithdrawn 45 = .ok (.invokevirtual 193, 3) := by decide +kernel
theorem dX1_nearestWithdrawn_48 : decode cX1_nearestWithdrawn 48 = .ok (.ifCond .eq 6, 3) := by decide +kernel
theorem dX1_nearestWithdrawn_51 : decode cX1_nearestWithdrawn 51 = .ok (.iload 4, 2) := by decide +kernel
theorem dX1_nearestWithdrawn_53 : decode cX1_nearestWithdrawn 53 = .ok (.istore_n 3, 1) := by decide +kernel
theorem dX1_nearestWithdrawn_54 : decode cX1_nearestWithdrawn 54 = .ok (.iinc 4 1, 3) := by decide +kernel
theorem dX1_nearestWithdrawn_57 : decode cX1_nearestWithdrawn 57 = .ok (.goto (-52), 3) := by decide +kernel
theorem dX1_nearestWithdrawn_60 : decode cX1_nearestWithdrawn 60 = .ok (.iload_n 3, 1) := by decide +kernel
theorem dX1_nearestWithdrawn_61 : decode cX1_nearestWithdrawn 61 = .ok (.ireturn, 1) := by decide +kernel
theorem dX1_liesOn_0 : decode cX1_liesOn 0 = .ok (.aload_n 0, 1) := by decide +kernel
theorem dX1_liesOn_1 : decode cX1_liesOn 1 = .ok (.getfield 26, 3) := by decide +kernel
theorem dX1_liesOn_4 : decode cX1_liesOn 4 = .ok (.iload_n 2, 1) := by decide +kernel
theorem dX1_liesOn_5 : decode cX1_liesOn 5 = .ok (.aaload, 1) := by decide +kernel
theorem dX1_liesOn_6 : decode cX1_liesOn 6 = .ok (.aload_n 0, 1) := by decide +kernel
theorem dX1_liesOn_7 : decode cX1_liesOn 7 = .ok (.getfield 26, 3) := by decide +kernel
theorem dX1_liesOn_10 : decode cX1_liesOn 10 = .ok (.iload_n 3, 1) := by decide +kernel
theorem dX1_liesOn_11 : decode cX1_liesOn 11 = .ok (.aaload, 1) := by decide +kernel
theorem dX1_liesOn_12 : decode cX1_liesOn 12 = .ok (.invokestatic 131, 3) := by decide +kernel
theorem dX1_liesOn_15 : decode cX1_liesOn 15 = .ok (.istore 4, 2) := by decide +kernel
theorem dX1_liesOn_17 : decode cX1_liesOn 17 = .ok (.iload_n 1, 1) := by decide +kernel
theorem dX1_liesOn_18 : decode cX1_liesOn 18 = .ok (.ifCond .ne 16, 3) := by decide +kernel
theorem dX1_liesOn_21 : decode cX1_liesOn 21 = .ok (.iload 4, 2) := by decide +kernel
theorem dX1_liesOn_23 : decode cX1_liesOn 23 = .ok (.ifCond .ge 7, 3) := by decide +kernel
theorem dX1_liesOn_26 : decode cX1_liesOn 26 = .ok (.iconst 1, 1) := by decide +kernel
theorem dX1_liesOn_27 : decode cX1_liesOn 27 = .ok (.goto 17, 3) := by decide +kernel
theorem dX1_liesOn_30 : decode cX1_liesOn 30 = .ok (.iconst 0, 1) := by decide +kernel
theorem dX1_liesOn_31 : decode cX1_liesOn 31 = .ok (.goto 13, 3) := by decide +kernel
theorem dX1_liesOn_34 : decode cX1_liesOn 34 = .ok (.iload 4, 2) := by decide +kernel
theorem dX1_liesOn_36 : decode cX1_liesOn 36 = .ok (.ifCond .le 7, 3) := by decide +kernel
theorem dX1_liesOn_39 : decode cX1_liesOn 39 = .ok (.iconst 1, 1) := by decide +kernel
theorem dX1_liesOn_40 : decode cX1_liesOn 40 = .ok (.goto 4, 3) := by decide +kernel
theorem dX1_liesOn_43 : decode cX1_liesOn 43 = .ok (.iconst 0, 1) := by decide +kernel
theorem dX1_liesOn_44 : decode cX1_liesOn 44 = .ok (.ireturn, 1) := by decide +kernel
theorem dX1_mark_0 : decode cX1_mark 0 = .ok (.aload_n 0, 1) := by decide +kernel
theorem dX1_mark_1 : decode cX1_mark 1 = .ok (.iload_n 1, 1) := by decide +kernel
theorem dX1_mark_2 : decode cX1_mark 2 = .ok (.invokevirtual 101, 3) := by decide +kernel
theorem dX1_mark_5 : decode cX1_mark 5 = .ok (.iload 6, 2) := by decide +kernel
theorem dX1_mark_7 : decode cX1_mark 7 = .ok (.invokestatic 98, 3) := by decide +kernel
theorem dX1_mark_10 : decode cX1_mark 10 = .ok (.aload_n 0, 1) := by decide +kernel
theorem dX1_mark_11 : decode cX1_mark 11 = .ok (.lload_n 2, 1) := by decide +kernel
theorem dX1_mark_12 : decode cX1_mark 12 = .ok (.aload_n 0, 1) := by decide +kernel
theorem dX1_mark_13 : decode cX1_mark 13 = .ok (.getfield 26, 3) := by decide +kernel
theorem dX1_mark_16 : decode cX1_mark 16 = .ok (.iload_n 1, 1) := by decide +kernel
theorem dX1_mark_17 : decode cX1_mark 17 = .ok (.aaload, 1) := by decide +kernel
theorem dX1_mark_18 : decode cX1_mark 18 = .ok (.aload_n 0, 1) := by decide +kernel
theorem dX1_mark_19 : decode cX1_mark 19 = .ok (.getfield 57, 3) := by decide +kernel
theorem dX1_mark_22 : decode cX1_mark 22 = .ok (.invokevirtual 153, 3) := by decide +kernel
theorem dX1_mark_25 : decode cX1_mark 25 = .ok (.aload_n 0, 1) := by decide +kernel
theorem dX1_mark_26 : decode cX1_mark 26 = .ok (.lload 4, 2) := by decide +kernel
theorem dX1_mark_28 : decode cX1_mark 28 = .ok (.aload_n 0, 1) := by decide +kernel
theorem dX1_mark_29 : decode cX1_mark 29 = .ok (.getfield 57, 3) := by decide +kernel
theorem dX1_mark_32 : decode cX1_mark 32 = .ok (.aload_n 0, 1) := by decide +kernel
theorem dX1_mark_33 : decode cX1_mark 33 = .ok (.getfield 57, 3) := by decide +kernel
theorem dX1_mark_36 : decode cX1_mark 36 = .ok (.invokevirtual 153, 3) := by decide +kernel
theorem dX1_mark_39 : decode cX1_mark 39 = .ok (.aload_n 0, 1) := by decide +kernel
theorem dX1_mark_40 : decode cX1_mark 40 = .ok (.getfield 57, 3) := by decide +kernel
theorem dX1_mark_43 : decode cX1_mark 43 = .ok (.iload 6, 2) := by decide +kernel
theorem dX1_mark_45 : decode cX1_mark 45 = .ok (.iaload, 1) := by decide +kernel
theorem dX1_mark_46 : decode cX1_mark 46 = .ok (.ireturn, 1) := by decide +kernel
theorem dX1_keyedInto_0 : decode cX1_keyedInto 0 = .ok (.aload_n 0, 1) := by decide +kernel
theorem dX1_keyedInto_1 : decode cX1_keyedInto 1 = .ok (.getfield 10, 3) := by decide +kernel
theorem dX1_keyedInto_4 : decode cX1_keyedInto 4 = .ok (.invokevirtual 74, 3) := by decide +kernel
theorem dX1_keyedInto_7 : decode cX1_keyedInto 7 = .ok (.aload_n 0, 1) := by decide +kernel
theorem dX1_keyedInto_8 : decode cX1_keyedInto 8 = .ok (.getfield 10, 3) := by decide +kernel
theorem dX1_keyedInto_11 : decode cX1_keyedInto 11 = .ok (.lload_n 1, 1) := by decide +kernel
theorem dX1_keyedInto_12 : decode cX1_keyedInto 12 = .ok (.invokevirtual 189, 3) := by decide +kernel
theorem dX1_keyedInto_15 : decode cX1_keyedInto 15 = .ok (.aload_n 0, 1) := by decide +kernel
theorem dX1_keyedInto_16 : decode cX1_keyedInto 16 = .ok (.getfield 10, 3) := by decide +kernel
theorem dX1_keyedInto_19 : decode cX1_keyedInto 19 = .ok (.aload_n 3, 1) := by decide +kernel
theorem dX1_keyedInto_20 : decode cX1_keyedInto 20 = .ok (.bipush 32, 2) := by decide +kernel
theorem dX1_keyedInto_22 : decode cX1_keyedInto 22 = .ok (.invokevirtual 81, 3) := by decide +kernel
theorem dX1_keyedInto_25 : decode cX1_keyedInto 25 = .ok (.aload_n 0, 1) := by decide +kernel
theorem dX1_keyedInto_26 : decode cX1_keyedInto 26 = .ok (.getfield 10, 3) := by decide +kernel
theorem dX1_keyedInto_29 : decode cX1_keyedInto 29 = .ok (.aload 4, 2) := by decide +kernel
theorem dX1_keyedInto_31 : decode cX1_keyedInto 31 = .ok (.invokevirtual 85, 3) := by decide +kernel
theorem dX1_keyedInto_34 : decode cX1_keyedInto 34 = .ok (.return_, 1) := by decide +kernel
theorem dX1_poke_0 : decode cX1_poke 0 = .ok (.aload_n 0, 1) := by decide +kernel
theorem dX1_poke_1 : decode cX1_poke 1 = .ok (.iload_n 1, 1) := by decide +kernel
theorem dX1_poke_2 : decode cX1_poke 2 = .ok (.invokevirtual 101, 3) := by decide +kernel
theorem dX1_poke_5 : decode cX1_poke 5 = .ok (.iload_n 2, 1) := by decide +kernel
theorem dX1_poke_6 : decode cX1_poke 6 = .ok (.invokestatic 98, 3) := by decide +kernel
theorem dX1_poke_9 : decode cX1_poke 9 = .ok (.iload_n 3, 1) := by decide +kernel
theorem dX1_poke_10 : decode cX1_poke 10 = .ok (.invokestatic 116, 3) := by decide +kernel
theorem dX1_poke_13 : decode cX1_poke 13 = .ok (.aload_n 0, 1) := by decide +kernel
theorem dX1_poke_14 : decode cX1_poke 14 = .ok (.getfield 26, 3) := by decide +kernel
theorem dX1_poke_17 : decode cX1_poke 17 = .ok (.iload_n 1, 1) := by decide +kernel
theorem dX1_poke_18 : decode cX1_poke 18 = .ok (.aaload, 1) := by decide +kernel
theorem dX1_poke_19 : decode cX1_poke 19 = .ok (.iload_n 2, 1) := by decide +kernel
theorem dX1_poke_20 : decode cX1_poke 20 = .ok (.dup2, 1) := by decide +kernel
theorem dX1_poke_21 : decode cX1_poke 21 = .ok (.iaload, 1) := by decide +kernel
theorem dX1_poke_22 : decode cX1_poke 22 = .ok (.iload_n 3, 1) := by decide +kernel
theorem dX1_poke_23 : decode cX1_poke 23 = .ok (.ixor, 1) := by decide +kernel
theorem dX1_poke_24 : decode cX1_poke 24 = .ok (.iastore, 1) := by decide +kernel
theorem dX1_poke_25 : decode cX1_poke 25 = .ok (.return_, 1) := by decide +kernel
