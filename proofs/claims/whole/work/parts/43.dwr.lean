theorem dL_feed_0 : decode cL_feed 0 = .ok (.aload 4, 2) := by decide +kernel
theorem dL_feed_2 : decode cL_feed 2 = .ok (.iconst 0, 1) := by decide +kernel
theorem dL_feed_3 : decode cL_feed 3 = .ok (.aload_n 0, 1) := by decide +kernel
theorem dL_feed_4 : decode cL_feed 4 = .ok (.lload_n 1, 1) := by decide +kernel
theorem dL_feed_5 : decode cL_feed 5 = .ok (.iload_n 3, 1) := by decide +kernel
theorem dL_feed_6 : decode cL_feed 6 = .ok (.invokevirtual 7, 3) := by decide +kernel
theorem dL_feed_9 : decode cL_feed 9 = .ok (.i2l, 1) := by decide +kernel
theorem dL_feed_10 : decode cL_feed 10 = .ok (.lastore, 1) := by decide +kernel
theorem dL_feed_11 : decode cL_feed 11 = .ok (.goto 11, 3) := by decide +kernel
theorem dL_feed_14 : decode cL_feed 14 = .ok (.astore 5, 2) := by decide +kernel
theorem dL_feed_16 : decode cL_feed 16 = .ok (.iconst 1, 1) := by decide +kernel
theorem dL_feed_17 : decode cL_feed 17 = .ok (.ireturn, 1) := by decide +kernel
theorem dL_feed_18 : decode cL_feed 18 = .ok (.astore 5, 2) := by decide +kernel
theorem dL_feed_20 : decode cL_feed 20 = .ok (.iconst 2, 1) := by decide +kernel
theorem dL_feed_21 : decode cL_feed 21 = .ok (.ireturn, 1) := by decide +kernel
theorem dL_feed_22 : decode cL_feed 22 = .ok (.iconst 0, 1) := by decide +kernel
theorem dL_feed_23 : decode cL_feed 23 = .ok (.ireturn, 1) := by decide +kernel
theorem dL_leaf_0 : decode cL_leaf 0 = .ok (.aload_n 1, 1) := by decide +kernel
theorem dL_leaf_1 : decode cL_leaf 1 = .ok (.iconst 0, 1) := by decide +kernel
theorem dL_leaf_2 : decode cL_leaf 2 = .ok (.aload_n 0, 1) := by decide +kernel
theorem dL_leaf_3 : decode cL_leaf 3 = .ok (.invokevirtual 17, 3) := by decide +kernel
theorem dL_leaf_6 : decode cL_leaf 6 = .ok (.i2l, 1) := by decide +kernel
theorem dL_leaf_7 : decode cL_leaf 7 = .ok (.lastore, 1) := by decide +kernel
theorem dL_leaf_8 : decode cL_leaf 8 = .ok (.goto 6, 3) := by decide +kernel
theorem dL_leaf_11 : decode cL_leaf 11 = .ok (.astore_n 2, 1) := by decide +kernel
theorem dL_leaf_12 : decode cL_leaf 12 = .ok (.iconst 1, 1) := by decide +kernel
theorem dL_leaf_13 : decode cL_leaf 13 = .ok (.ireturn, 1) := by decide +kernel
theorem dL_leaf_14 : decode cL_leaf 14 = .ok (.iconst 0, 1) := by decide +kernel
theorem dL_leaf_15 : decode cL_leaf 15 = .ok (.ireturn, 1) := by decide +kernel
theorem dL_close_0 : decode cL_close 0 = .ok (.aload_n 1, 1) := by decide +kernel
theorem dL_close_1 : decode cL_close 1 = .ok (.iconst 0, 1) := by decide +kernel
theorem dL_close_2 : decode cL_close 2 = .ok (.aload_n 0, 1) := by decide +kernel
theorem dL_close_3 : decode cL_close 3 = .ok (.invokevirtual 21, 3) := by decide +kernel
theorem dL_close_6 : decode cL_close 6 = .ok (.i2l, 1) := by decide +kernel
theorem dL_close_7 : decode cL_close 7 = .ok (.lastore, 1) := by decide +kernel
theorem dL_close_8 : decode cL_close 8 = .ok (.goto 6, 3) := by decide +kernel
theorem dL_close_11 : decode cL_close 11 = .ok (.astore_n 2, 1) := by decide +kernel
theorem dL_close_12 : decode cL_close 12 = .ok (.iconst 1, 1) := by decide +kernel
theorem dL_close_13 : decode cL_close 13 = .ok (.ireturn, 1) := by decide +kernel
theorem dL_close_14 : decode cL_close 14 = .ok (.iconst 0, 1) := by decide +kernel
theorem dL_close_15 : decode cL_close 15 = .ok (.ireturn, 1) := by decide +kernel
theorem dL_root_0 : decode cL_root 0 = .ok (.aload_n 3, 1) := by decide +kernel
theorem dL_root_1 : decode cL_root 1 = .ok (.iconst 0, 1) := by decide +kernel
theorem dL_root_2 : decode cL_root 2 = .ok (.aload_n 0, 1) := by decide +kernel
theorem dL_root_3 : decode cL_root 3 = .ok (.iload_n 1, 1) := by decide +kernel
theorem dL_root_4 : decode cL_root 4 = .ok (.iload_n 2, 1) := by decide +kernel
theorem dL_root_5 : decode cL_root 5 = .ok (.invokevirtual 24, 3) := by decide +kernel
theorem dL_root_8 : decode cL_root 8 = .ok (.i2l, 1) := by decide +kernel
theorem dL_root_9 : decode cL_root 9 = .ok (.lastore, 1) := by decide +kernel
theorem dL_root_10 : decode cL_root 10 = .ok (.goto 7, 3) := by decide +kernel
theorem dL_root_13 : decode cL_root 13 = .ok (.astore 4, 2) := by decide +kernel
theorem dL_root_15 : decode cL_root 15 = .ok (.iconst 1, 1) := by decide +kernel
theorem dL_root_16 : decode cL_root 16 = .ok (.ireturn, 1) := by decide +kernel
theorem dL_root_17 : decode cL_root 17 = .ok (.iconst 0, 1) := by decide +kernel
theorem dL_root_18 : decode cL_root 18 = .ok (.ireturn, 1) := by decide +kernel
theorem dL_digest_0 : decode cL_digest 0 = .ok (.aload_n 3, 1) := by decide +kernel
theorem dL_digest_1 : decode cL_digest 1 = .ok (.iconst 0, 1) := by decide +kernel
theorem dL_digest_2 : decode cL_digest 2 = .ok (.aload_n 0, 1) := by decide +kernel
theorem dL_digest_3 : decode cL_digest 3 = .ok (.iload_n 1, 1) := by decide +kernel
theorem dL_digest_4 : decode cL_digest 4 = .ok (.iload_n 2, 1) := by decide +kernel
theorem dL_digest_5 : decode cL_digest 5 = .ok (.invokevirtual 30, 3) := by decide +kernel
theorem dL_digest_8 : decode cL_digest 8 = .ok (.i2l, 1) := by decide +kernel
theorem dL_digest_9 : decode cL_digest 9 = .ok (.lastore, 1) := by decide +kernel
theorem dL_digest_10 : decode cL_digest 10 = .ok (.goto 7, 3) := by decide +kernel
theorem dL_digest_13 : decode cL_digest 13 = .ok (.astore 4, 2) := by decide +kernel
theorem dL_digest_15 : decode cL_digest 15 = .ok (.iconst 1, 1) := by decide +kernel
theorem dL_digest_16 : decode cL_digest 16 = .ok (.ireturn, 1) := by decide +kernel
theorem dL_digest_17 : decode cL_digest 17 = .ok (.iconst 0, 1) := by decide +kernel
theorem dL_digest_18 : decode cL_digest 18 = .ok (.ireturn, 1) := by decide +kernel
theorem dL_count_0 : decode cL_count 0 = .ok (.aload_n 2, 1) := by decide +kernel
theorem dL_count_1 : decode cL_count 1 = .ok (.iconst 0, 1) := by decide +kernel
theorem dL_count_2 : decode cL_count 2 = .ok (.aload_n 0, 1) := by decide +kernel
theorem dL_count_3 : decode cL_count 3 = .ok (.iload_n 1, 1) := by decide +kernel
theorem dL_count_4 : decode cL_count 4 = .ok (.invokevirtual 33, 3) := by decide +kernel
theorem dL_count_7 : decode cL_count 7 = .ok (.i2l, 1) := by decide +kernel
theorem dL_count_8 : decode cL_count 8 = .ok (.lastore, 1) := by decide +kernel
theorem dL_count_9 : decode cL_count 9 = .ok (.goto 6, 3) := by decide +kernel
theorem dL_count_12 : decode cL_count 12 = .ok (.astore_n 3, 1) := by decide +kernel
theorem dL_count_13 : decode cL_count 13 = .ok (.iconst 1, 1) := by decide +kernel
theorem dL_count_14 : decode cL_count 14 = .ok (.ireturn, 1) := by decide +kernel
theorem dL_count_15 : decode cL_count 15 = .ok (.iconst 0, 1) := by decide +kernel
theorem dL_count_16 : decode cL_count 16 = .ok (.ireturn, 1) := by decide +kernel
theorem dL_prove_0 : decode cL_prove 0 = .ok (.aload_n 3, 1) := by decide +kernel
theorem dL_prove_1 : decode cL_prove 1 = .ok (.iconst 0, 1) := by decide +kernel
theorem dL_prove_2 : decode cL_prove 2 = .ok (.aload_n 0, 1) := by decide +kernel
theorem dL_prove_3 : decode cL_prove 3 = .ok (.iload_n 1, 1) := by decide +kernel
theorem dL_prove_4 : decode cL_prove 4 = .ok (.iload_n 2, 1) := by decide +kernel
theorem dL_prove_5 : decode cL_prove 5 = .ok (.invokevirtual 37, 3) := by decide +kernel
theorem dL_prove_8 : decode cL_prove 8 = .ok (.i2l, 1) := by decide +kernel
theorem dL_prove_9 : decode cL_prove 9 = .ok (.lastore, 1) := by decide +kernel
theorem dL_prove_10 : decode cL_prove 10 = .ok (.goto 11, 3) := by decide +kernel
theorem dL_prove_13 : decode cL_prove 13 = .ok (.astore 4, 2) := by decide +kernel
theorem dL_prove_15 : decode cL_prove 15 = .ok (.iconst 1, 1) := by decide +kernel
theorem dL_prove_16 : decode cL_prove 16 = .ok (.ireturn, 1) := by decide +kernel
theorem dL_prove_17 : decode cL_prove 17 = .ok (.astore 4, 2) := by decide +kernel
theorem dL_prove_19 : decode cL_prove 19 = .ok (.iconst 2, 1) := by decide +kernel
theorem dL_prove_20 : decode cL_prove 20 = .ok (.ireturn, 1) := by decide +kernel
theorem dL_prove_21 : decode cL_prove 21 = .ok (.iconst 0, 1) := by decide +kernel
theorem dL_prove_22 : decode cL_prove 22 = .ok (.ireturn, 1) := by decide +kernel
theorem dL_proof_0 : decode cL_proof 0 = .ok (.aload_n 3, 1) := by decide +kernel
theorem dL_proof_1 : decode cL_proof 1 = .ok (.iconst 0, 1) := by decide +kernel
theorem dL_proof_2 : decode cL_proof 2 = .ok (.aload_n 0, 1) := by decide +kernel
theorem dL_proof_3 : decode cL_proof 3 = .ok (.iload_n 1, 1) := by decide +kernel
theorem dL_proof_4 : decode cL_proof 4 = .ok (.iload_n 2, 1) := by decide +kernel
theorem dL_proof_5 : decode cL_proof 5 = .ok (.invokevirtual 42, 3) := by decide +kernel
theorem dL_proof_8 : decode cL_proof 8 = .ok (.i2l, 1) := by decide +kernel
theorem dL_proof_9 : decode cL_proof 9 = .ok (.lastore, 1) := by decide +kernel
theorem dL_proof_10 : decode cL_proof 10 = .ok (.goto 7, 3) := by decide +kernel
theorem dL_proof_13 : decode cL_proof 13 = .ok (.astore 4, 2) := by decide +kernel
theorem dL_proof_15 : decode cL_proof 15 = .ok (.iconst 1, 1) := by decide +kernel
theorem dL_proof_16 : decode cL_proof 16 = .ok (.ireturn, 1) := by decide +kernel
theorem dL_proof_17 : decode cL_proof 17 = .ok (.iconst 0, 1) := by decide +kernel
theorem dL_proof_18 : decode cL_proof 18 = .ok (.ireturn, 1) := by decide +kernel
theorem dL_bend_0 : decode cL_bend 0 = .ok (.aload_n 0, 1) := by decide +kernel
theorem dL_bend_1 : decode cL_bend 1 = .ok (.iload_n 1, 1) := by decide +kernel
theorem dL_bend_2 : decode cL_bend 2 = .ok (.iload_n 2, 1) := by decide +kernel
theorem dL_bend_3 : decode cL_bend 3 = .ok (.iload_n 3, 1) := by decide +kernel
theorem dL_bend_4 : decode cL_bend 4 = .ok (.invokevirtual 45, 3) := by decide +kernel
theorem dL_bend_7 : decode cL_bend 7 = .ok (.goto 11, 3) := by decide +kernel
theorem dL_bend_10 : decode cL_bend 10 = .ok (.astore 4, 2) := by decide +kernel
theorem dL_bend_12 : decode cL_bend 12 = .ok (.iconst 1, 1) := by decide +kernel
theorem dL_bend_13 : decode cL_bend 13 = .ok (.ireturn, 1) := by decide +kernel
theorem dL_bend_14 : decode cL_bend 14 = .ok (.astore 4, 2) := by decide +kernel
theorem dL_bend_16 : decode cL_bend 16 = .ok (.iconst 2, 1) := by decide +kernel
theorem dL_bend_17 : decode cL_bend 17 = .ok (.ireturn, 1) := by decide +kernel
theorem dL_bend_18 : decode cL_bend 18 = .ok (.iconst 0, 1) := by decide +kernel
theorem dL_bend_19 : decode cL_bend 19 = .ok (.ireturn, 1) := by decide +kernel
theorem dL_check_0 : decode cL_check 0 = .ok (.aload 5, 2) := by decide +kernel
theorem dL_check_2 : decode cL_check 2 = .ok (.iconst 0, 1) := by decide +kernel
theorem dL_check_3 : decode cL_check 3 = .ok (.aload_n 0, 1) := by decide +kernel
theorem dL_check_4 : decode cL_check 4 = .ok (.iload_n 1, 1) := by decide +kernel
theorem dL_check_5 : decode cL_check 5 = .ok (.iload_n 2, 1) := by decide +kernel
theorem dL_check_6 : decode cL_check 6 = .ok (.iload_n 3, 1) := by decide +kernel
theorem dL_check_7 : decode cL_check 7 = .ok (.iload 4, 2) := by decide +kernel
theorem dL_check_9 : decode cL_check 9 = .ok (.invokevirtual 49, 3) := by decide +kernel
theorem dL_check_12 : decode cL_check 12 = .ok (.i2l, 1) := by decide +kernel
theorem dL_check_13 : decode cL_check 13 = .ok (.lastore, 1) := by decide +kernel
theorem dL_check_14 : decode cL_check 14 = .ok (.goto 15, 3) := by decide +kernel
theorem dL_check_17 : decode cL_check 17 = .ok (.astore 6, 2) := by decide +kernel
theorem dL_check_19 : decode cL_check 19 = .ok (.iconst 1, 1) := by decide +kernel
theorem dL_check_20 : decode cL_check 20 = .ok (.ireturn, 1) := by decide +kernel
theorem dL_check_21 : decode cL_check 21 = .ok (.astore 6, 2) := by decide +kernel
theorem dL_check_23 : decode cL_check 23 = .ok (.iconst 2, 1) := by decide +kernel
theorem dL_check_24 : decode cL_check 24 = .ok (.ireturn, 1) := by decide +kernel
theorem dL_check_25 : decode cL_check 25 = .ok (.astore 6, 2) := by decide +kernel
theorem dL_check_27 : decode cL_check 27 = .ok (.iconst 3, 1) := by decide +kernel
theorem dL_check_28 : decode cL_check 28 = .ok (.ireturn, 1) := by decide +kernel
theorem dL_check_29 : decode cL_check 29 = .ok (.iconst 0, 1) := by decide +kernel
theorem dL_check_30 : decode cL_check 30 = .ok (.ireturn, 1) := by decide +kernel
theorem dL_grew_0 : decode cL_grew 0 = .ok (.aload_n 3, 1) := by decide +kernel
theorem dL_grew_1 : decode cL_grew 1 = .ok (.iconst 0, 1) := by decide +kernel
theorem dL_grew_2 : decode cL_grew 2 = .ok (.aload_n 0, 1) := by decide +kernel
theorem dL_grew_3 : decode cL_grew 3 = .ok (.iload_n 1, 1) := by decide +kernel
theorem dL_grew_4 : decode cL_grew 4 = .ok (.iload_n 2, 1) := by decide +kernel
theorem dL_grew_5 : decode cL_grew 5 = .ok (.invokevirtual 53, 3) := by decide +kernel
theorem dL_grew_8 : decode cL_grew 8 = .ok (.ifCond .eq 7, 3) := by decide +kernel
theorem dL_grew_11 : decode cL_grew 11 = .ok (.lconst 1, 1) := by decide +kernel
theorem dL_grew_12 : decode cL_grew 12 = .ok (.goto 4, 3) := by decide +kernel
theorem dL_grew_15 : decode cL_grew 15 = .ok (.lconst 0, 1) := by decide +kernel
theorem dL_grew_16 : decode cL_grew 16 = .ok (.lastore, 1) := by decide +kernel
theorem dL_grew_17 : decode cL_grew 17 = .ok (.goto 11, 3) := by decide +kernel
theorem dL_grew_20 : decode cL_grew 20 = .ok (.astore 4, 2) := by decide +kernel
theorem dL_grew_22 : decode cL_grew 22 = .ok (.iconst 1, 1) := by decide +kernel
theorem dL_grew_23 : decode cL_grew 23 = .ok (.ireturn, 1) := by decide +kernel
theorem dL_grew_24 : decode cL_grew 24 = .ok (.astore 4, 2) := by decide +kernel
theorem dL_grew_26 : decode cL_grew 26 = .ok (.iconst 2, 1) := by decide +kernel
theorem dL_grew_27 : decode cL_grew 27 = .ok (.ireturn, 1) := by decide +kernel
theorem dL_grew_28 : decode cL_grew 28 = .ok (.iconst 0, 1) := by decide +kernel
theorem dL_grew_29 : decode cL_grew 29 = .ok (.ireturn, 1) := by decide +kernel
theorem dL_withdraw_0 : decode cL_withdraw 0 = .ok (.aload_n 2, 1) := by decide +kernel
theorem dL_withdraw_1 : decode cL_withdraw 1 = .ok (.iconst 0, 1) := by decide +kernel
theorem dL_withdraw_2 : decode cL_withdraw 2 = .ok (.aload_n 0, 1) := by decide +kernel
theorem dL_withdraw_3 : decode cL_withdraw 3 = .ok (.iload_n 1, 1) := by decide +kernel
theorem dL_withdraw_4 : decode cL_withdraw 4 = .ok (.invokevirtual 57, 3) := by decide +kernel
theorem dL_withdraw_7 : decode cL_withdraw 7 = .ok (.i2l, 1) := by decide +kernel
theorem dL_withdraw_8 : decode cL_withdraw 8 = .ok (.lastore, 1) := by decide +kernel
theorem dL_withdraw_9 : decode cL_withdraw 9 = .ok (.goto 9, 3) := by decide +kernel
theorem dL_withdraw_12 : decode cL_withdraw 12 = .ok (.astore_n 3, 1) := by decide +kernel
theorem dL_withdraw_13 : decode cL_withdraw 13 = .ok (.iconst 1, 1) := by decide +kernel
theorem dL_withdraw_14 : decode cL_withdraw 14 = .ok (.ireturn, 1) := by decide +kernel
theorem dL_withdraw_15 : decode cL_withdraw 15 = .ok (.astore_n 3, 1) := by decide +kernel
theorem dL_withdraw_16 : decode cL_withdraw 16 = .ok (.iconst 2, 1) := by decide +kernel
theorem dL_withdraw_17 : decode cL_withdraw 17 = .ok (.ireturn, 1) := by decide +kernel
theorem dL_withdraw_18 : decode cL_withdraw 18 = .ok (.iconst 0, 1) := by decide +kernel
theorem dL_withdraw_19 : decode cL_withdraw 19 = .ok (.ireturn, 1) := by decide +kernel
theorem dL_absence_0 : decode cL_absence 0 = .ok (.aload_n 3, 1) := by decide +kernel
theorem dL_absence_1 : decode cL_absence 1 = .ok (.iconst 0, 1) := by decide +kernel
theorem dL_absence_2 : decode cL_absence 2 = .ok (.aload_n 0, 1) := by decide +kernel
theorem dL_absence_3 : decode cL_absence 3 = .ok (.iload_n 1, 1) := by decide +kernel
theorem dL_absence_4 : decode cL_absence 4 = .ok (.iload_n 2, 1) := by decide +kernel
theorem dL_absence_5 : decode cL_absence 5 = .ok (.invokevirtual 60, 3) := by decide +kernel
theorem dL_absence_8 : decode cL_absence 8 = .ok (.i2l, 1) := by decide +kernel
theorem dL_absence_9 : decode cL_absence 9 = .ok (.lastore, 1) := by decide +kernel
theorem dL_absence_10 : decode cL_absence 10 = .ok (.goto 11, 3) := by decide +kernel
theorem dL_absence_13 : decode cL_absence 13 = .ok (.astore 4, 2) := by decide +kernel
theorem dL_absence_15 : decode cL_absence 15 = .ok (.iconst 1, 1) := by decide +kernel
theorem dL_absence_16 : decode cL_absence 16 = .ok (.ireturn, 1) := by decide +kernel
theorem dL_absence_17 : decode cL_absence 17 = .ok (.astore 4, 2) := by decide +kernel
theorem dL_absence_19 : decode cL_absence 19 = .ok (.iconst 2, 1) := by decide +kernel
theorem dL_absence_20 : decode cL_absence 20 = .ok (.ireturn, 1) := by decide +kernel
theorem dL_absence_21 : decode cL_absence 21 = .ok (.iconst 0, 1) := by decide +kernel
theorem dL_absence_22 : decode cL_absence 22 = .ok (.ireturn, 1) := by decide +kernel
theorem dL_mark_0 : decode cL_mark 0 = .ok (.aload 7, 2) := by decide +kernel
theorem dL_mark_2 : decode cL_mark 2 = .ok (.iconst 0, 1) := by decide +kernel
theorem dL_mark_3 : decode cL_mark 3 = .ok (.aload_n 0, 1) := by decide +kernel
theorem dL_mark_4 : decode cL_mark 4 = .ok (.iload_n 1, 1) := by decide +kernel
theorem dL_mark_5 : decode cL_mark 5 = .ok (.lload_n 2, 1) := by decide +kernel
theorem dL_mark_6 : decode cL_mark 6 = .ok (.lload 4, 2) := by decide +kernel
theorem dL_mark_8 : decode cL_mark 8 = .ok (.iload 6, 2) := by decide +kernel
theorem dL_mark_10 : decode cL_mark 10 = .ok (.invokevirtual 63, 3) := by decide +kernel
theorem dL_mark_13 : decode cL_mark 13 = .ok (.i2l, 1) := by decide +kernel
theorem dL_mark_14 : decode cL_mark 14 = .ok (.lastore, 1) := by decide +kernel
theorem dL_mark_15 : decode cL_mark 15 = .ok (.goto 7, 3) := by decide +kernel
theorem dL_mark_18 : decode cL_mark 18 = .ok (.astore 8, 2) := by decide +kernel
theorem dL_mark_20 : decode cL_mark 20 = .ok (.iconst 1, 1) := by decide +kernel
theorem dL_mark_21 : decode cL_mark 21 = .ok (.ireturn, 1) := by decide +kernel
theorem dL_mark_22 : decode cL_mark 22 = .ok (.iconst 0, 1) := by decide +kernel
theorem dL_mark_23 : decode cL_mark 23 = .ok (.ireturn, 1) := by decide +kernel
theorem dL_poke_0 : decode cL_poke 0 = .ok (.aload_n 0, 1) := by decide +kernel
theorem dL_poke_1 : decode cL_poke 1 = .ok (.iload_n 1, 1) := by decide +kernel
theorem dL_poke_2 : decode cL_poke 2 = .ok (.iload_n 2, 1) := by decide +kernel
theorem dL_poke_3 : decode cL_poke 3 = .ok (.iload_n 3, 1) := by decide +kernel
theorem dL_poke_4 : decode cL_poke 4 = .ok (.invokevirtual 67, 3) := by decide +kernel
theorem dL_poke_7 : decode cL_poke 7 = .ok (.goto 11, 3) := by decide +kernel
theorem dL_poke_10 : decode cL_poke 10 = .ok (.astore 4, 2) := by decide +kernel
theorem dL_poke_12 : decode cL_poke 12 = .ok (.iconst 1, 1) := by decide +kernel
theorem dL_poke_13 : decode cL_poke 13 = .ok (.ireturn, 1) := by decide +kernel
theorem dL_poke_14 : decode cL_poke 14 = .ok (.astore 4, 2) := by decide +kernel
theorem dL_poke_16 : decode cL_poke 16 = .ok (.iconst 2, 1) := by decide +kernel
theorem dL_poke_17 : decode cL_poke 17 = .ok (.ireturn, 1) := by decide +kernel
theorem dL_poke_18 : decode cL_poke 18 = .ok (.iconst 0, 1) := by decide +kernel
theorem dL_poke_19 : decode cL_poke 19 = .ok (.ireturn, 1) := by decide +kernel
