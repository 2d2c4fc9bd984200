theorem dL_net_0 : decode cL_net 0 = .ok (.aload_n 3, 1) := by decide +kernel
theorem dL_net_1 : decode cL_net 1 = .ok (.iconst 0, 1) := by decide +kernel
theorem dL_net_2 : decode cL_net 2 = .ok (.aload_n 0, 1) := by decide +kernel
theorem dL_net_3 : decode cL_net 3 = .ok (.iload_n 1, 1) := by decide +kernel
theorem dL_net_4 : decode cL_net 4 = .ok (.iload_n 2, 1) := by decide +kernel
theorem dL_net_5 : decode cL_net 5 = .ok (.invokevirtual 7, 3) := by decide +kernel
theorem dL_net_8 : decode cL_net 8 = .ok (.i2l, 1) := by decide +kernel
theorem dL_net_9 : decode cL_net 9 = .ok (.lastore, 1) := by decide +kernel
theorem dL_net_10 : decode cL_net 10 = .ok (.goto 11, 3) := by decide +kernel
theorem dL_net_13 : decode cL_net 13 = .ok (.astore 4, 2) := by decide +kernel
theorem dL_net_15 : decode cL_net 15 = .ok (.iconst 1, 1) := by decide +kernel
theorem dL_net_16 : decode cL_net 16 = .ok (.ireturn, 1) := by decide +kernel
theorem dL_net_17 : decode cL_net 17 = .ok (.astore 4, 2) := by decide +kernel
theorem dL_net_19 : decode cL_net 19 = .ok (.iconst 2, 1) := by decide +kernel
theorem dL_net_20 : decode cL_net 20 = .ok (.ireturn, 1) := by decide +kernel
theorem dL_net_21 : decode cL_net 21 = .ok (.iconst 0, 1) := by decide +kernel
theorem dL_net_22 : decode cL_net 22 = .ok (.ireturn, 1) := by decide +kernel
theorem dL_link_0 : decode cL_link 0 = .ok (.aload_n 3, 1) := by decide +kernel
theorem dL_link_1 : decode cL_link 1 = .ok (.iconst 0, 1) := by decide +kernel
theorem dL_link_2 : decode cL_link 2 = .ok (.aload_n 0, 1) := by decide +kernel
theorem dL_link_3 : decode cL_link 3 = .ok (.iload_n 1, 1) := by decide +kernel
theorem dL_link_4 : decode cL_link 4 = .ok (.iload_n 2, 1) := by decide +kernel
theorem dL_link_5 : decode cL_link 5 = .ok (.invokevirtual 17, 3) := by decide +kernel
theorem dL_link_8 : decode cL_link 8 = .ok (.i2l, 1) := by decide +kernel
theorem dL_link_9 : decode cL_link 9 = .ok (.lastore, 1) := by decide +kernel
theorem dL_link_10 : decode cL_link 10 = .ok (.goto 7, 3) := by decide +kernel
theorem dL_link_13 : decode cL_link 13 = .ok (.astore 4, 2) := by decide +kernel
theorem dL_link_15 : decode cL_link 15 = .ok (.iconst 1, 1) := by decide +kernel
theorem dL_link_16 : decode cL_link 16 = .ok (.ireturn, 1) := by decide +kernel
theorem dL_link_17 : decode cL_link 17 = .ok (.iconst 0, 1) := by decide +kernel
theorem dL_link_18 : decode cL_link 18 = .ok (.ireturn, 1) := by decide +kernel
theorem dL_fates_0 : decode cL_fates 0 = .ok (.aload 5, 2) := by decide +kernel
theorem dL_fates_2 : decode cL_fates 2 = .ok (.iconst 0, 1) := by decide +kernel
theorem dL_fates_3 : decode cL_fates 3 = .ok (.aload_n 0, 1) := by decide +kernel
theorem dL_fates_4 : decode cL_fates 4 = .ok (.iload_n 1, 1) := by decide +kernel
theorem dL_fates_5 : decode cL_fates 5 = .ok (.lload_n 2, 1) := by decide +kernel
theorem dL_fates_6 : decode cL_fates 6 = .ok (.iload 4, 2) := by decide +kernel
theorem dL_fates_8 : decode cL_fates 8 = .ok (.invokevirtual 21, 3) := by decide +kernel
theorem dL_fates_11 : decode cL_fates 11 = .ok (.i2l, 1) := by decide +kernel
theorem dL_fates_12 : decode cL_fates 12 = .ok (.lastore, 1) := by decide +kernel
theorem dL_fates_13 : decode cL_fates 13 = .ok (.goto 11, 3) := by decide +kernel
theorem dL_fates_16 : decode cL_fates 16 = .ok (.astore 6, 2) := by decide +kernel
theorem dL_fates_18 : decode cL_fates 18 = .ok (.iconst 1, 1) := by decide +kernel
theorem dL_fates_19 : decode cL_fates 19 = .ok (.ireturn, 1) := by decide +kernel
theorem dL_fates_20 : decode cL_fates 20 = .ok (.astore 6, 2) := by decide +kernel
theorem dL_fates_22 : decode cL_fates 22 = .ok (.iconst 2, 1) := by decide +kernel
theorem dL_fates_23 : decode cL_fates 23 = .ok (.ireturn, 1) := by decide +kernel
theorem dL_fates_24 : decode cL_fates 24 = .ok (.iconst 0, 1) := by decide +kernel
theorem dL_fates_25 : decode cL_fates 25 = .ok (.ireturn, 1) := by decide +kernel
theorem dL_feed_0 : decode cL_feed 0 = .ok (.aload 4, 2) := by decide +kernel
theorem dL_feed_2 : decode cL_feed 2 = .ok (.iconst 0, 1) := by decide +kernel
theorem dL_feed_3 : decode cL_feed 3 = .ok (.aload_n 0, 1) := by decide +kernel
theorem dL_feed_4 : decode cL_feed 4 = .ok (.lload_n 1, 1) := by decide +kernel
theorem dL_feed_5 : decode cL_feed 5 = .ok (.iload_n 3, 1) := by decide +kernel
theorem dL_feed_6 : decode cL_feed 6 = .ok (.invokevirtual 25, 3) := by decide +kernel
theorem dL_feed_9 : decode cL_feed 9 = .ok (.i2l, 1) := by decide +kernel
theorem dL_feed_10 : decode cL_feed 10 = .ok (.lastore, 1) := by decide +kernel
theorem dL_feed_11 : decode cL_feed 11 = .ok (.goto 11, 3) := by decide +kernel
theorem dL_feed_14 : decode cL_feed 14 = .ok (.astore 5, 2) := by decide +kernel
theorem dL_feed_16 : decode cL_feed 16 = .ok (.iconst 1, 1) := by decide +kernel
theorem dL_feed_17 : decode cL_feed 17 = .ok (.ireturn, 1) := by decide +kernel
theorem dL_feed_18 : decode cL_feed 18 = .ok (.astore 5, 2) := by decide +kernel
theorem dL_feed_20 : decode cL_feed 20 = .ok (.iconst 2, 1) := by decide +kernel
theorem dL_feed_21 : decode cL_feed 21 = .ok (.ireturn, 1) := by decide +kernel
theorem dL_feed_22 : decode cL_feed 22 = .ok (.iconst 0, 1) := by decide +kernel
theorem dL_feed_23 : decode cL_feed 23 = .ok (.ireturn, 1) := by decide +kernel
theorem dL_put_0 : decode cL_put 0 = .ok (.aload 5, 2) := by decide +kernel
theorem dL_put_2 : decode cL_put 2 = .ok (.iconst 0, 1) := by decide +kernel
theorem dL_put_3 : decode cL_put 3 = .ok (.aload_n 0, 1) := by decide +kernel
theorem dL_put_4 : decode cL_put 4 = .ok (.iload_n 1, 1) := by decide +kernel
theorem dL_put_5 : decode cL_put 5 = .ok (.iload_n 2, 1) := by decide +kernel
theorem dL_put_6 : decode cL_put 6 = .ok (.iload_n 3, 1) := by decide +kernel
theorem dL_put_7 : decode cL_put 7 = .ok (.iload 4, 2) := by decide +kernel
theorem dL_put_9 : decode cL_put 9 = .ok (.invokevirtual 29, 3) := by decide +kernel
theorem dL_put_12 : decode cL_put 12 = .ok (.i2l, 1) := by decide +kernel
theorem dL_put_13 : decode cL_put 13 = .ok (.lastore, 1) := by decide +kernel
theorem dL_put_14 : decode cL_put 14 = .ok (.goto 7, 3) := by decide +kernel
theorem dL_put_17 : decode cL_put 17 = .ok (.astore 6, 2) := by decide +kernel
theorem dL_put_19 : decode cL_put 19 = .ok (.iconst 1, 1) := by decide +kernel
theorem dL_put_20 : decode cL_put 20 = .ok (.ireturn, 1) := by decide +kernel
theorem dL_put_21 : decode cL_put 21 = .ok (.iconst 0, 1) := by decide +kernel
theorem dL_put_22 : decode cL_put 22 = .ok (.ireturn, 1) := by decide +kernel
theorem dL_pass_0 : decode cL_pass 0 = .ok (.aload_n 2, 1) := by decide +kernel
theorem dL_pass_1 : decode cL_pass 1 = .ok (.iconst 0, 1) := by decide +kernel
theorem dL_pass_2 : decode cL_pass 2 = .ok (.aload_n 0, 1) := by decide +kernel
theorem dL_pass_3 : decode cL_pass 3 = .ok (.iload_n 1, 1) := by decide +kernel
theorem dL_pass_4 : decode cL_pass 4 = .ok (.invokevirtual 33, 3) := by decide +kernel
theorem dL_pass_7 : decode cL_pass 7 = .ok (.i2l, 1) := by decide +kernel
theorem dL_pass_8 : decode cL_pass 8 = .ok (.lastore, 1) := by decide +kernel
theorem dL_pass_9 : decode cL_pass 9 = .ok (.goto 9, 3) := by decide +kernel
theorem dL_pass_12 : decode cL_pass 12 = .ok (.astore_n 3, 1) := by decide +kernel
theorem dL_pass_13 : decode cL_pass 13 = .ok (.iconst 1, 1) := by decide +kernel
theorem dL_pass_14 : decode cL_pass 14 = .ok (.ireturn, 1) := by decide +kernel
theorem dL_pass_15 : decode cL_pass 15 = .ok (.astore_n 3, 1) := by decide +kernel
theorem dL_pass_16 : decode cL_pass 16 = .ok (.iconst 2, 1) := by decide +kernel
theorem dL_pass_17 : decode cL_pass 17 = .ok (.ireturn, 1) := by decide +kernel
theorem dL_pass_18 : decode cL_pass 18 = .ok (.iconst 0, 1) := by decide +kernel
theorem dL_pass_19 : decode cL_pass 19 = .ok (.ireturn, 1) := by decide +kernel
theorem dL_arrival_0 : decode cL_arrival 0 = .ok (.aload_n 2, 1) := by decide +kernel
theorem dL_arrival_1 : decode cL_arrival 1 = .ok (.iconst 0, 1) := by decide +kernel
theorem dL_arrival_2 : decode cL_arrival 2 = .ok (.aload_n 0, 1) := by decide +kernel
theorem dL_arrival_3 : decode cL_arrival 3 = .ok (.iload_n 1, 1) := by decide +kernel
theorem dL_arrival_4 : decode cL_arrival 4 = .ok (.invokevirtual 37, 3) := by decide +kernel
theorem dL_arrival_7 : decode cL_arrival 7 = .ok (.i2l, 1) := by decide +kernel
theorem dL_arrival_8 : decode cL_arrival 8 = .ok (.lastore, 1) := by decide +kernel
theorem dL_arrival_9 : decode cL_arrival 9 = .ok (.goto 9, 3) := by decide +kernel
theorem dL_arrival_12 : decode cL_arrival 12 = .ok (.astore_n 3, 1) := by decide +kernel
theorem dL_arrival_13 : decode cL_arrival 13 = .ok (.iconst 1, 1) := by decide +kernel
theorem dL_arrival_14 : decode cL_arrival 14 = .ok (.ireturn, 1) := by decide +kernel
theorem dL_arrival_15 : decode cL_arrival 15 = .ok (.astore_n 3, 1) := by decide +kernel
theorem dL_arrival_16 : decode cL_arrival 16 = .ok (.iconst 2, 1) := by decide +kernel
theorem dL_arrival_17 : decode cL_arrival 17 = .ok (.ireturn, 1) := by decide +kernel
theorem dL_arrival_18 : decode cL_arrival 18 = .ok (.iconst 0, 1) := by decide +kernel
theorem dL_arrival_19 : decode cL_arrival 19 = .ok (.ireturn, 1) := by decide +kernel
theorem dL_byteAt_0 : decode cL_byteAt 0 = .ok (.aload_n 2, 1) := by decide +kernel
theorem dL_byteAt_1 : decode cL_byteAt 1 = .ok (.iconst 0, 1) := by decide +kernel
theorem dL_byteAt_2 : decode cL_byteAt 2 = .ok (.aload_n 0, 1) := by decide +kernel
theorem dL_byteAt_3 : decode cL_byteAt 3 = .ok (.iload_n 1, 1) := by decide +kernel
theorem dL_byteAt_4 : decode cL_byteAt 4 = .ok (.invokevirtual 40, 3) := by decide +kernel
theorem dL_byteAt_7 : decode cL_byteAt 7 = .ok (.i2l, 1) := by decide +kernel
theorem dL_byteAt_8 : decode cL_byteAt 8 = .ok (.lastore, 1) := by decide +kernel
theorem dL_byteAt_9 : decode cL_byteAt 9 = .ok (.goto 9, 3) := by decide +kernel
theorem dL_byteAt_12 : decode cL_byteAt 12 = .ok (.astore_n 3, 1) := by decide +kernel
theorem dL_byteAt_13 : decode cL_byteAt 13 = .ok (.iconst 1, 1) := by decide +kernel
theorem dL_byteAt_14 : decode cL_byteAt 14 = .ok (.ireturn, 1) := by decide +kernel
theorem dL_byteAt_15 : decode cL_byteAt 15 = .ok (.astore_n 3, 1) := by decide +kernel
theorem dL_byteAt_16 : decode cL_byteAt 16 = .ok (.iconst 2, 1) := by decide +kernel
theorem dL_byteAt_17 : decode cL_byteAt 17 = .ok (.ireturn, 1) := by decide +kernel
theorem dL_byteAt_18 : decode cL_byteAt 18 = .ok (.iconst 0, 1) := by decide +kernel
theorem dL_byteAt_19 : decode cL_byteAt 19 = .ok (.ireturn, 1) := by decide +kernel
theorem dL_fated_0 : decode cL_fated 0 = .ok (.aload_n 2, 1) := by decide +kernel
theorem dL_fated_1 : decode cL_fated 1 = .ok (.iconst 0, 1) := by decide +kernel
theorem dL_fated_2 : decode cL_fated 2 = .ok (.aload_n 0, 1) := by decide +kernel
theorem dL_fated_3 : decode cL_fated 3 = .ok (.iload_n 1, 1) := by decide +kernel
theorem dL_fated_4 : decode cL_fated 4 = .ok (.invokevirtual 45, 3) := by decide +kernel
theorem dL_fated_7 : decode cL_fated 7 = .ok (.i2l, 1) := by decide +kernel
theorem dL_fated_8 : decode cL_fated 8 = .ok (.lastore, 1) := by decide +kernel
theorem dL_fated_9 : decode cL_fated 9 = .ok (.goto 6, 3) := by decide +kernel
theorem dL_fated_12 : decode cL_fated 12 = .ok (.astore_n 3, 1) := by decide +kernel
theorem dL_fated_13 : decode cL_fated 13 = .ok (.iconst 1, 1) := by decide +kernel
theorem dL_fated_14 : decode cL_fated 14 = .ok (.ireturn, 1) := by decide +kernel
theorem dL_fated_15 : decode cL_fated 15 = .ok (.iconst 0, 1) := by decide +kernel
theorem dL_fated_16 : decode cL_fated 16 = .ok (.ireturn, 1) := by decide +kernel
theorem dL_puts_0 : decode cL_puts 0 = .ok (.aload_n 2, 1) := by decide +kernel
theorem dL_puts_1 : decode cL_puts 1 = .ok (.iconst 0, 1) := by decide +kernel
theorem dL_puts_2 : decode cL_puts 2 = .ok (.aload_n 0, 1) := by decide +kernel
theorem dL_puts_3 : decode cL_puts 3 = .ok (.iload_n 1, 1) := by decide +kernel
theorem dL_puts_4 : decode cL_puts 4 = .ok (.invokevirtual 48, 3) := by decide +kernel
theorem dL_puts_7 : decode cL_puts 7 = .ok (.i2l, 1) := by decide +kernel
theorem dL_puts_8 : decode cL_puts 8 = .ok (.lastore, 1) := by decide +kernel
theorem dL_puts_9 : decode cL_puts 9 = .ok (.goto 6, 3) := by decide +kernel
theorem dL_puts_12 : decode cL_puts 12 = .ok (.astore_n 3, 1) := by decide +kernel
theorem dL_puts_13 : decode cL_puts 13 = .ok (.iconst 1, 1) := by decide +kernel
theorem dL_puts_14 : decode cL_puts 14 = .ok (.ireturn, 1) := by decide +kernel
theorem dL_puts_15 : decode cL_puts 15 = .ok (.iconst 0, 1) := by decide +kernel
theorem dL_puts_16 : decode cL_puts 16 = .ok (.ireturn, 1) := by decide +kernel
