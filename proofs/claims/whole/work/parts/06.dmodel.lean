theorem dX3_init_0 : decode cX3_init 0 = .ok (.aload_n 0, 1) := by decide +kernel
theorem dX3_init_1 : decode cX3_init 1 = .ok (.invokespecial 1, 3) := by decide +kernel
theorem dX3_init_4 : decode cX3_init 4 = .ok (.aload_n 0, 1) := by decide +kernel
theorem dX3_init_5 : decode cX3_init 5 = .ok (.bipush 24, 2) := by decide +kernel
theorem dX3_init_7 : decode cX3_init 7 = .ok (.newarray .int, 2) := by decide +kernel
theorem dX3_init_9 : decode cX3_init 9 = .ok (.putfield 7, 3) := by decide +kernel
theorem dX3_init_12 : decode cX3_init 12 = .ok (.aload_n 0, 1) := by decide +kernel
theorem dX3_init_13 : decode cX3_init 13 = .ok (.bipush 24, 2) := by decide +kernel
theorem dX3_init_15 : decode cX3_init 15 = .ok (.newarray .int, 2) := by decide +kernel
theorem dX3_init_17 : decode cX3_init 17 = .ok (.putfield 13, 3) := by decide +kernel
theorem dX3_init_20 : decode cX3_init 20 = .ok (.aload_n 0, 1) := by decide +kernel
theorem dX3_init_21 : decode cX3_init 21 = .ok (.bipush 24, 2) := by decide +kernel
theorem dX3_init_23 : decode cX3_init 23 = .ok (.newarray .boolean, 2) := by decide +kernel
theorem dX3_init_25 : decode cX3_init 25 = .ok (.putfield 16, 3) := by decide +kernel
theorem dX3_init_28 : decode cX3_init 28 = .ok (.aload_n 0, 1) := by decide +kernel
theorem dX3_init_29 : decode cX3_init 29 = .ok (.bipush 24, 2) := by decide +kernel
theorem dX3_init_31 : decode cX3_init 31 = .ok (.newarray .int, 2) := by decide +kernel
theorem dX3_init_33 : decode cX3_init 33 = .ok (.putfield 20, 3) := by decide +kernel
theorem dX3_init_36 : decode cX3_init 36 = .ok (.aload_n 0, 1) := by decide +kernel
theorem dX3_init_37 : decode cX3_init 37 = .ok (.sipush 1536, 3) := by decide +kernel
theorem dX3_init_40 : decode cX3_init 40 = .ok (.newarray .int, 2) := by decide +kernel
theorem dX3_init_42 : decode cX3_init 42 = .ok (.putfield 23, 3) := by decide +kernel
theorem dX3_init_45 : decode cX3_init 45 = .ok (.aload_n 0, 1) := by decide +kernel
theorem dX3_init_46 : decode cX3_init 46 = .ok (.bipush 24, 2) := by decide +kernel
theorem dX3_init_48 : decode cX3_init 48 = .ok (.newarray .int, 2) := by decide +kernel
theorem dX3_init_50 : decode cX3_init 50 = .ok (.putfield 26, 3) := by decide +kernel
theorem dX3_init_53 : decode cX3_init 53 = .ok (.aload_n 0, 1) := by decide +kernel
theorem dX3_init_54 : decode cX3_init 54 = .ok (.sipush 1480, 3) := by decide +kernel
theorem dX3_init_57 : decode cX3_init 57 = .ok (.newarray .int, 2) := by decide +kernel
theorem dX3_init_59 : decode cX3_init 59 = .ok (.putfield 29, 3) := by decide +kernel
theorem dX3_init_62 : decode cX3_init 62 = .ok (.aload_n 0, 1) := by decide +kernel
theorem dX3_init_63 : decode cX3_init 63 = .ok (.sipush 512, 3) := by decide +kernel
theorem dX3_init_66 : decode cX3_init 66 = .ok (.newarray .int, 2) := by decide +kernel
theorem dX3_init_68 : decode cX3_init 68 = .ok (.putfield 32, 3) := by decide +kernel
theorem dX3_init_71 : decode cX3_init 71 = .ok (.aload_n 0, 1) := by decide +kernel
theorem dX3_init_72 : decode cX3_init 72 = .ok (.sipush 512, 3) := by decide +kernel
theorem dX3_init_75 : decode cX3_init 75 = .ok (.newarray .boolean, 2) := by decide +kernel
theorem dX3_init_77 : decode cX3_init 77 = .ok (.putfield 35, 3) := by decide +kernel
theorem dX3_init_80 : decode cX3_init 80 = .ok (.aload_n 0, 1) := by decide +kernel
theorem dX3_init_81 : decode cX3_init 81 = .ok (.sipush 4096, 3) := by decide +kernel
theorem dX3_init_84 : decode cX3_init 84 = .ok (.newarray .int, 2) := by decide +kernel
theorem dX3_init_86 : decode cX3_init 86 = .ok (.putfield 38, 3) := by decide +kernel
theorem dX3_init_89 : decode cX3_init 89 = .ok (.aload_n 0, 1) := by decide +kernel
theorem dX3_init_90 : decode cX3_init 90 = .ok (.ldc 41, 2) := by decide +kernel
theorem dX3_init_92 : decode cX3_init 92 = .ok (.newarray .long, 2) := by decide +kernel
theorem dX3_init_94 : decode cX3_init 94 = .ok (.putfield 42, 3) := by decide +kernel
theorem dX3_init_97 : decode cX3_init 97 = .ok (.aload_n 0, 1) := by decide +kernel
theorem dX3_init_98 : decode cX3_init 98 = .ok (.bipush 7, 2) := by decide +kernel
theorem dX3_init_100 : decode cX3_init 100 = .ok (.newarray .int, 2) := by decide +kernel
theorem dX3_init_102 : decode cX3_init 102 = .ok (.putfield 46, 3) := by decide +kernel
theorem dX3_init_105 : decode cX3_init 105 = .ok (.aload_n 0, 1) := by decide +kernel
theorem dX3_init_106 : decode cX3_init 106 = .ok (.sipush 1480, 3) := by decide +kernel
theorem dX3_init_109 : decode cX3_init 109 = .ok (.newarray .int, 2) := by decide +kernel
theorem dX3_init_111 : decode cX3_init 111 = .ok (.putfield 49, 3) := by decide +kernel
theorem dX3_init_114 : decode cX3_init 114 = .ok (.return_, 1) := by decide +kernel
theorem dX3_thrown_0 : decode cX3_thrown 0 = .ok (.aload_n 0, 1) := by decide +kernel
theorem dX3_thrown_1 : decode cX3_thrown 1 = .ok (.getfield 52, 3) := by decide +kernel
theorem dX3_thrown_4 : decode cX3_thrown 4 = .ok (.ireturn, 1) := by decide +kernel
theorem dX3_net_0 : decode cX3_net 0 = .ok (.aload_n 0, 1) := by decide +kernel
theorem dX3_net_1 : decode cX3_net 1 = .ok (.iload_n 1, 1) := by decide +kernel
theorem dX3_net_2 : decode cX3_net 2 = .ok (.bipush 100, 2) := by decide +kernel
theorem dX3_net_4 : decode cX3_net 4 = .ok (.if_icmp .lt 21, 3) := by decide +kernel
theorem dX3_net_7 : decode cX3_net 7 = .ok (.iload_n 1, 1) := by decide +kernel
theorem dX3_net_8 : decode cX3_net 8 = .ok (.sipush 1500, 3) := by decide +kernel
theorem dX3_net_11 : decode cX3_net 11 = .ok (.if_icmp .gt 14, 3) := by decide +kernel
theorem dX3_net_14 : decode cX3_net 14 = .ok (.iload_n 2, 1) := by decide +kernel
theorem dX3_net_15 : decode cX3_net 15 = .ok (.iconst 1, 1) := by decide +kernel
theorem dX3_net_16 : decode cX3_net 16 = .ok (.if_icmp .lt 9, 3) := by decide +kernel
theorem dX3_net_19 : decode cX3_net 19 = .ok (.iload_n 2, 1) := by decide +kernel
theorem dX3_net_20 : decode cX3_net 20 = .ok (.bipush 50, 2) := by decide +kernel
theorem dX3_net_22 : decode cX3_net 22 = .ok (.if_icmp .le 7, 3) := by decide +kernel
theorem dX3_net_25 : decode cX3_net 25 = .ok (.iconst 1, 1) := by decide +kernel
theorem dX3_net_26 : decode cX3_net 26 = .ok (.goto 17, 3) := by decide +kernel
theorem dX3_net_29 : decode cX3_net 29 = .ok (.aload_n 0, 1) := by decide +kernel
theorem dX3_net_30 : decode cX3_net 30 = .ok (.getfield 56, 3) := by decide +kernel
theorem dX3_net_33 : decode cX3_net 33 = .ok (.bipush 24, 2) := by decide +kernel
theorem dX3_net_35 : decode cX3_net 35 = .ok (.if_icmp .ne 7, 3) := by decide +kernel
theorem dX3_net_38 : decode cX3_net 38 = .ok (.iconst 2, 1) := by decide +kernel
theorem dX3_net_39 : decode cX3_net 39 = .ok (.goto 4, 3) := by decide +kernel
theorem dX3_net_42 : decode cX3_net 42 = .ok (.iconst 0, 1) := by decide +kernel
theorem dX3_net_43 : decode cX3_net 43 = .ok (.putfield 52, 3) := by decide +kernel
theorem dX3_net_46 : decode cX3_net 46 = .ok (.aload_n 0, 1) := by decide +kernel
theorem dX3_net_47 : decode cX3_net 47 = .ok (.getfield 52, 3) := by decide +kernel
theorem dX3_net_50 : decode cX3_net 50 = .ok (.ifCond .le 5, 3) := by decide +kernel
theorem dX3_net_53 : decode cX3_net 53 = .ok (.iconst 0, 1) := by decide +kernel
theorem dX3_net_54 : decode cX3_net 54 = .ok (.ireturn, 1) := by decide +kernel
theorem dX3_net_55 : decode cX3_net 55 = .ok (.aload_n 0, 1) := by decide +kernel
theorem dX3_net_56 : decode cX3_net 56 = .ok (.getfield 7, 3) := by decide +kernel
theorem dX3_net_59 : decode cX3_net 59 = .ok (.aload_n 0, 1) := by decide +kernel
theorem dX3_net_60 : decode cX3_net 60 = .ok (.getfield 56, 3) := by decide +kernel
theorem dX3_net_63 : decode cX3_net 63 = .ok (.iload_n 1, 1) := by decide +kernel
theorem dX3_net_64 : decode cX3_net 64 = .ok (.iastore, 1) := by decide +kernel
theorem dX3_net_65 : decode cX3_net 65 = .ok (.aload_n 0, 1) := by decide +kernel
theorem dX3_net_66 : decode cX3_net 66 = .ok (.getfield 13, 3) := by decide +kernel
theorem dX3_net_69 : decode cX3_net 69 = .ok (.aload_n 0, 1) := by decide +kernel
theorem dX3_net_70 : decode cX3_net 70 = .ok (.getfield 56, 3) := by decide +kernel
theorem dX3_net_73 : decode cX3_net 73 = .ok (.iload_n 2, 1) := by decide +kernel
theorem dX3_net_74 : decode cX3_net 74 = .ok (.iastore, 1) := by decide +kernel
theorem dX3_net_75 : decode cX3_net 75 = .ok (.aload_n 0, 1) := by decide +kernel
theorem dX3_net_76 : decode cX3_net 76 = .ok (.getfield 16, 3) := by decide +kernel
theorem dX3_net_79 : decode cX3_net 79 = .ok (.aload_n 0, 1) := by decide +kernel
theorem dX3_net_80 : decode cX3_net 80 = .ok (.getfield 56, 3) := by decide +kernel
theorem dX3_net_83 : decode cX3_net 83 = .ok (.iconst 1, 1) := by decide +kernel
theorem dX3_net_84 : decode cX3_net 84 = .ok (.bastore, 1) := by decide +kernel
theorem dX3_net_85 : decode cX3_net 85 = .ok (.aload_n 0, 1) := by decide +kernel
theorem dX3_net_86 : decode cX3_net 86 = .ok (.dup, 1) := by decide +kernel
theorem dX3_net_87 : decode cX3_net 87 = .ok (.getfield 56, 3) := by decide +kernel
theorem dX3_net_90 : decode cX3_net 90 = .ok (.iconst 1, 1) := by decide +kernel
theorem dX3_net_91 : decode cX3_net 91 = .ok (.iadd, 1) := by decide +kernel
theorem dX3_net_92 : decode cX3_net 92 = .ok (.putfield 56, 3) := by decide +kernel
theorem dX3_net_95 : decode cX3_net 95 = .ok (.aload_n 0, 1) := by decide +kernel
theorem dX3_net_96 : decode cX3_net 96 = .ok (.getfield 56, 3) := by decide +kernel
theorem dX3_net_99 : decode cX3_net 99 = .ok (.iconst 1, 1) := by decide +kernel
theorem dX3_net_100 : decode cX3_net 100 = .ok (.isub, 1) := by decide +kernel
theorem dX3_net_101 : decode cX3_net 101 = .ok (.ireturn, 1) := by decide +kernel
theorem dX3_link_0 : decode cX3_link 0 = .ok (.aload_n 0, 1) := by decide +kernel
theorem dX3_link_1 : decode cX3_link 1 = .ok (.aload_n 0, 1) := by decide +kernel
theorem dX3_link_2 : decode cX3_link 2 = .ok (.iload_n 1, 1) := by decide +kernel
theorem dX3_link_3 : decode cX3_link 3 = .ok (.invokevirtual 62, 3) := by decide +kernel
theorem dX3_link_6 : decode cX3_link 6 = .ok (.ifCond .eq 7, 3) := by decide +kernel
theorem dX3_link_9 : decode cX3_link 9 = .ok (.iconst 0, 1) := by decide +kernel
theorem dX3_link_10 : decode cX3_link 10 = .ok (.goto 4, 3) := by decide +kernel
theorem dX3_link_13 : decode cX3_link 13 = .ok (.iconst 1, 1) := by decide +kernel
theorem dX3_link_14 : decode cX3_link 14 = .ok (.putfield 52, 3) := by decide +kernel
theorem dX3_link_17 : decode cX3_link 17 = .ok (.aload_n 0, 1) := by decide +kernel
theorem dX3_link_18 : decode cX3_link 18 = .ok (.getfield 52, 3) := by decide +kernel
theorem dX3_link_21 : decode cX3_link 21 = .ok (.ifCond .le 5, 3) := by decide +kernel
theorem dX3_link_24 : decode cX3_link 24 = .ok (.iconst 0, 1) := by decide +kernel
theorem dX3_link_25 : decode cX3_link 25 = .ok (.ireturn, 1) := by decide +kernel
theorem dX3_link_26 : decode cX3_link 26 = .ok (.iconst 0, 1) := by decide +kernel
theorem dX3_link_27 : decode cX3_link 27 = .ok (.istore_n 3, 1) := by decide +kernel
theorem dX3_link_28 : decode cX3_link 28 = .ok (.aload_n 0, 1) := by decide +kernel
theorem dX3_link_29 : decode cX3_link 29 = .ok (.getfield 59, 3) := by decide +kernel
theorem dX3_link_32 : decode cX3_link 32 = .ok (.iconst 1, 1) := by decide +kernel
theorem dX3_link_33 : decode cX3_link 33 = .ok (.isub, 1) := by decide +kernel
theorem dX3_link_34 : decode cX3_link 34 = .ok (.istore 4, 2) := by decide +kernel
theorem dX3_link_36 : decode cX3_link 36 = .ok (.iload 4, 2) := by decide +kernel
theorem dX3_link_38 : decode cX3_link 38 = .ok (.ifCond .lt 50, 3) := by decide +kernel
theorem dX3_link_41 : decode cX3_link 41 = .ok (.aload_n 0, 1) := by decide +kernel
theorem dX3_link_42 : decode cX3_link 42 = .ok (.getfield 16, 3) := by decide +kernel
theorem dX3_link_45 : decode cX3_link 45 = .ok (.iload_n 1, 1) := by decide +kernel
theorem dX3_link_46 : decode cX3_link 46 = .ok (.baload, 1) := by decide +kernel
theorem dX3_link_47 : decode cX3_link 47 = .ok (.ifCond .eq 41, 3) := by decide +kernel
theorem dX3_link_50 : decode cX3_link 50 = .ok (.iload_n 2, 1) := by decide +kernel
theorem dX3_link_51 : decode cX3_link 51 = .ok (.ifCond .ne 37, 3) := by decide +kernel
theorem dX3_link_54 : decode cX3_link 54 = .ok (.aload_n 0, 1) := by decide +kernel
theorem dX3_link_55 : decode cX3_link 55 = .ok (.getfield 38, 3) := by decide +kernel
theorem dX3_link_58 : decode cX3_link 58 = .ok (.bipush 8, 2) := by decide +kernel
theorem dX3_link_60 : decode cX3_link 60 = .ok (.aload_n 0, 1) := by decide +kernel
theorem dX3_link_61 : decode cX3_link 61 = .ok (.getfield 32, 3) := by decide +kernel
theorem dX3_link_64 : decode cX3_link 64 = .ok (.iload 4, 2) := by decide +kernel
theorem dX3_link_66 : decode cX3_link 66 = .ok (.iaload, 1) := by decide +kernel
theorem dX3_link_67 : decode cX3_link 67 = .ok (.imul, 1) := by decide +kernel
theorem dX3_link_68 : decode cX3_link 68 = .ok (.iaload, 1) := by decide +kernel
theorem dX3_link_69 : decode cX3_link 69 = .ok (.iload_n 1, 1) := by decide +kernel
theorem dX3_link_70 : decode cX3_link 70 = .ok (.if_icmp .ne 12, 3) := by decide +kernel
theorem dX3_link_73 : decode cX3_link 73 = .ok (.aload_n 0, 1) := by decide +kernel
theorem dX3_link_74 : decode cX3_link 74 = .ok (.iload 4, 2) := by decide +kernel
theorem dX3_link_76 : decode cX3_link 76 = .ok (.invokevirtual 66, 3) := by decide +kernel
theorem dX3_link_79 : decode cX3_link 79 = .ok (.iinc 3 1, 3) := by decide +kernel
theorem dX3_link_82 : decode cX3_link 82 = .ok (.iinc 4 (-1), 3) := by decide +kernel
theorem dX3_link_85 : decode cX3_link 85 = .ok (.goto (-49), 3) := by decide +kernel
theorem dX3_link_88 : decode cX3_link 88 = .ok (.aload_n 0, 1) := by decide +kernel
theorem dX3_link_89 : decode cX3_link 89 = .ok (.getfield 16, 3) := by decide +kernel
theorem dX3_link_92 : decode cX3_link 92 = .ok (.iload_n 1, 1) := by decide +kernel
theorem dX3_link_93 : decode cX3_link 93 = .ok (.iload_n 2, 1) := by decide +kernel
theorem dX3_link_94 : decode cX3_link 94 = .ok (.bastore, 1) := by decide +kernel
theorem dX3_link_95 : decode cX3_link 95 = .ok (.iload_n 3, 1) := by decide +kernel
theorem dX3_link_96 : decode cX3_link 96 = .ok (.ireturn, 1) := by decide +kernel
theorem dX3_isNet_0 : decode cX3_isNet 0 = .ok (.iload_n 1, 1) := by decide +kernel
theorem dX3_isNet_1 : decode cX3_isNet 1 = .ok (.ifCond .lt 15, 3) := by decide +kernel
theorem dX3_isNet_4 : decode cX3_isNet 4 = .ok (.iload_n 1, 1) := by decide +kernel
theorem dX3_isNet_5 : decode cX3_isNet 5 = .ok (.aload_n 0, 1) := by decide +kernel
theorem dX3_isNet_6 : decode cX3_isNet 6 = .ok (.getfield 56, 3) := by decide +kernel
theorem dX3_isNet_9 : decode cX3_isNet 9 = .ok (.if_icmp .ge 7, 3) := by decide +kernel
theorem dX3_isNet_12 : decode cX3_isNet 12 = .ok (.iconst 1, 1) := by decide +kernel
theorem dX3_isNet_13 : decode cX3_isNet 13 = .ok (.goto 4, 3) := by decide +kernel
theorem dX3_isNet_16 : decode cX3_isNet 16 = .ok (.iconst 0, 1) := by decide +kernel
theorem dX3_isNet_17 : decode cX3_isNet 17 = .ok (.ireturn, 1) := by decide +kernel
theorem dX3_remove_0 : decode cX3_remove 0 = .ok (.aload_n 0, 1) := by decide +kernel
theorem dX3_remove_1 : decode cX3_remove 1 = .ok (.getfield 35, 3) := by decide +kernel
theorem dX3_remove_4 : decode cX3_remove 4 = .ok (.aload_n 0, 1) := by decide +kernel
theorem dX3_remove_5 : decode cX3_remove 5 = .ok (.getfield 32, 3) := by decide +kernel
theorem dX3_remove_8 : decode cX3_remove 8 = .ok (.iload_n 1, 1) := by decide +kernel
theorem dX3_remove_9 : decode cX3_remove 9 = .ok (.iaload, 1) := by decide +kernel
theorem dX3_remove_10 : decode cX3_remove 10 = .ok (.iconst 0, 1) := by decide +kernel
theorem dX3_remove_11 : decode cX3_remove 11 = .ok (.bastore, 1) := by decide +kernel
theorem dX3_remove_12 : decode cX3_remove 12 = .ok (.aload_n 0, 1) := by decide +kernel
theorem dX3_remove_13 : decode cX3_remove 13 = .ok (.dup, 1) := by decide +kernel
theorem dX3_remove_14 : decode cX3_remove 14 = .ok (.getfield 59, 3) := by decide +kernel
theorem dX3_remove_17 : decode cX3_remove 17 = .ok (.iconst 1, 1) := by decide +kernel
theorem dX3_remove_18 : decode cX3_remove 18 = .ok (.isub, 1) := by decide +kernel
theorem dX3_remove_19 : decode cX3_remove 19 = .ok (.putfield 59, 3) := by decide +kernel
theorem dX3_remove_22 : decode cX3_remove 22 = .ok (.iload_n 1, 1) := by decide +kernel
theorem dX3_remove_23 : decode cX3_remove 23 = .ok (.istore_n 2, 1) := by decide +kernel
theorem dX3_remove_24 : decode cX3_remove 24 = .ok (.iload_n 2, 1) := by decide +kernel
theorem dX3_remove_25 : decode cX3_remove 25 = .ok (.aload_n 0, 1) := by decide +kernel
theorem dX3_remove_26 : decode cX3_remove 26 = .ok (.getfield 59, 3) := by decide +kernel
theorem dX3_remove_29 : decode cX3_remove 29 = .ok (.if_icmp .ge 23, 3) := by decide +kernel
theorem dX3_remove_32 : decode cX3_remove 32 = .ok (.aload_n 0, 1) := by decide +kernel
theorem dX3_remove_33 : decode cX3_remove 33 = .ok (.getfield 32, 3) := by decide +kernel
theorem dX3_remove_36 : decode cX3_remove 36 = .ok (.iload_n 2, 1) := by decide +kernel
theorem dX3_remove_37 : decode cX3_remove 37 = .ok (.aload_n 0, 1) := by decide +kernel
theorem dX3_remove_38 : decode cX3_remove 38 = .ok (.getfield 32, 3) := by decide +kernel
theorem dX3_remove_41 : decode cX3_remove 41 = .ok (.iload_n 2, 1) := by decide +kernel
theorem dX3_remove_42 : decode cX3_remove 42 = .ok (.iconst 1, 1) := by decide +kernel
theorem dX3_remove_43 : decode cX3_remove 43 = .ok (.iadd, 1) := by decide +kernel
theorem dX3_remove_44 : decode cX3_remove 44 = .ok (.iaload, 1) := by decide +kernel
theorem dX3_remove_45 : decode cX3_remove 45 = .ok (.iastore, 1) := by decide +kernel
theorem dX3_remove_46 : decode cX3_remove 46 = .ok (.iinc 2 1, 3) := by decide +kernel
theorem dX3_remove_49 : decode cX3_remove 49 = .ok (.goto (-25), 3) := by decide +kernel
theorem dX3_remove_52 : decode cX3_remove 52 = .ok (.return_, 1) := by decide +kernel
theorem dX3_fates_0 : decode cX3_fates 0 = .ok (.aload_n 0, 1) := by decide +kernel
theorem dX3_fates_1 : decode cX3_fates 1 = .ok (.aload_n 0, 1) := by decide +kernel
theorem dX3_fates_2 : decode cX3_fates 2 = .ok (.iload_n 1, 1) := by decide +kernel
theorem dX3_fates_3 : decode cX3_fates 3 = .ok (.invokevirtual 62, 3) := by decide +kernel
theorem dX3_fates_6 : decode cX3_fates 6 = .ok (.ifCond .eq 16, 3) := by decide +kernel
theorem dX3_fates_9 : decode cX3_fates 9 = .ok (.iload 4, 2) := by decide +kernel
theorem dX3_fates_11 : decode cX3_fates 11 = .ok (.iconst 1, 1) := by decide +kernel
theorem dX3_fates_12 : decode cX3_fates 12 = .ok (.if_icmp .lt 10, 3) := by decide +kernel
theorem dX3_fates_15 : decode cX3_fates 15 = .ok (.iload 4, 2) := by decide +kernel
theorem dX3_fates_17 : decode cX3_fates 17 = .ok (.bipush 32, 2) := by decide +kernel
theorem dX3_fates_19 : decode cX3_fates 19 = .ok (.if_icmp .le 7, 3) := by decide +kernel
theorem dX3_fates_22 : decode cX3_fates 22 = .ok (.iconst 1, 1) := by decide +kernel
theorem dX3_fates_23 : decode cX3_fates 23 = .ok (.goto 4, 3) := by decide +kernel
theorem dX3_fates_26 : decode cX3_fates 26 = .ok (.iconst 0, 1) := by decide +kernel
theorem dX3_fates_27 : decode cX3_fates 27 = .ok (.putfield 52, 3) := by decide +kernel
theorem dX3_fates_30 : decode cX3_fates 30 = .ok (.aload_n 0, 1) := by decide +kernel
theorem dX3_fates_31 : decode cX3_fates 31 = .ok (.getfield 52, 3) := by decide +kernel
theorem dX3_fates_34 : decode cX3_fates 34 = .ok (.ifCond .le 5, 3) := by decide +kernel
theorem dX3_fates_37 : decode cX3_fates 37 = .ok (.iconst 0, 1) := by decide +kernel
theorem dX3_fates_38 : decode cX3_fates 38 = .ok (.ireturn, 1) := by decide +kernel
theorem dX3_fates_39 : decode cX3_fates 39 = .ok (.aload_n 0, 1) := by decide +kernel
theorem dX3_fates_40 : decode cX3_fates 40 = .ok (.aload_n 0, 1) := by decide +kernel
theorem dX3_fates_41 : decode cX3_fates 41 = .ok (.getfield 20, 3) := by decide +kernel
theorem dX3_fates_44 : decode cX3_fates 44 = .ok (.iload_n 1, 1) := by decide +kernel
theorem dX3_fates_45 : decode cX3_fates 45 = .ok (.iaload, 1) := by decide +kernel
theorem dX3_fates_46 : decode cX3_fates 46 = .ok (.iload 4, 2) := by decide +kernel
theorem dX3_fates_48 : decode cX3_fates 48 = .ok (.iadd, 1) := by decide +kernel
theorem dX3_fates_49 : decode cX3_fates 49 = .ok (.bipush 64, 2) := by decide +kernel
theorem dX3_fates_51 : decode cX3_fates 51 = .ok (.if_icmp .le 7, 3) := by decide +kernel
theorem dX3_fates_54 : decode cX3_fates 54 = .ok (.iconst 2, 1) := by decide +kernel
theorem dX3_fates_55 : decode cX3_fates 55 = .ok (.goto 4, 3) := by decide +kernel
theorem dX3_fates_58 : decode cX3_fates 58 = .ok (.iconst 0, 1) := by decide +kernel
theorem dX3_fates_59 : decode cX3_fates 59 = .ok (.putfield 52, 3) := by decide +kernel
theorem dX3_fates_62 : decode cX3_fates 62 = .ok (.aload_n 0, 1) := by decide +kernel
theorem dX3_fates_63 : decode cX3_fates 63 = .ok (.getfield 52, 3) := by decide +kernel
theorem dX3_fates_66 : decode cX3_fates 66 = .ok (.ifCond .le 5, 3) := by decide +kernel
theorem dX3_fates_69 : decode cX3_fates 69 = .ok (.iconst 0, 1) := by decide +kernel
theorem dX3_fates_70 : decode cX3_fates 70 = .ok (.ireturn, 1) := by decide +kernel
theorem dX3_fates_71 : decode cX3_fates 71 = .ok (.iconst 0, 1) := by decide +kernel
theorem dX3_fates_72 : decode cX3_fates 72 = .ok (.istore 5, 2) := by decide +kernel
theorem dX3_fates_74 : decode cX3_fates 74 = .ok (.iload 5, 2) := by decide +kernel
theorem dX3_fates_76 : decode cX3_fates 76 = .ok (.iload 4, 2) := by decide +kernel
theorem dX3_fates_78 : decode cX3_fates 78 = .ok (.if_icmp .ge 46, 3) := by decide +kernel
theorem dX3_fates_81 : decode cX3_fates 81 = .ok (.aload_n 0, 1) := by decide +kernel
theorem dX3_fates_82 : decode cX3_fates 82 = .ok (.getfield 23, 3) := by decide +kernel
theorem dX3_fates_85 : decode cX3_fates 85 = .ok (.bipush 64, 2) := by decide +kernel
theorem dX3_fates_87 : decode cX3_fates 87 = .ok (.iload_n 1, 1) := by decide +kernel
theorem dX3_fates_88 : decode cX3_fates 88 = .ok (.imul, 1) := by decide +kernel
theorem dX3_fates_89 : decode cX3_fates 89 = .ok (.aload_n 0, 1) := by decide +kernel
theorem dX3_fates_90 : decode cX3_fates 90 = .ok (.getfield 20, 3) := by decide +kernel
theorem dX3_fates_93 : decode cX3_fates 93 = .ok (.iload_n 1, 1) := by decide +kernel
theorem dX3_fates_94 : decode cX3_fates 94 = .ok (.iaload, 1) := by decide +kernel
theorem dX3_fates_95 : decode cX3_fates 95 = .ok (.iadd, 1) := by decide +kernel
theorem dX3_fates_96 : decode cX3_fates 96 = .ok (.lload_n 2, 1) := by decide +kernel
theorem dX3_fates_97 : decode cX3_fates 97 = .ok (.iconst 2, 1) := by decide +kernel
theorem dX3_fates_98 : decode cX3_fates 98 = .ok (.iload 5, 2) := by decide +kernel
theorem dX3_fates_100 : decode cX3_fates 100 = .ok (.imul, 1) := by decide +kernel
theorem dX3_fates_101 : decode cX3_fates 101 = .ok (.lshr, 1) := by decide +kernel
theorem dX3_fates_102 : decode cX3_fates 102 = .ok (.ldc2_w 70, 3) := by decide +kernel
theorem dX3_fates_105 : decode cX3_fates 105 = .ok (.land, 1) := by decide +kernel
theorem dX3_fates_106 : decode cX3_fates 106 = .ok (.l2i, 1) := by decide +kernel
theorem dX3_fates_107 : decode cX3_fates 107 = .ok (.iastore, 1) := by decide +kernel
theorem dX3_fates_108 : decode cX3_fates 108 = .ok (.aload_n 0, 1) := by decide +kernel
theorem dX3_fates_109 : decode cX3_fates 109 = .ok (.getfield 20, 3) := by decide +kernel
theorem dX3_fates_112 : decode cX3_fates 112 = .ok (.iload_n 1, 1) := by decide +kernel
theorem dX3_fates_113 : decode cX3_fates 113 = .ok (.dup2, 1) := by decide +kernel
theorem dX3_fates_114 : decode cX3_fates 114 = .ok (.iaload, 1) := by decide +kernel
theorem dX3_fates_115 : decode cX3_fates 115 = .ok (.iconst 1, 1) := by decide +kernel
theorem dX3_fates_116 : decode cX3_fates 116 = .ok (.iadd, 1) := by decide +kernel
theorem dX3_fates_117 : decode cX3_fates 117 = .ok (.iastore, 1) := by decide +kernel
theorem dX3_fates_118 : decode cX3_fates 118 = .ok (.iinc 5 1, 3) := by decide +kernel
theorem dX3_fates_121 : decode cX3_fates 121 = .ok (.goto (-47), 3) := by decide +kernel
theorem dX3_fates_124 : decode cX3_fates 124 = .ok (.aload_n 0, 1) := by decide +kernel
theorem dX3_fates_125 : decode cX3_fates 125 = .ok (.getfield 20, 3) := by decide +kernel
theorem dX3_fates_128 : decode cX3_fates 128 = .ok (.iload_n 1, 1) := by decide +kernel
theorem dX3_fates_129 : decode cX3_fates 129 = .ok (.iaload, 1) := by decide +kernel
theorem dX3_fates_130 : decode cX3_fates 130 = .ok (.ireturn, 1) := by decide +kernel
theorem dX3_feed_0 : decode cX3_feed 0 = .ok (.aload_n 0, 1) := by decide +kernel
theorem dX3_feed_1 : decode cX3_feed 1 = .ok (.iload_n 3, 1) := by decide +kernel
theorem dX3_feed_2 : decode cX3_feed 2 = .ok (.iconst 1, 1) := by decide +kernel
theorem dX3_feed_3 : decode cX3_feed 3 = .ok (.if_icmp .lt 9, 3) := by decide +kernel
theorem dX3_feed_6 : decode cX3_feed 6 = .ok (.iload_n 3, 1) := by decide +kernel
theorem dX3_feed_7 : decode cX3_feed 7 = .ok (.bipush 8, 2) := by decide +kernel
theorem dX3_feed_9 : decode cX3_feed 9 = .ok (.if_icmp .le 7, 3) := by decide +kernel
theorem dX3_feed_12 : decode cX3_feed 12 = .ok (.iconst 1, 1) := by decide +kernel
theorem dX3_feed_13 : decode cX3_feed 13 = .ok (.goto 20, 3) := by decide +kernel
theorem dX3_feed_16 : decode cX3_feed 16 = .ok (.aload_n 0, 1) := by decide +kernel
theorem dX3_feed_17 : decode cX3_feed 17 = .ok (.getfield 72, 3) := by decide +kernel
theorem dX3_feed_20 : decode cX3_feed 20 = .ok (.iload_n 3, 1) := by decide +kernel
theorem dX3_feed_21 : decode cX3_feed 21 = .ok (.iadd, 1) := by decide +kernel
theorem dX3_feed_22 : decode cX3_feed 22 = .ok (.sipush 1480, 3) := by decide +kernel
theorem dX3_feed_25 : decode cX3_feed 25 = .ok (.if_icmp .le 7, 3) := by decide +kernel
theorem dX3_feed_28 : decode cX3_feed 28 = .ok (.iconst 2, 1) := by decide +kernel
theorem dX3_feed_29 : decode cX3_feed 29 = .ok (.goto 4, 3) := by decide +kernel
theorem dX3_feed_32 : decode cX3_feed 32 = .ok (.iconst 0, 1) := by decide +kernel
theorem dX3_feed_33 : decode cX3_feed 33 = .ok (.putfield 52, 3) := by decide +kernel
theorem dX3_feed_36 : decode cX3_feed 36 = .ok (.aload_n 0, 1) := by decide +kernel
theorem dX3_feed_37 : decode cX3_feed 37 = .ok (.getfield 52, 3) := by decide +kernel
theorem dX3_feed_40 : decode cX3_feed 40 = .ok (.ifCond .le 5, 3) := by decide +kernel
theorem dX3_feed_43 : decode cX3_feed 43 = .ok (.iconst 0, 1) := by decide +kernel
theorem dX3_feed_44 : decode cX3_feed 44 = .ok (.ireturn, 1) := by decide +kernel
theorem dX3_feed_45 : decode cX3_feed 45 = .ok (.iload_n 3, 1) := by decide +kernel
theorem dX3_feed_46 : decode cX3_feed 46 = .ok (.iconst 1, 1) := by decide +kernel
theorem dX3_feed_47 : decode cX3_feed 47 = .ok (.isub, 1) := by decide +kernel
theorem dX3_feed_48 : decode cX3_feed 48 = .ok (.istore 4, 2) := by decide +kernel
theorem dX3_feed_50 : decode cX3_feed 50 = .ok (.iload 4, 2) := by decide +kernel
theorem dX3_feed_52 : decode cX3_feed 52 = .ok (.ifCond .lt 40, 3) := by decide +kernel
theorem dX3_feed_55 : decode cX3_feed 55 = .ok (.aload_n 0, 1) := by decide +kernel
theorem dX3_feed_56 : decode cX3_feed 56 = .ok (.getfield 29, 3) := by decide +kernel
theorem dX3_feed_59 : decode cX3_feed 59 = .ok (.aload_n 0, 1) := by decide +kernel
theorem dX3_feed_60 : decode cX3_feed 60 = .ok (.getfield 72, 3) := by decide +kernel
theorem dX3_feed_63 : decode cX3_feed 63 = .ok (.lload_n 1, 1) := by decide +kernel
theorem dX3_feed_64 : decode cX3_feed 64 = .ok (.bipush 8, 2) := by decide +kernel
theorem dX3_feed_66 : decode cX3_feed 66 = .ok (.iload 4, 2) := by decide +kernel
theorem dX3_feed_68 : decode cX3_feed 68 = .ok (.imul, 1) := by decide +kernel
theorem dX3_feed_69 : decode cX3_feed 69 = .ok (.lshr, 1) := by decide +kernel
theorem dX3_feed_70 : decode cX3_feed 70 = .ok (.ldc2_w 75, 3) := by decide +kernel
theorem dX3_feed_73 : decode cX3_feed 73 = .ok (.land, 1) := by decide +kernel
theorem dX3_feed_74 : decode cX3_feed 74 = .ok (.l2i, 1) := by decide +kernel
theorem dX3_feed_75 : decode cX3_feed 75 = .ok (.iastore, 1) := by decide +kernel
theorem dX3_feed_76 : decode cX3_feed 76 = .ok (.aload_n 0, 1) := by decide +kernel
theorem dX3_feed_77 : decode cX3_feed 77 = .ok (.dup, 1) := by decide +kernel
theorem dX3_feed_78 : decode cX3_feed 78 = .ok (.getfield 72, 3) := by decide +kernel
theorem dX3_feed_81 : decode cX3_feed 81 = .ok (.iconst 1, 1) := by decide +kernel
theorem dX3_feed_82 : decode cX3_feed 82 = .ok (.iadd, 1) := by decide +kernel
theorem dX3_feed_83 : decode cX3_feed 83 = .ok (.putfield 72, 3) := by decide +kernel
theorem dX3_feed_86 : decode cX3_feed 86 = .ok (.iinc 4 (-1), 3) := by decide +kernel
theorem dX3_feed_89 : decode cX3_feed 89 = .ok (.goto (-39), 3) := by decide +kernel
theorem dX3_feed_92 : decode cX3_feed 92 = .ok (.aload_n 0, 1) := by decide +kernel
theorem dX3_feed_93 : decode cX3_feed 93 = .ok (.getfield 72, 3) := by decide +kernel
theorem dX3_feed_96 : decode cX3_feed 96 = .ok (.ireturn, 1) := by decide +kernel
theorem dX3_put_0 : decode cX3_put 0 = .ok (.aload_n 0, 1) := by decide +kernel
theorem dX3_put_1 : decode cX3_put 1 = .ok (.aload_n 0, 1) := by decide +kernel
theorem dX3_put_2 : decode cX3_put 2 = .ok (.iload_n 1, 1) := by decide +kernel
theorem dX3_put_3 : decode cX3_put 3 = .ok (.invokevirtual 62, 3) := by decide +kernel
theorem dX3_put_6 : decode cX3_put 6 = .ok (.ifCond .eq 29, 3) := by decide +kernel
theorem dX3_put_9 : decode cX3_put 9 = .ok (.iload_n 2, 1) := by decide +kernel
theorem dX3_put_10 : decode cX3_put 10 = .ok (.ifCond .lt 25, 3) := by decide +kernel
theorem dX3_put_13 : decode cX3_put 13 = .ok (.iload_n 2, 1) := by decide +kernel
theorem dX3_put_14 : decode cX3_put 14 = .ok (.bipush 7, 2) := by decide +kernel
theorem dX3_put_16 : decode cX3_put 16 = .ok (.if_icmp .gt 19, 3) := by decide +kernel
theorem dX3_put_19 : decode cX3_put 19 = .ok (.iload_n 3, 1) := by decide +kernel
theorem dX3_put_20 : decode cX3_put 20 = .ok (.iconst (-1), 1) := by decide +kernel
theorem dX3_put_21 : decode cX3_put 21 = .ok (.if_icmp .lt 14, 3) := by decide +kernel
theorem dX3_put_24 : decode cX3_put 24 = .ok (.iload_n 3, 1) := by decide +kernel
theorem dX3_put_25 : decode cX3_put 25 = .ok (.bipush 7, 2) := by decide +kernel
theorem dX3_put_27 : decode cX3_put 27 = .ok (.if_icmp .gt 8, 3) := by decide +kernel
theorem dX3_put_30 : decode cX3_put 30 = .ok (.iload_n 3, 1) := by decide +kernel
theorem dX3_put_31 : decode cX3_put 31 = .ok (.iload_n 2, 1) := by decide +kernel
theorem dX3_put_32 : decode cX3_put 32 = .ok (.if_icmp .ne 7, 3) := by decide +kernel
theorem dX3_put_35 : decode cX3_put 35 = .ok (.iconst 1, 1) := by decide +kernel
theorem dX3_put_36 : decode cX3_put 36 = .ok (.goto 4, 3) := by decide +kernel
theorem dX3_put_39 : decode cX3_put 39 = .ok (.iconst 0, 1) := by decide +kernel
theorem dX3_put_40 : decode cX3_put 40 = .ok (.putfield 52, 3) := by decide +kernel
theorem dX3_put_43 : decode cX3_put 43 = .ok (.aload_n 0, 1) := by decide +kernel
theorem dX3_put_44 : decode cX3_put 44 = .ok (.getfield 52, 3) := by decide +kernel
theorem dX3_put_47 : decode cX3_put 47 = .ok (.ifCond .le 5, 3) := by decide +kernel
theorem dX3_put_50 : decode cX3_put 50 = .ok (.iconst 0, 1) := by decide +kernel
theorem dX3_put_51 : decode cX3_put 51 = .ok (.ireturn, 1) := by decide +kernel
theorem dX3_put_52 : decode cX3_put 52 = .ok (.aload_n 0, 1) := by decide +kernel
theorem dX3_put_53 : decode cX3_put 53 = .ok (.getfield 7, 3) := by decide +kernel
theorem dX3_put_56 : decode cX3_put 56 = .ok (.iload_n 1, 1) := by decide +kernel
theorem dX3_put_57 : decode cX3_put 57 = .ok (.iaload, 1) := by decide +kernel
theorem dX3_put_58 : decode cX3_put 58 = .ok (.bipush 20, 2) := by decide +kernel
theorem dX3_put_60 : decode cX3_put 60 = .ok (.isub, 1) := by decide +kernel
theorem dX3_put_61 : decode cX3_put 61 = .ok (.istore 5, 2) := by decide +kernel
theorem dX3_put_63 : decode cX3_put 63 = .ok (.iconst 0, 1) := by decide +kernel
theorem dX3_put_64 : decode cX3_put 64 = .ok (.istore 6, 2) := by decide +kernel
theorem dX3_put_66 : decode cX3_put 66 = .ok (.aload_n 0, 1) := by decide +kernel
theorem dX3_put_67 : decode cX3_put 67 = .ok (.getfield 72, 3) := by decide +kernel
theorem dX3_put_70 : decode cX3_put 70 = .ok (.iload 5, 2) := by decide +kernel
theorem dX3_put_72 : decode cX3_put 72 = .ok (.if_icmp .gt 20, 3) := by decide +kernel
theorem dX3_put_75 : decode cX3_put 75 = .ok (.aload_n 0, 1) := by decide +kernel
theorem dX3_put_76 : decode cX3_put 76 = .ok (.iload_n 1, 1) := by decide +kernel
theorem dX3_put_77 : decode cX3_put 77 = .ok (.iload_n 2, 1) := by decide +kernel
theorem dX3_put_78 : decode cX3_put 78 = .ok (.iload_n 3, 1) := by decide +kernel
theorem dX3_put_79 : decode cX3_put 79 = .ok (.iload 4, 2) := by decide +kernel
theorem dX3_put_81 : decode cX3_put 81 = .ok (.iconst 0, 1) := by decide +kernel
theorem dX3_put_82 : decode cX3_put 82 = .ok (.aload_n 0, 1) := by decide +kernel
theorem dX3_put_83 : decode cX3_put 83 = .ok (.getfield 72, 3) := by decide +kernel
theorem dX3_put_86 : decode cX3_put 86 = .ok (.invokevirtual 90, 3) := by decide +kernel
theorem dX3_put_89 : decode cX3_put 89 = .ok (.goto 73, 3) := by decide +kernel
theorem dX3_put_92 : decode cX3_put 92 = .ok (.iload 5, 2) := by decide +kernel
theorem dX3_put_94 : decode cX3_put 94 = .ok (.bipush 8, 2) := by decide +kernel
theorem dX3_put_96 : decode cX3_put 96 = .ok (.idiv, 1) := by decide +kernel
theorem dX3_put_97 : decode cX3_put 97 = .ok (.bipush 8, 2) := by decide +kernel
theorem dX3_put_99 : decode cX3_put 99 = .ok (.imul, 1) := by decide +kernel
theorem dX3_put_100 : decode cX3_put 100 = .ok (.istore 7, 2) := by decide +kernel
theorem dX3_put_102 : decode cX3_put 102 = .ok (.iconst 0, 1) := by decide +kernel
theorem dX3_put_103 : decode cX3_put 103 = .ok (.istore 8, 2) := by decide +kernel
theorem dX3_put_105 : decode cX3_put 105 = .ok (.iload 8, 2) := by decide +kernel
theorem dX3_put_107 : decode cX3_put 107 = .ok (.aload_n 0, 1) := by decide +kernel
theorem dX3_put_108 : decode cX3_put 108 = .ok (.getfield 72, 3) := by decide +kernel
theorem dX3_put_111 : decode cX3_put 111 = .ok (.if_icmp .ge 51, 3) := by decide +kernel
theorem dX3_put_114 : decode cX3_put 114 = .ok (.aload_n 0, 1) := by decide +kernel
theorem dX3_put_115 : decode cX3_put 115 = .ok (.iload_n 1, 1) := by decide +kernel
theorem dX3_put_116 : decode cX3_put 116 = .ok (.iload_n 2, 1) := by decide +kernel
theorem dX3_put_117 : decode cX3_put 117 = .ok (.iload_n 3, 1) := by decide +kernel
theorem dX3_put_118 : decode cX3_put 118 = .ok (.iload 4, 2) := by decide +kernel
theorem dX3_put_120 : decode cX3_put 120 = .ok (.iload 8, 2) := by decide +kernel
theorem dX3_put_122 : decode cX3_put 122 = .ok (.aload_n 0, 1) := by decide +kernel
theorem dX3_put_123 : decode cX3_put 123 = .ok (.getfield 72, 3) := by decide +kernel
theorem dX3_put_126 : decode cX3_put 126 = .ok (.iload 8, 2) := by decide +kernel
theorem dX3_put_128 : decode cX3_put 128 = .ok (.isub, 1) := by decide +kernel
theorem dX3_put_129 : decode cX3_put 129 = .ok (.iload 7, 2) := by decide +kernel
theorem dX3_put_131 : decode cX3_put 131 = .ok (.if_icmp .ge 13, 3) := by decide +kernel
theorem dX3_put_134 : decode cX3_put 134 = .ok (.aload_n 0, 1) := by decide +kernel
theorem dX3_put_135 : decode cX3_put 135 = .ok (.getfield 72, 3) := by decide +kernel
theorem dX3_put_138 : decode cX3_put 138 = .ok (.iload 8, 2) := by decide +kernel
theorem dX3_put_140 : decode cX3_put 140 = .ok (.isub, 1) := by decide +kernel
theorem dX3_put_141 : decode cX3_put 141 = .ok (.goto 5, 3) := by decide +kernel
theorem dX3_put_144 : decode cX3_put 144 = .ok (.iload 7, 2) := by decide +kernel
theorem dX3_put_146 : decode cX3_put 146 = .ok (.invokevirtual 90, 3) := by decide +kernel
theorem dX3_put_149 : decode cX3_put 149 = .ok (.iinc 6 1, 3) := by decide +kernel
theorem dX3_put_152 : decode cX3_put 152 = .ok (.iload 8, 2) := by decide +kernel
theorem dX3_put_154 : decode cX3_put 154 = .ok (.iload 7, 2) := by decide +kernel
theorem dX3_put_156 : decode cX3_put 156 = .ok (.iadd, 1) := by decide +kernel
theorem dX3_put_157 : decode cX3_put 157 = .ok (.istore 8, 2) := by decide +kernel
theorem dX3_put_159 : decode cX3_put 159 = .ok (.goto (-54), 3) := by decide +kernel
theorem dX3_put_162 : decode cX3_put 162 = .ok (.aload_n 0, 1) := by decide +kernel
theorem dX3_put_163 : decode cX3_put 163 = .ok (.iconst 0, 1) := by decide +kernel
theorem dX3_put_164 : decode cX3_put 164 = .ok (.putfield 72, 3) := by decide +kernel
theorem dX3_put_167 : decode cX3_put 167 = .ok (.iload 6, 2) := by decide +kernel
theorem dX3_put_169 : decode cX3_put 169 = .ok (.ireturn, 1) := by decide +kernel
theorem dX3_frame_0 : decode cX3_frame 0 = .ok (.aload_n 0, 1) := by decide +kernel
theorem dX3_frame_1 : decode cX3_frame 1 = .ok (.getfield 26, 3) := by decide +kernel
theorem dX3_frame_4 : decode cX3_frame 4 = .ok (.iload_n 1, 1) := by decide +kernel
theorem dX3_frame_5 : decode cX3_frame 5 = .ok (.dup2, 1) := by decide +kernel
theorem dX3_frame_6 : decode cX3_frame 6 = .ok (.iaload, 1) := by decide +kernel
theorem dX3_frame_7 : decode cX3_frame 7 = .ok (.iconst 1, 1) := by decide +kernel
theorem dX3_frame_8 : decode cX3_frame 8 = .ok (.iadd, 1) := by decide +kernel
theorem dX3_frame_9 : decode cX3_frame 9 = .ok (.iastore, 1) := by decide +kernel
theorem dX3_frame_10 : decode cX3_frame 10 = .ok (.aload_n 0, 1) := by decide +kernel
theorem dX3_frame_11 : decode cX3_frame 11 = .ok (.getfield 16, 3) := by decide +kernel
theorem dX3_frame_14 : decode cX3_frame 14 = .ok (.iload_n 1, 1) := by decide +kernel
theorem dX3_frame_15 : decode cX3_frame 15 = .ok (.baload, 1) := by decide +kernel
theorem dX3_frame_16 : decode cX3_frame 16 = .ok (.ifCond .ne 4, 3) := by decide +kernel
theorem dX3_frame_19 : decode cX3_frame 19 = .ok (.return_, 1) := by decide +kernel
theorem dX3_frame_20 : decode cX3_frame 20 = .ok (.aload_n 0, 1) := by decide +kernel
theorem dX3_frame_21 : decode cX3_frame 21 = .ok (.iload_n 1, 1) := by decide +kernel
theorem dX3_frame_22 : decode cX3_frame 22 = .ok (.invokevirtual 79, 3) := by decide +kernel
theorem dX3_frame_25 : decode cX3_frame 25 = .ok (.istore 7, 2) := by decide +kernel
theorem dX3_frame_27 : decode cX3_frame 27 = .ok (.sipush 512, 3) := by decide +kernel
theorem dX3_frame_30 : decode cX3_frame 30 = .ok (.aload_n 0, 1) := by decide +kernel
theorem dX3_frame_31 : decode cX3_frame 31 = .ok (.getfield 59, 3) := by decide +kernel
theorem dX3_frame_34 : decode cX3_frame 34 = .ok (.isub, 1) := by decide +kernel
theorem dX3_frame_35 : decode cX3_frame 35 = .ok (.istore 8, 2) := by decide +kernel
theorem dX3_frame_37 : decode cX3_frame 37 = .ok (.iload 7, 2) := by decide +kernel
theorem dX3_frame_39 : decode cX3_frame 39 = .ok (.iconst 1, 1) := by decide +kernel
theorem dX3_frame_40 : decode cX3_frame 40 = .ok (.if_icmp .eq 19, 3) := by decide +kernel
theorem dX3_frame_43 : decode cX3_frame 43 = .ok (.iload 8, 2) := by decide +kernel
theorem dX3_frame_45 : decode cX3_frame 45 = .ok (.iload 7, 2) := by decide +kernel
theorem dX3_frame_47 : decode cX3_frame 47 = .ok (.iconst 2, 1) := by decide +kernel
theorem dX3_frame_48 : decode cX3_frame 48 = .ok (.if_icmp .ne 7, 3) := by decide +kernel
theorem dX3_frame_51 : decode cX3_frame 51 = .ok (.iconst 2, 1) := by decide +kernel
theorem dX3_frame_52 : decode cX3_frame 52 = .ok (.goto 4, 3) := by decide +kernel
theorem dX3_frame_55 : decode cX3_frame 55 = .ok (.iconst 1, 1) := by decide +kernel
theorem dX3_frame_56 : decode cX3_frame 56 = .ok (.if_icmp .ge 4, 3) := by decide +kernel
theorem dX3_frame_59 : decode cX3_frame 59 = .ok (.return_, 1) := by decide +kernel
theorem dX3_frame_60 : decode cX3_frame 60 = .ok (.aload_n 0, 1) := by decide +kernel
theorem dX3_frame_61 : decode cX3_frame 61 = .ok (.iload_n 1, 1) := by decide +kernel
theorem dX3_frame_62 : decode cX3_frame 62 = .ok (.iload_n 2, 1) := by decide +kernel
theorem dX3_frame_63 : decode cX3_frame 63 = .ok (.iload_n 3, 1) := by decide +kernel
theorem dX3_frame_64 : decode cX3_frame 64 = .ok (.iload 4, 2) := by decide +kernel
theorem dX3_frame_66 : decode cX3_frame 66 = .ok (.iload 5, 2) := by decide +kernel
theorem dX3_frame_68 : decode cX3_frame 68 = .ok (.iload 6, 2) := by decide +kernel
theorem dX3_frame_70 : decode cX3_frame 70 = .ok (.aload_n 0, 1) := by decide +kernel
theorem dX3_frame_71 : decode cX3_frame 71 = .ok (.getfield 83, 3) := by decide +kernel
theorem dX3_frame_74 : decode cX3_frame 74 = .ok (.aload_n 0, 1) := by decide +kernel
theorem dX3_frame_75 : decode cX3_frame 75 = .ok (.getfield 13, 3) := by decide +kernel
theorem dX3_frame_78 : decode cX3_frame 78 = .ok (.iload_n 1, 1) := by decide +kernel
theorem dX3_frame_79 : decode cX3_frame 79 = .ok (.iaload, 1) := by decide +kernel
theorem dX3_frame_80 : decode cX3_frame 80 = .ok (.iload 7, 2) := by decide +kernel
theorem dX3_frame_82 : decode cX3_frame 82 = .ok (.iconst 3, 1) := by decide +kernel
theorem dX3_frame_83 : decode cX3_frame 83 = .ok (.if_icmp .ne 7, 3) := by decide +kernel
theorem dX3_frame_86 : decode cX3_frame 86 = .ok (.iconst 4, 1) := by decide +kernel
theorem dX3_frame_87 : decode cX3_frame 87 = .ok (.goto 4, 3) := by decide +kernel
theorem dX3_frame_90 : decode cX3_frame 90 = .ok (.iconst 1, 1) := by decide +kernel
theorem dX3_frame_91 : decode cX3_frame 91 = .ok (.imul, 1) := by decide +kernel
theorem dX3_frame_92 : decode cX3_frame 92 = .ok (.iadd, 1) := by decide +kernel
theorem dX3_frame_93 : decode cX3_frame 93 = .ok (.invokevirtual 86, 3) := by decide +kernel
theorem dX3_frame_96 : decode cX3_frame 96 = .ok (.iload 7, 2) := by decide +kernel
theorem dX3_frame_98 : decode cX3_frame 98 = .ok (.iconst 2, 1) := by decide +kernel
theorem dX3_frame_99 : decode cX3_frame 99 = .ok (.if_icmp .ne 29, 3) := by decide +kernel
theorem dX3_frame_102 : decode cX3_frame 102 = .ok (.aload_n 0, 1) := by decide +kernel
theorem dX3_frame_103 : decode cX3_frame 103 = .ok (.iload_n 1, 1) := by decide +kernel
theorem dX3_frame_104 : decode cX3_frame 104 = .ok (.iload_n 2, 1) := by decide +kernel
theorem dX3_frame_105 : decode cX3_frame 105 = .ok (.iload_n 3, 1) := by decide +kernel
theorem dX3_frame_106 : decode cX3_frame 106 = .ok (.iload 4, 2) := by decide +kernel
theorem dX3_frame_108 : decode cX3_frame 108 = .ok (.iload 5, 2) := by decide +kernel
theorem dX3_frame_110 : decode cX3_frame 110 = .ok (.iload 6, 2) := by decide +kernel
theorem dX3_frame_112 : decode cX3_frame 112 = .ok (.aload_n 0, 1) := by decide +kernel
theorem dX3_frame_113 : decode cX3_frame 113 = .ok (.getfield 83, 3) := by decide +kernel
theorem dX3_frame_116 : decode cX3_frame 116 = .ok (.aload_n 0, 1) := by decide +kernel
theorem dX3_frame_117 : decode cX3_frame 117 = .ok (.getfield 13, 3) := by decide +kernel
theorem dX3_frame_120 : decode cX3_frame 120 = .ok (.iload_n 1, 1) := by decide +kernel
theorem dX3_frame_121 : decode cX3_frame 121 = .ok (.iaload, 1) := by decide +kernel
theorem dX3_frame_122 : decode cX3_frame 122 = .ok (.iconst 3, 1) := by decide +kernel
theorem dX3_frame_123 : decode cX3_frame 123 = .ok (.imul, 1) := by decide +kernel
theorem dX3_frame_124 : decode cX3_frame 124 = .ok (.iadd, 1) := by decide +kernel
theorem dX3_frame_125 : decode cX3_frame 125 = .ok (.invokevirtual 86, 3) := by decide +kernel
theorem dX3_frame_128 : decode cX3_frame 128 = .ok (.return_, 1) := by decide +kernel
theorem dX3_nextFate_0 : decode cX3_nextFate 0 = .ok (.aload_n 0, 1) := by decide +kernel
theorem dX3_nextFate_1 : decode cX3_nextFate 1 = .ok (.getfield 20, 3) := by decide +kernel
theorem dX3_nextFate_4 : decode cX3_nextFate 4 = .ok (.iload_n 1, 1) := by decide +kernel
theorem dX3_nextFate_5 : decode cX3_nextFate 5 = .ok (.iaload, 1) := by decide +kernel
theorem dX3_nextFate_6 : decode cX3_nextFate 6 = .ok (.ifCond .ne 5, 3) := by decide +kernel
theorem dX3_nextFate_9 : decode cX3_nextFate 9 = .ok (.iconst 0, 1) := by decide +kernel
theorem dX3_nextFate_10 : decode cX3_nextFate 10 = .ok (.ireturn, 1) := by decide +kernel
theorem dX3_nextFate_11 : decode cX3_nextFate 11 = .ok (.aload_n 0, 1) := by decide +kernel
theorem dX3_nextFate_12 : decode cX3_nextFate 12 = .ok (.getfield 23, 3) := by decide +kernel
theorem dX3_nextFate_15 : decode cX3_nextFate 15 = .ok (.bipush 64, 2) := by decide +kernel
theorem dX3_nextFate_17 : decode cX3_nextFate 17 = .ok (.iload_n 1, 1) := by decide +kernel
theorem dX3_nextFate_18 : decode cX3_nextFate 18 = .ok (.imul, 1) := by decide +kernel
theorem dX3_nextFate_19 : decode cX3_nextFate 19 = .ok (.iaload, 1) := by decide +kernel
theorem dX3_nextFate_20 : decode cX3_nextFate 20 = .ok (.istore_n 2, 1) := by decide +kernel
theorem dX3_nextFate_21 : decode cX3_nextFate 21 = .ok (.aload_n 0, 1) := by decide +kernel
theorem dX3_nextFate_22 : decode cX3_nextFate 22 = .ok (.getfield 20, 3) := by decide +kernel
theorem dX3_nextFate_25 : decode cX3_nextFate 25 = .ok (.iload_n 1, 1) := by decide +kernel
theorem dX3_nextFate_26 : decode cX3_nextFate 26 = .ok (.dup2, 1) := by decide +kernel
theorem dX3_nextFate_27 : decode cX3_nextFate 27 = .ok (.iaload, 1) := by decide +kernel
theorem dX3_nextFate_28 : decode cX3_nextFate 28 = .ok (.iconst 1, 1) := by decide +kernel
theorem dX3_nextFate_29 : decode cX3_nextFate 29 = .ok (.isub, 1) := by decide +kernel
theorem dX3_nextFate_30 : decode cX3_nextFate 30 = .ok (.iastore, 1) := by decide +kernel
theorem dX3_nextFate_31 : decode cX3_nextFate 31 = .ok (.bipush 64, 2) := by decide +kernel
theorem dX3_nextFate_33 : decode cX3_nextFate 33 = .ok (.iload_n 1, 1) := by decide +kernel
theorem dX3_nextFate_34 : decode cX3_nextFate 34 = .ok (.imul, 1) := by decide +kernel
theorem dX3_nextFate_35 : decode cX3_nextFate 35 = .ok (.istore_n 3, 1) := by decide +kernel
theorem dX3_nextFate_36 : decode cX3_nextFate 36 = .ok (.iload_n 3, 1) := by decide +kernel
theorem dX3_nextFate_37 : decode cX3_nextFate 37 = .ok (.bipush 64, 2) := by decide +kernel
theorem dX3_nextFate_39 : decode cX3_nextFate 39 = .ok (.iload_n 1, 1) := by decide +kernel
theorem dX3_nextFate_40 : decode cX3_nextFate 40 = .ok (.imul, 1) := by decide +kernel
theorem dX3_nextFate_41 : decode cX3_nextFate 41 = .ok (.aload_n 0, 1) := by decide +kernel
theorem dX3_nextFate_42 : decode cX3_nextFate 42 = .ok (.getfield 20, 3) := by decide +kernel
theorem dX3_nextFate_45 : decode cX3_nextFate 45 = .ok (.iload_n 1, 1) := by decide +kernel
theorem dX3_nextFate_46 : decode cX3_nextFate 46 = .ok (.iaload, 1) := by decide +kernel
theorem dX3_nextFate_47 : decode cX3_nextFate 47 = .ok (.iadd, 1) := by decide +kernel
theorem dX3_nextFate_48 : decode cX3_nextFate 48 = .ok (.if_icmp .ge 23, 3) := by decide +kernel
theorem dX3_nextFate_51 : decode cX3_nextFate 51 = .ok (.aload_n 0, 1) := by decide +kernel
theorem dX3_nextFate_52 : decode cX3_nextFate 52 = .ok (.getfield 23, 3) := by decide +kernel
theorem dX3_nextFate_55 : decode cX3_nextFate 55 = .ok (.iload_n 3, 1) := by decide +kernel
theorem dX3_nextFate_56 : decode cX3_nextFate 56 = .ok (.aload_n 0, 1) := by decide +kernel
theorem dX3_nextFate_57 : decode cX3_nextFate 57 = .ok (.getfield 23, 3) := by decide +kernel
theorem dX3_nextFate_60 : decode cX3_nextFate 60 = .ok (.iload_n 3, 1) := by decide +kernel
theorem dX3_nextFate_61 : decode cX3_nextFate 61 = .ok (.iconst 1, 1) := by decide +kernel
theorem dX3_nextFate_62 : decode cX3_nextFate 62 = .ok (.iadd, 1) := by decide +kernel
theorem dX3_nextFate_63 : decode cX3_nextFate 63 = .ok (.iaload, 1) := by decide +kernel
theorem dX3_nextFate_64 : decode cX3_nextFate 64 = .ok (.iastore, 1) := by decide +kernel
theorem dX3_nextFate_65 : decode cX3_nextFate 65 = .ok (.iinc 3 1, 3) := by decide +kernel
theorem dX3_nextFate_68 : decode cX3_nextFate 68 = .ok (.goto (-32), 3) := by decide +kernel
theorem dX3_nextFate_71 : decode cX3_nextFate 71 = .ok (.iload_n 2, 1) := by decide +kernel
theorem dX3_nextFate_72 : decode cX3_nextFate 72 = .ok (.ireturn, 1) := by decide +kernel
theorem dX3_add_0 : decode cX3_add 0 = .ok (.iconst 0, 1) := by decide +kernel
theorem dX3_add_1 : decode cX3_add 1 = .ok (.istore 8, 2) := by decide +kernel
theorem dX3_add_3 : decode cX3_add 3 = .ok (.aload_n 0, 1) := by decide +kernel
theorem dX3_add_4 : decode cX3_add 4 = .ok (.getfield 35, 3) := by decide +kernel
theorem dX3_add_7 : decode cX3_add 7 = .ok (.iload 8, 2) := by decide +kernel
theorem dX3_add_9 : decode cX3_add 9 = .ok (.baload, 1) := by decide +kernel
theorem dX3_add_10 : decode cX3_add 10 = .ok (.ifCond .eq 9, 3) := by decide +kernel
theorem dX3_add_13 : decode cX3_add 13 = .ok (.iinc 8 1, 3) := by decide +kernel
theorem dX3_add_16 : decode cX3_add 16 = .ok (.goto (-13), 3) := by decide +kernel
theorem dX3_add_19 : decode cX3_add 19 = .ok (.aload_n 0, 1) := by decide +kernel
theorem dX3_add_20 : decode cX3_add 20 = .ok (.getfield 35, 3) := by decide +kernel
theorem dX3_add_23 : decode cX3_add 23 = .ok (.iload 8, 2) := by decide +kernel
theorem dX3_add_25 : decode cX3_add 25 = .ok (.iconst 1, 1) := by decide +kernel
theorem dX3_add_26 : decode cX3_add 26 = .ok (.bastore, 1) := by decide +kernel
theorem dX3_add_27 : decode cX3_add 27 = .ok (.aload_n 0, 1) := by decide +kernel
theorem dX3_add_28 : decode cX3_add 28 = .ok (.getfield 32, 3) := by decide +kernel
theorem dX3_add_31 : decode cX3_add 31 = .ok (.aload_n 0, 1) := by decide +kernel
theorem dX3_add_32 : decode cX3_add 32 = .ok (.getfield 59, 3) := by decide +kernel
theorem dX3_add_35 : decode cX3_add 35 = .ok (.iload 8, 2) := by decide +kernel
theorem dX3_add_37 : decode cX3_add 37 = .ok (.iastore, 1) := by decide +kernel
theorem dX3_add_38 : decode cX3_add 38 = .ok (.aload_n 0, 1) := by decide +kernel
theorem dX3_add_39 : decode cX3_add 39 = .ok (.dup, 1) := by decide +kernel
theorem dX3_add_40 : decode cX3_add 40 = .ok (.getfield 59, 3) := by decide +kernel
theorem dX3_add_43 : decode cX3_add 43 = .ok (.iconst 1, 1) := by decide +kernel
theorem dX3_add_44 : decode cX3_add 44 = .ok (.iadd, 1) := by decide +kernel
theorem dX3_add_45 : decode cX3_add 45 = .ok (.putfield 59, 3) := by decide +kernel
theorem dX3_add_48 : decode cX3_add 48 = .ok (.aload_n 0, 1) := by decide +kernel
theorem dX3_add_49 : decode cX3_add 49 = .ok (.getfield 38, 3) := by decide +kernel
theorem dX3_add_52 : decode cX3_add 52 = .ok (.bipush 8, 2) := by decide +kernel
theorem dX3_add_54 : decode cX3_add 54 = .ok (.iload 8, 2) := by decide +kernel
theorem dX3_add_56 : decode cX3_add 56 = .ok (.imul, 1) := by decide +kernel
theorem dX3_add_57 : decode cX3_add 57 = .ok (.iload_n 1, 1) := by decide +kernel
theorem dX3_add_58 : decode cX3_add 58 = .ok (.iastore, 1) := by decide +kernel
theorem dX3_add_59 : decode cX3_add 59 = .ok (.aload_n 0, 1) := by decide +kernel
theorem dX3_add_60 : decode cX3_add 60 = .ok (.getfield 38, 3) := by decide +kernel
theorem dX3_add_63 : decode cX3_add 63 = .ok (.bipush 8, 2) := by decide +kernel
theorem dX3_add_65 : decode cX3_add 65 = .ok (.iload 8, 2) := by decide +kernel
theorem dX3_add_67 : decode cX3_add 67 = .ok (.imul, 1) := by decide +kernel
theorem dX3_add_68 : decode cX3_add 68 = .ok (.iconst 1, 1) := by decide +kernel
theorem dX3_add_69 : decode cX3_add 69 = .ok (.iadd, 1) := by decide +kernel
theorem dX3_add_70 : decode cX3_add 70 = .ok (.iload_n 2, 1) := by decide +kernel
theorem dX3_add_71 : decode cX3_add 71 = .ok (.iastore, 1) := by decide +kernel
theorem dX3_add_72 : decode cX3_add 72 = .ok (.aload_n 0, 1) := by decide +kernel
theorem dX3_add_73 : decode cX3_add 73 = .ok (.getfield 38, 3) := by decide +kernel
theorem dX3_add_76 : decode cX3_add 76 = .ok (.bipush 8, 2) := by decide +kernel
theorem dX3_add_78 : decode cX3_add 78 = .ok (.iload 8, 2) := by decide +kernel
theorem dX3_add_80 : decode cX3_add 80 = .ok (.imul, 1) := by decide +kernel
theorem dX3_add_81 : decode cX3_add 81 = .ok (.iconst 2, 1) := by decide +kernel
theorem dX3_add_82 : decode cX3_add 82 = .ok (.iadd, 1) := by decide +kernel
theorem dX3_add_83 : decode cX3_add 83 = .ok (.iload_n 3, 1) := by decide +kernel
theorem dX3_add_84 : decode cX3_add 84 = .ok (.iastore, 1) := by decide +kernel
theorem dX3_add_85 : decode cX3_add 85 = .ok (.aload_n 0, 1) := by decide +kernel
theorem dX3_add_86 : decode cX3_add 86 = .ok (.getfield 38, 3) := by decide +kernel
theorem dX3_add_89 : decode cX3_add 89 = .ok (.bipush 8, 2) := by decide +kernel
theorem dX3_add_91 : decode cX3_add 91 = .ok (.iload 8, 2) := by decide +kernel
theorem dX3_add_93 : decode cX3_add 93 = .ok (.imul, 1) := by decide +kernel
theorem dX3_add_94 : decode cX3_add 94 = .ok (.iconst 3, 1) := by decide +kernel
theorem dX3_add_95 : decode cX3_add 95 = .ok (.iadd, 1) := by decide +kernel
theorem dX3_add_96 : decode cX3_add 96 = .ok (.iload 4, 2) := by decide +kernel
theorem dX3_add_98 : decode cX3_add 98 = .ok (.iastore, 1) := by decide +kernel
theorem dX3_add_99 : decode cX3_add 99 = .ok (.aload_n 0, 1) := by decide +kernel
theorem dX3_add_100 : decode cX3_add 100 = .ok (.getfield 38, 3) := by decide +kernel
theorem dX3_add_103 : decode cX3_add 103 = .ok (.bipush 8, 2) := by decide +kernel
theorem dX3_add_105 : decode cX3_add 105 = .ok (.iload 8, 2) := by decide +kernel
theorem dX3_add_107 : decode cX3_add 107 = .ok (.imul, 1) := by decide +kernel
theorem dX3_add_108 : decode cX3_add 108 = .ok (.iconst 4, 1) := by decide +kernel
theorem dX3_add_109 : decode cX3_add 109 = .ok (.iadd, 1) := by decide +kernel
theorem dX3_add_110 : decode cX3_add 110 = .ok (.iload 5, 2) := by decide +kernel
theorem dX3_add_112 : decode cX3_add 112 = .ok (.iastore, 1) := by decide +kernel
theorem dX3_add_113 : decode cX3_add 113 = .ok (.aload_n 0, 1) := by decide +kernel
theorem dX3_add_114 : decode cX3_add 114 = .ok (.getfield 38, 3) := by decide +kernel
theorem dX3_add_117 : decode cX3_add 117 = .ok (.bipush 8, 2) := by decide +kernel
theorem dX3_add_119 : decode cX3_add 119 = .ok (.iload 8, 2) := by decide +kernel
theorem dX3_add_121 : decode cX3_add 121 = .ok (.imul, 1) := by decide +kernel
theorem dX3_add_122 : decode cX3_add 122 = .ok (.iconst 5, 1) := by decide +kernel
theorem dX3_add_123 : decode cX3_add 123 = .ok (.iadd, 1) := by decide +kernel
theorem dX3_add_124 : decode cX3_add 124 = .ok (.aload_n 0, 1) := by decide +kernel
theorem dX3_add_125 : decode cX3_add 125 = .ok (.getfield 72, 3) := by decide +kernel
theorem dX3_add_128 : decode cX3_add 128 = .ok (.iastore, 1) := by decide +kernel
theorem dX3_add_129 : decode cX3_add 129 = .ok (.aload_n 0, 1) := by decide +kernel
theorem dX3_add_130 : decode cX3_add 130 = .ok (.getfield 38, 3) := by decide +kernel
theorem dX3_add_133 : decode cX3_add 133 = .ok (.bipush 8, 2) := by decide +kernel
theorem dX3_add_135 : decode cX3_add 135 = .ok (.iload 8, 2) := by decide +kernel
theorem dX3_add_137 : decode cX3_add 137 = .ok (.imul, 1) := by decide +kernel
theorem dX3_add_138 : decode cX3_add 138 = .ok (.bipush 6, 2) := by decide +kernel
theorem dX3_add_140 : decode cX3_add 140 = .ok (.iadd, 1) := by decide +kernel
theorem dX3_add_141 : decode cX3_add 141 = .ok (.iload 6, 2) := by decide +kernel
theorem dX3_add_143 : decode cX3_add 143 = .ok (.iastore, 1) := by decide +kernel
theorem dX3_add_144 : decode cX3_add 144 = .ok (.aload_n 0, 1) := by decide +kernel
theorem dX3_add_145 : decode cX3_add 145 = .ok (.getfield 38, 3) := by decide +kernel
theorem dX3_add_148 : decode cX3_add 148 = .ok (.bipush 8, 2) := by decide +kernel
theorem dX3_add_150 : decode cX3_add 150 = .ok (.iload 8, 2) := by decide +kernel
theorem dX3_add_152 : decode cX3_add 152 = .ok (.imul, 1) := by decide +kernel
theorem dX3_add_153 : decode cX3_add 153 = .ok (.bipush 7, 2) := by decide +kernel
theorem dX3_add_155 : decode cX3_add 155 = .ok (.iadd, 1) := by decide +kernel
theorem dX3_add_156 : decode cX3_add 156 = .ok (.iload 7, 2) := by decide +kernel
theorem dX3_add_158 : decode cX3_add 158 = .ok (.iastore, 1) := by decide +kernel
theorem dX3_add_159 : decode cX3_add 159 = .ok (.iconst 0, 1) := by decide +kernel
theorem dX3_add_160 : decode cX3_add 160 = .ok (.istore 9, 2) := by decide +kernel
theorem dX3_add_162 : decode cX3_add 162 = .ok (.iload 9, 2) := by decide +kernel
theorem dX3_add_164 : decode cX3_add 164 = .ok (.iload 6, 2) := by decide +kernel
theorem dX3_add_166 : decode cX3_add 166 = .ok (.if_icmp .ge 75, 3) := by decide +kernel
theorem dX3_add_169 : decode cX3_add 169 = .ok (.sipush 185, 3) := by decide +kernel
theorem dX3_add_172 : decode cX3_add 172 = .ok (.iload 8, 2) := by decide +kernel
theorem dX3_add_174 : decode cX3_add 174 = .ok (.imul, 1) := by decide +kernel
theorem dX3_add_175 : decode cX3_add 175 = .ok (.iload 9, 2) := by decide +kernel
theorem dX3_add_177 : decode cX3_add 177 = .ok (.bipush 8, 2) := by decide +kernel
theorem dX3_add_179 : decode cX3_add 179 = .ok (.idiv, 1) := by decide +kernel
theorem dX3_add_180 : decode cX3_add 180 = .ok (.iadd, 1) := by decide +kernel
theorem dX3_add_181 : decode cX3_add 181 = .ok (.istore 10, 2) := by decide +kernel
theorem dX3_add_183 : decode cX3_add 183 = .ok (.aload_n 0, 1) := by decide +kernel
theorem dX3_add_184 : decode cX3_add 184 = .ok (.getfield 42, 3) := by decide +kernel
theorem dX3_add_187 : decode cX3_add 187 = .ok (.iload 10, 2) := by decide +kernel
theorem dX3_add_189 : decode cX3_add 189 = .ok (.aload_n 0, 1) := by decide +kernel
theorem dX3_add_190 : decode cX3_add 190 = .ok (.getfield 42, 3) := by decide +kernel
theorem dX3_add_193 : decode cX3_add 193 = .ok (.iload 10, 2) := by decide +kernel
theorem dX3_add_195 : decode cX3_add 195 = .ok (.laload, 1) := by decide +kernel
theorem dX3_add_196 : decode cX3_add 196 = .ok (.ldc2_w 75, 3) := by decide +kernel
theorem dX3_add_199 : decode cX3_add 199 = .ok (.bipush 8, 2) := by decide +kernel
theorem dX3_add_201 : decode cX3_add 201 = .ok (.iload 9, 2) := by decide +kernel
theorem dX3_add_203 : decode cX3_add 203 = .ok (.bipush 8, 2) := by decide +kernel
theorem dX3_add_205 : decode cX3_add 205 = .ok (.irem, 1) := by decide +kernel
theorem dX3_add_206 : decode cX3_add 206 = .ok (.imul, 1) := by decide +kernel
theorem dX3_add_207 : decode cX3_add 207 = .ok (.lshl, 1) := by decide +kernel
theorem dX3_add_208 : decode cX3_add 208 = .ok (.ldc2_w 77, 3) := by decide +kernel
theorem dX3_add_211 : decode cX3_add 211 = .ok (.lxor, 1) := by decide +kernel
theorem dX3_add_212 : decode cX3_add 212 = .ok (.land, 1) := by decide +kernel
theorem dX3_add_213 : decode cX3_add 213 = .ok (.aload_n 0, 1) := by decide +kernel
theorem dX3_add_214 : decode cX3_add 214 = .ok (.getfield 29, 3) := by decide +kernel
theorem dX3_add_217 : decode cX3_add 217 = .ok (.iload 5, 2) := by decide +kernel
theorem dX3_add_219 : decode cX3_add 219 = .ok (.iload 9, 2) := by decide +kernel
theorem dX3_add_221 : decode cX3_add 221 = .ok (.iadd, 1) := by decide +kernel
theorem dX3_add_222 : decode cX3_add 222 = .ok (.iaload, 1) := by decide +kernel
theorem dX3_add_223 : decode cX3_add 223 = .ok (.i2l, 1) := by decide +kernel
theorem dX3_add_224 : decode cX3_add 224 = .ok (.bipush 8, 2) := by decide +kernel
theorem dX3_add_226 : decode cX3_add 226 = .ok (.iload 9, 2) := by decide +kernel
theorem dX3_add_228 : decode cX3_add 228 = .ok (.bipush 8, 2) := by decide +kernel
theorem dX3_add_230 : decode cX3_add 230 = .ok (.irem, 1) := by decide +kernel
theorem dX3_add_231 : decode cX3_add 231 = .ok (.imul, 1) := by decide +kernel
theorem dX3_add_232 : decode cX3_add 232 = .ok (.lshl, 1) := by decide +kernel
theorem dX3_add_233 : decode cX3_add 233 = .ok (.lor, 1) := by decide +kernel
theorem dX3_add_234 : decode cX3_add 234 = .ok (.lastore, 1) := by decide +kernel
theorem dX3_add_235 : decode cX3_add 235 = .ok (.iinc 9 1, 3) := by decide +kernel
theorem dX3_add_238 : decode cX3_add 238 = .ok (.goto (-76), 3) := by decide +kernel
theorem dX3_add_241 : decode cX3_add 241 = .ok (.return_, 1) := by decide +kernel
theorem dX3_pass_0 : decode cX3_pass 0 = .ok (.aload_n 0, 1) := by decide +kernel
theorem dX3_pass_1 : decode cX3_pass 1 = .ok (.iload_n 1, 1) := by decide +kernel
theorem dX3_pass_2 : decode cX3_pass 2 = .ok (.ifCond .lt 10, 3) := by decide +kernel
theorem dX3_pass_5 : decode cX3_pass 5 = .ok (.iload_n 1, 1) := by decide +kernel
theorem dX3_pass_6 : decode cX3_pass 6 = .ok (.sipush 1000, 3) := by decide +kernel
theorem dX3_pass_9 : decode cX3_pass 9 = .ok (.if_icmp .le 7, 3) := by decide +kernel
theorem dX3_pass_12 : decode cX3_pass 12 = .ok (.iconst 1, 1) := by decide +kernel
theorem dX3_pass_13 : decode cX3_pass 13 = .ok (.goto 19, 3) := by decide +kernel
theorem dX3_pass_16 : decode cX3_pass 16 = .ok (.aload_n 0, 1) := by decide +kernel
theorem dX3_pass_17 : decode cX3_pass 17 = .ok (.getfield 83, 3) := by decide +kernel
theorem dX3_pass_20 : decode cX3_pass 20 = .ok (.iload_n 1, 1) := by decide +kernel
theorem dX3_pass_21 : decode cX3_pass 21 = .ok (.iadd, 1) := by decide +kernel
theorem dX3_pass_22 : decode cX3_pass 22 = .ok (.ldc 94, 2) := by decide +kernel
theorem dX3_pass_24 : decode cX3_pass 24 = .ok (.if_icmp .le 7, 3) := by decide +kernel
theorem dX3_pass_27 : decode cX3_pass 27 = .ok (.iconst 2, 1) := by decide +kernel
theorem dX3_pass_28 : decode cX3_pass 28 = .ok (.goto 4, 3) := by decide +kernel
theorem dX3_pass_31 : decode cX3_pass 31 = .ok (.iconst 0, 1) := by decide +kernel
theorem dX3_pass_32 : decode cX3_pass 32 = .ok (.putfield 52, 3) := by decide +kernel
theorem dX3_pass_35 : decode cX3_pass 35 = .ok (.aload_n 0, 1) := by decide +kernel
theorem dX3_pass_36 : decode cX3_pass 36 = .ok (.getfield 52, 3) := by decide +kernel
theorem dX3_pass_39 : decode cX3_pass 39 = .ok (.ifCond .le 5, 3) := by decide +kernel
theorem dX3_pass_42 : decode cX3_pass 42 = .ok (.iconst 0, 1) := by decide +kernel
theorem dX3_pass_43 : decode cX3_pass 43 = .ok (.ireturn, 1) := by decide +kernel
theorem dX3_pass_44 : decode cX3_pass 44 = .ok (.aload_n 0, 1) := by decide +kernel
theorem dX3_pass_45 : decode cX3_pass 45 = .ok (.dup, 1) := by decide +kernel
theorem dX3_pass_46 : decode cX3_pass 46 = .ok (.getfield 83, 3) := by decide +kernel
theorem dX3_pass_49 : decode cX3_pass 49 = .ok (.iload_n 1, 1) := by decide +kernel
theorem dX3_pass_50 : decode cX3_pass 50 = .ok (.iadd, 1) := by decide +kernel
theorem dX3_pass_51 : decode cX3_pass 51 = .ok (.putfield 83, 3) := by decide +kernel
theorem dX3_pass_54 : decode cX3_pass 54 = .ok (.iconst 0, 1) := by decide +kernel
theorem dX3_pass_55 : decode cX3_pass 55 = .ok (.istore_n 2, 1) := by decide +kernel
theorem dX3_pass_56 : decode cX3_pass 56 = .ok (.iconst 0, 1) := by decide +kernel
theorem dX3_pass_57 : decode cX3_pass 57 = .ok (.istore_n 3, 1) := by decide +kernel
theorem dX3_pass_58 : decode cX3_pass 58 = .ok (.iload_n 3, 1) := by decide +kernel
theorem dX3_pass_59 : decode cX3_pass 59 = .ok (.aload_n 0, 1) := by decide +kernel
theorem dX3_pass_60 : decode cX3_pass 60 = .ok (.getfield 59, 3) := by decide +kernel
theorem dX3_pass_63 : decode cX3_pass 63 = .ok (.if_icmp .ge 29, 3) := by decide +kernel
theorem dX3_pass_66 : decode cX3_pass 66 = .ok (.iload_n 2, 1) := by decide +kernel
theorem dX3_pass_67 : decode cX3_pass 67 = .ok (.aload_n 0, 1) := by decide +kernel
theorem dX3_pass_68 : decode cX3_pass 68 = .ok (.iload_n 3, 1) := by decide +kernel
theorem dX3_pass_69 : decode cX3_pass 69 = .ok (.invokevirtual 95, 3) := by decide +kernel
theorem dX3_pass_72 : decode cX3_pass 72 = .ok (.aload_n 0, 1) := by decide +kernel
theorem dX3_pass_73 : decode cX3_pass 73 = .ok (.getfield 83, 3) := by decide +kernel
theorem dX3_pass_76 : decode cX3_pass 76 = .ok (.if_icmp .gt 7, 3) := by decide +kernel
theorem dX3_pass_79 : decode cX3_pass 79 = .ok (.iconst 1, 1) := by decide +kernel
theorem dX3_pass_80 : decode cX3_pass 80 = .ok (.goto 4, 3) := by decide +kernel
theorem dX3_pass_83 : decode cX3_pass 83 = .ok (.iconst 0, 1) := by decide +kernel
theorem dX3_pass_84 : decode cX3_pass 84 = .ok (.iadd, 1) := by decide +kernel
theorem dX3_pass_85 : decode cX3_pass 85 = .ok (.istore_n 2, 1) := by decide +kernel
theorem dX3_pass_86 : decode cX3_pass 86 = .ok (.iinc 3 1, 3) := by decide +kernel
theorem dX3_pass_89 : decode cX3_pass 89 = .ok (.goto (-31), 3) := by decide +kernel
theorem dX3_pass_92 : decode cX3_pass 92 = .ok (.iload_n 2, 1) := by decide +kernel
theorem dX3_pass_93 : decode cX3_pass 93 = .ok (.ireturn, 1) := by decide +kernel
theorem dX3_due_0 : decode cX3_due 0 = .ok (.aload_n 0, 1) := by decide +kernel
theorem dX3_due_1 : decode cX3_due 1 = .ok (.getfield 38, 3) := by decide +kernel
theorem dX3_due_4 : decode cX3_due 4 = .ok (.bipush 8, 2) := by decide +kernel
theorem dX3_due_6 : decode cX3_due 6 = .ok (.aload_n 0, 1) := by decide +kernel
theorem dX3_due_7 : decode cX3_due 7 = .ok (.getfield 32, 3) := by decide +kernel
theorem dX3_due_10 : decode cX3_due 10 = .ok (.iload_n 1, 1) := by decide +kernel
theorem dX3_due_11 : decode cX3_due 11 = .ok (.iaload, 1) := by decide +kernel
theorem dX3_due_12 : decode cX3_due 12 = .ok (.imul, 1) := by decide +kernel
theorem dX3_due_13 : decode cX3_due 13 = .ok (.bipush 7, 2) := by decide +kernel
theorem dX3_due_15 : decode cX3_due 15 = .ok (.iadd, 1) := by decide +kernel
theorem dX3_due_16 : decode cX3_due 16 = .ok (.iaload, 1) := by decide +kernel
theorem dX3_due_17 : decode cX3_due 17 = .ok (.ireturn, 1) := by decide +kernel
theorem dX3_next_0 : decode cX3_next 0 = .ok (.aload_n 0, 1) := by decide +kernel
theorem dX3_next_1 : decode cX3_next 1 = .ok (.iconst 0, 1) := by decide +kernel
theorem dX3_next_2 : decode cX3_next 2 = .ok (.putfield 52, 3) := by decide +kernel
theorem dX3_next_5 : decode cX3_next 5 = .ok (.iconst (-1), 1) := by decide +kernel
theorem dX3_next_6 : decode cX3_next 6 = .ok (.istore_n 1, 1) := by decide +kernel
theorem dX3_next_7 : decode cX3_next 7 = .ok (.iconst 0, 1) := by decide +kernel
theorem dX3_next_8 : decode cX3_next 8 = .ok (.istore_n 2, 1) := by decide +kernel
theorem dX3_next_9 : decode cX3_next 9 = .ok (.iload_n 2, 1) := by decide +kernel
theorem dX3_next_10 : decode cX3_next 10 = .ok (.aload_n 0, 1) := by decide +kernel
theorem dX3_next_11 : decode cX3_next 11 = .ok (.getfield 59, 3) := by decide +kernel
theorem dX3_next_14 : decode cX3_next 14 = .ok (.if_icmp .ge 44, 3) := by decide +kernel
theorem dX3_next_17 : decode cX3_next 17 = .ok (.aload_n 0, 1) := by decide +kernel
theorem dX3_next_18 : decode cX3_next 18 = .ok (.iload_n 2, 1) := by decide +kernel
theorem dX3_next_19 : decode cX3_next 19 = .ok (.invokevirtual 95, 3) := by decide +kernel
theorem dX3_next_22 : decode cX3_next 22 = .ok (.aload_n 0, 1) := by decide +kernel
theorem dX3_next_23 : decode cX3_next 23 = .ok (.getfield 83, 3) := by decide +kernel
theorem dX3_next_26 : decode cX3_next 26 = .ok (.if_icmp .gt 24, 3) := by decide +kernel
theorem dX3_next_29 : decode cX3_next 29 = .ok (.iload_n 1, 1) := by decide +kernel
theorem dX3_next_30 : decode cX3_next 30 = .ok (.ifCond .lt 16, 3) := by decide +kernel
theorem dX3_next_33 : decode cX3_next 33 = .ok (.aload_n 0, 1) := by decide +kernel
theorem dX3_next_34 : decode cX3_next 34 = .ok (.iload_n 2, 1) := by decide +kernel
theorem dX3_next_35 : decode cX3_next 35 = .ok (.invokevirtual 95, 3) := by decide +kernel
theorem dX3_next_38 : decode cX3_next 38 = .ok (.aload_n 0, 1) := by decide +kernel
theorem dX3_next_39 : decode cX3_next 39 = .ok (.iload_n 1, 1) := by decide +kernel
theorem dX3_next_40 : decode cX3_next 40 = .ok (.invokevirtual 95, 3) := by decide +kernel
theorem dX3_next_43 : decode cX3_next 43 = .ok (.if_icmp .ge 7, 3) := by decide +kernel
theorem dX3_next_46 : decode cX3_next 46 = .ok (.iload_n 2, 1) := by decide +kernel
theorem dX3_next_47 : decode cX3_next 47 = .ok (.goto 4, 3) := by decide +kernel
theorem dX3_next_50 : decode cX3_next 50 = .ok (.iload_n 1, 1) := by decide +kernel
theorem dX3_next_51 : decode cX3_next 51 = .ok (.istore_n 1, 1) := by decide +kernel
theorem dX3_next_52 : decode cX3_next 52 = .ok (.iinc 2 1, 3) := by decide +kernel
theorem dX3_next_55 : decode cX3_next 55 = .ok (.goto (-46), 3) := by decide +kernel
theorem dX3_next_58 : decode cX3_next 58 = .ok (.iload_n 1, 1) := by decide +kernel
theorem dX3_next_59 : decode cX3_next 59 = .ok (.ifCond .ge 5, 3) := by decide +kernel
theorem dX3_next_62 : decode cX3_next 62 = .ok (.iconst 0, 1) := by decide +kernel
theorem dX3_next_63 : decode cX3_next 63 = .ok (.ireturn, 1) := by decide +kernel
theorem dX3_next_64 : decode cX3_next 64 = .ok (.aload_n 0, 1) := by decide +kernel
theorem dX3_next_65 : decode cX3_next 65 = .ok (.getfield 32, 3) := by decide +kernel
theorem dX3_next_68 : decode cX3_next 68 = .ok (.iload_n 1, 1) := by decide +kernel
theorem dX3_next_69 : decode cX3_next 69 = .ok (.iaload, 1) := by decide +kernel
theorem dX3_next_70 : decode cX3_next 70 = .ok (.istore_n 2, 1) := by decide +kernel
theorem dX3_next_71 : decode cX3_next 71 = .ok (.iconst 0, 1) := by decide +kernel
theorem dX3_next_72 : decode cX3_next 72 = .ok (.istore_n 3, 1) := by decide +kernel
theorem dX3_next_73 : decode cX3_next 73 = .ok (.iload_n 3, 1) := by decide +kernel
theorem dX3_next_74 : decode cX3_next 74 = .ok (.bipush 7, 2) := by decide +kernel
theorem dX3_next_76 : decode cX3_next 76 = .ok (.if_icmp .ge 26, 3) := by decide +kernel
theorem dX3_next_79 : decode cX3_next 79 = .ok (.aload_n 0, 1) := by decide +kernel
theorem dX3_next_80 : decode cX3_next 80 = .ok (.getfield 46, 3) := by decide +kernel
theorem dX3_next_83 : decode cX3_next 83 = .ok (.iload_n 3, 1) := by decide +kernel
theorem dX3_next_84 : decode cX3_next 84 = .ok (.aload_n 0, 1) := by decide +kernel
theorem dX3_next_85 : decode cX3_next 85 = .ok (.getfield 38, 3) := by decide +kernel
theorem dX3_next_88 : decode cX3_next 88 = .ok (.bipush 8, 2) := by decide +kernel
theorem dX3_next_90 : decode cX3_next 90 = .ok (.iload_n 2, 1) := by decide +kernel
theorem dX3_next_91 : decode cX3_next 91 = .ok (.imul, 1) := by decide +kernel
theorem dX3_next_92 : decode cX3_next 92 = .ok (.iload_n 3, 1) := by decide +kernel
theorem dX3_next_93 : decode cX3_next 93 = .ok (.iadd, 1) := by decide +kernel
theorem dX3_next_94 : decode cX3_next 94 = .ok (.iaload, 1) := by decide +kernel
theorem dX3_next_95 : decode cX3_next 95 = .ok (.iastore, 1) := by decide +kernel
theorem dX3_next_96 : decode cX3_next 96 = .ok (.iinc 3 1, 3) := by decide +kernel
theorem dX3_next_99 : decode cX3_next 99 = .ok (.goto (-26), 3) := by decide +kernel
theorem dX3_next_102 : decode cX3_next 102 = .ok (.iconst 0, 1) := by decide +kernel
theorem dX3_next_103 : decode cX3_next 103 = .ok (.istore_n 3, 1) := by decide +kernel
theorem dX3_next_104 : decode cX3_next 104 = .ok (.iload_n 3, 1) := by decide +kernel
theorem dX3_next_105 : decode cX3_next 105 = .ok (.aload_n 0, 1) := by decide +kernel
theorem dX3_next_106 : decode cX3_next 106 = .ok (.getfield 46, 3) := by decide +kernel
theorem dX3_next_109 : decode cX3_next 109 = .ok (.bipush 6, 2) := by decide +kernel
theorem dX3_next_111 : decode cX3_next 111 = .ok (.iaload, 1) := by decide +kernel
theorem dX3_next_112 : decode cX3_next 112 = .ok (.if_icmp .ge 43, 3) := by decide +kernel
theorem dX3_next_115 : decode cX3_next 115 = .ok (.aload_n 0, 1) := by decide +kernel
theorem dX3_next_116 : decode cX3_next 116 = .ok (.getfield 49, 3) := by decide +kernel
theorem dX3_next_119 : decode cX3_next 119 = .ok (.iload_n 3, 1) := by decide +kernel
theorem dX3_next_120 : decode cX3_next 120 = .ok (.aload_n 0, 1) := by decide +kernel
theorem dX3_next_121 : decode cX3_next 121 = .ok (.getfield 42, 3) := by decide +kernel
theorem dX3_next_124 : decode cX3_next 124 = .ok (.sipush 185, 3) := by decide +kernel
theorem dX3_next_127 : decode cX3_next 127 = .ok (.iload_n 2, 1) := by decide +kernel
theorem dX3_next_128 : decode cX3_next 128 = .ok (.imul, 1) := by decide +kernel
theorem dX3_next_129 : decode cX3_next 129 = .ok (.iload_n 3, 1) := by decide +kernel
theorem dX3_next_130 : decode cX3_next 130 = .ok (.bipush 8, 2) := by decide +kernel
theorem dX3_next_132 : decode cX3_next 132 = .ok (.idiv, 1) := by decide +kernel
theorem dX3_next_133 : decode cX3_next 133 = .ok (.iadd, 1) := by decide +kernel
theorem dX3_next_134 : decode cX3_next 134 = .ok (.laload, 1) := by decide +kernel
theorem dX3_next_135 : decode cX3_next 135 = .ok (.bipush 8, 2) := by decide +kernel
theorem dX3_next_137 : decode cX3_next 137 = .ok (.iload_n 3, 1) := by decide +kernel
theorem dX3_next_138 : decode cX3_next 138 = .ok (.bipush 8, 2) := by decide +kernel
theorem dX3_next_140 : decode cX3_next 140 = .ok (.irem, 1) := by decide +kernel
theorem dX3_next_141 : decode cX3_next 141 = .ok (.imul, 1) := by decide +kernel
theorem dX3_next_142 : decode cX3_next 142 = .ok (.lshr, 1) := by decide +kernel
theorem dX3_next_143 : decode cX3_next 143 = .ok (.ldc2_w 75, 3) := by decide +kernel
theorem dX3_next_146 : decode cX3_next 146 = .ok (.land, 1) := by decide +kernel
theorem dX3_next_147 : decode cX3_next 147 = .ok (.l2i, 1) := by decide +kernel
theorem dX3_next_148 : decode cX3_next 148 = .ok (.iastore, 1) := by decide +kernel
theorem dX3_next_149 : decode cX3_next 149 = .ok (.iinc 3 1, 3) := by decide +kernel
theorem dX3_next_152 : decode cX3_next 152 = .ok (.goto (-48), 3) := by decide +kernel
theorem dX3_next_155 : decode cX3_next 155 = .ok (.aload_n 0, 1) := by decide +kernel
theorem dX3_next_156 : decode cX3_next 156 = .ok (.iconst 1, 1) := by decide +kernel
theorem dX3_next_157 : decode cX3_next 157 = .ok (.putfield 98, 3) := by decide +kernel
theorem dX3_next_160 : decode cX3_next 160 = .ok (.aload_n 0, 1) := by decide +kernel
theorem dX3_next_161 : decode cX3_next 161 = .ok (.iload_n 1, 1) := by decide +kernel
theorem dX3_next_162 : decode cX3_next 162 = .ok (.invokevirtual 66, 3) := by decide +kernel
theorem dX3_next_165 : decode cX3_next 165 = .ok (.iconst 1, 1) := by decide +kernel
theorem dX3_next_166 : decode cX3_next 166 = .ok (.ireturn, 1) := by decide +kernel
theorem dX3_arrival_0 : decode cX3_arrival 0 = .ok (.aload_n 0, 1) := by decide +kernel
theorem dX3_arrival_1 : decode cX3_arrival 1 = .ok (.iload_n 1, 1) := by decide +kernel
theorem dX3_arrival_2 : decode cX3_arrival 2 = .ok (.ifCond .lt 9, 3) := by decide +kernel
theorem dX3_arrival_5 : decode cX3_arrival 5 = .ok (.iload_n 1, 1) := by decide +kernel
theorem dX3_arrival_6 : decode cX3_arrival 6 = .ok (.bipush 6, 2) := by decide +kernel
theorem dX3_arrival_8 : decode cX3_arrival 8 = .ok (.if_icmp .le 7, 3) := by decide +kernel
theorem dX3_arrival_11 : decode cX3_arrival 11 = .ok (.iconst 1, 1) := by decide +kernel
theorem dX3_arrival_12 : decode cX3_arrival 12 = .ok (.goto 15, 3) := by decide +kernel
theorem dX3_arrival_15 : decode cX3_arrival 15 = .ok (.aload_n 0, 1) := by decide +kernel
theorem dX3_arrival_16 : decode cX3_arrival 16 = .ok (.getfield 98, 3) := by decide +kernel
theorem dX3_arrival_19 : decode cX3_arrival 19 = .ok (.ifCond .ne 7, 3) := by decide +kernel
theorem dX3_arrival_22 : decode cX3_arrival 22 = .ok (.iconst 2, 1) := by decide +kernel
theorem dX3_arrival_23 : decode cX3_arrival 23 = .ok (.goto 4, 3) := by decide +kernel
theorem dX3_arrival_26 : decode cX3_arrival 26 = .ok (.iconst 0, 1) := by decide +kernel
theorem dX3_arrival_27 : decode cX3_arrival 27 = .ok (.putfield 52, 3) := by decide +kernel
theorem dX3_arrival_30 : decode cX3_arrival 30 = .ok (.aload_n 0, 1) := by decide +kernel
theorem dX3_arrival_31 : decode cX3_arrival 31 = .ok (.getfield 52, 3) := by decide +kernel
theorem dX3_arrival_34 : decode cX3_arrival 34 = .ok (.ifCond .le 7, 3) := by decide +kernel
theorem dX3_arrival_37 : decode cX3_arrival 37 = .ok (.iconst 0, 1) := by decide +kernel
theorem dX3_arrival_38 : decode cX3_arrival 38 = .ok (.goto 9, 3) := by decide +kernel
theorem dX3_arrival_41 : decode cX3_arrival 41 = .ok (.aload_n 0, 1) := by decide +kernel
theorem dX3_arrival_42 : decode cX3_arrival 42 = .ok (.getfield 46, 3) := by decide +kernel
theorem dX3_arrival_45 : decode cX3_arrival 45 = .ok (.iload_n 1, 1) := by decide +kernel
theorem dX3_arrival_46 : decode cX3_arrival 46 = .ok (.iaload, 1) := by decide +kernel
theorem dX3_arrival_47 : decode cX3_arrival 47 = .ok (.ireturn, 1) := by decide +kernel
theorem dX3_byteAt_0 : decode cX3_byteAt 0 = .ok (.aload_n 0, 1) := by decide +kernel
theorem dX3_byteAt_1 : decode cX3_byteAt 1 = .ok (.aload_n 0, 1) := by decide +kernel
theorem dX3_byteAt_2 : decode cX3_byteAt 2 = .ok (.getfield 98, 3) := by decide +kernel
theorem dX3_byteAt_5 : decode cX3_byteAt 5 = .ok (.ifCond .ne 7, 3) := by decide +kernel
theorem dX3_byteAt_8 : decode cX3_byteAt 8 = .ok (.iconst 1, 1) := by decide +kernel
theorem dX3_byteAt_9 : decode cX3_byteAt 9 = .ok (.goto 23, 3) := by decide +kernel
theorem dX3_byteAt_12 : decode cX3_byteAt 12 = .ok (.iload_n 1, 1) := by decide +kernel
theorem dX3_byteAt_13 : decode cX3_byteAt 13 = .ok (.ifCond .lt 14, 3) := by decide +kernel
theorem dX3_byteAt_16 : decode cX3_byteAt 16 = .ok (.iload_n 1, 1) := by decide +kernel
theorem dX3_byteAt_17 : decode cX3_byteAt 17 = .ok (.aload_n 0, 1) := by decide +kernel
theorem dX3_byteAt_18 : decode cX3_byteAt 18 = .ok (.getfield 46, 3) := by decide +kernel
theorem dX3_byteAt_21 : decode cX3_byteAt 21 = .ok (.bipush 6, 2) := by decide +kernel
theorem dX3_byteAt_23 : decode cX3_byteAt 23 = .ok (.iaload, 1) := by decide +kernel
theorem dX3_byteAt_24 : decode cX3_byteAt 24 = .ok (.if_icmp .lt 7, 3) := by decide +kernel
theorem dX3_byteAt_27 : decode cX3_byteAt 27 = .ok (.iconst 2, 1) := by decide +kernel
theorem dX3_byteAt_28 : decode cX3_byteAt 28 = .ok (.goto 4, 3) := by decide +kernel
theorem dX3_byteAt_31 : decode cX3_byteAt 31 = .ok (.iconst 0, 1) := by decide +kernel
theorem dX3_byteAt_32 : decode cX3_byteAt 32 = .ok (.putfield 52, 3) := by decide +kernel
theorem dX3_byteAt_35 : decode cX3_byteAt 35 = .ok (.aload_n 0, 1) := by decide +kernel
theorem dX3_byteAt_36 : decode cX3_byteAt 36 = .ok (.getfield 52, 3) := by decide +kernel
theorem dX3_byteAt_39 : decode cX3_byteAt 39 = .ok (.ifCond .le 7, 3) := by decide +kernel
theorem dX3_byteAt_42 : decode cX3_byteAt 42 = .ok (.iconst 0, 1) := by decide +kernel
theorem dX3_byteAt_43 : decode cX3_byteAt 43 = .ok (.goto 9, 3) := by decide +kernel
theorem dX3_byteAt_46 : decode cX3_byteAt 46 = .ok (.aload_n 0, 1) := by decide +kernel
theorem dX3_byteAt_47 : decode cX3_byteAt 47 = .ok (.getfield 49, 3) := by decide +kernel
theorem dX3_byteAt_50 : decode cX3_byteAt 50 = .ok (.iload_n 1, 1) := by decide +kernel
theorem dX3_byteAt_51 : decode cX3_byteAt 51 = .ok (.iaload, 1) := by decide +kernel
theorem dX3_byteAt_52 : decode cX3_byteAt 52 = .ok (.ireturn, 1) := by decide +kernel
theorem dX3_underWay_0 : decode cX3_underWay 0 = .ok (.aload_n 0, 1) := by decide +kernel
theorem dX3_underWay_1 : decode cX3_underWay 1 = .ok (.iconst 0, 1) := by decide +kernel
theorem dX3_underWay_2 : decode cX3_underWay 2 = .ok (.putfield 52, 3) := by decide +kernel
theorem dX3_underWay_5 : decode cX3_underWay 5 = .ok (.aload_n 0, 1) := by decide +kernel
theorem dX3_underWay_6 : decode cX3_underWay 6 = .ok (.getfield 59, 3) := by decide +kernel
theorem dX3_underWay_9 : decode cX3_underWay 9 = .ok (.ireturn, 1) := by decide +kernel
theorem dX3_fated_0 : decode cX3_fated 0 = .ok (.aload_n 0, 1) := by decide +kernel
theorem dX3_fated_1 : decode cX3_fated 1 = .ok (.aload_n 0, 1) := by decide +kernel
theorem dX3_fated_2 : decode cX3_fated 2 = .ok (.iload_n 1, 1) := by decide +kernel
theorem dX3_fated_3 : decode cX3_fated 3 = .ok (.invokevirtual 62, 3) := by decide +kernel
theorem dX3_fated_6 : decode cX3_fated 6 = .ok (.ifCond .eq 7, 3) := by decide +kernel
theorem dX3_fated_9 : decode cX3_fated 9 = .ok (.iconst 0, 1) := by decide +kernel
theorem dX3_fated_10 : decode cX3_fated 10 = .ok (.goto 4, 3) := by decide +kernel
theorem dX3_fated_13 : decode cX3_fated 13 = .ok (.iconst 1, 1) := by decide +kernel
theorem dX3_fated_14 : decode cX3_fated 14 = .ok (.putfield 52, 3) := by decide +kernel
theorem dX3_fated_17 : decode cX3_fated 17 = .ok (.aload_n 0, 1) := by decide +kernel
theorem dX3_fated_18 : decode cX3_fated 18 = .ok (.getfield 52, 3) := by decide +kernel
theorem dX3_fated_21 : decode cX3_fated 21 = .ok (.ifCond .le 7, 3) := by decide +kernel
theorem dX3_fated_24 : decode cX3_fated 24 = .ok (.iconst 0, 1) := by decide +kernel
theorem dX3_fated_25 : decode cX3_fated 25 = .ok (.goto 9, 3) := by decide +kernel
theorem dX3_fated_28 : decode cX3_fated 28 = .ok (.aload_n 0, 1) := by decide +kernel
theorem dX3_fated_29 : decode cX3_fated 29 = .ok (.getfield 20, 3) := by decide +kernel
theorem dX3_fated_32 : decode cX3_fated 32 = .ok (.iload_n 1, 1) := by decide +kernel
theorem dX3_fated_33 : decode cX3_fated 33 = .ok (.iaload, 1) := by decide +kernel
theorem dX3_fated_34 : decode cX3_fated 34 = .ok (.ireturn, 1) := by decide +kernel
theorem dX3_puts_0 : decode cX3_puts 0 = .ok (.aload_n 0, 1) := by decide +kernel
theorem dX3_puts_1 : decode cX3_puts 1 = .ok (.aload_n 0, 1) := by decide +kernel
theorem dX3_puts_2 : decode cX3_puts 2 = .ok (.iload_n 1, 1) := by decide +kernel
theorem dX3_puts_3 : decode cX3_puts 3 = .ok (.invokevirtual 62, 3) := by decide +kernel
theorem dX3_puts_6 : decode cX3_puts 6 = .ok (.ifCond .eq 7, 3) := by decide +kernel
theorem dX3_puts_9 : decode cX3_puts 9 = .ok (.iconst 0, 1) := by decide +kernel
theorem dX3_puts_10 : decode cX3_puts 10 = .ok (.goto 4, 3) := by decide +kernel
theorem dX3_puts_13 : decode cX3_puts 13 = .ok (.iconst 1, 1) := by decide +kernel
theorem dX3_puts_14 : decode cX3_puts 14 = .ok (.putfield 52, 3) := by decide +kernel
theorem dX3_puts_17 : decode cX3_puts 17 = .ok (.aload_n 0, 1) := by decide +kernel
theorem dX3_puts_18 : decode cX3_puts 18 = .ok (.getfield 52, 3) := by decide +kernel
theorem dX3_puts_21 : decode cX3_puts 21 = .ok (.ifCond .le 7, 3) := by decide +kernel
theorem dX3_puts_24 : decode cX3_puts 24 = .ok (.iconst 0, 1) := by decide +kernel
theorem dX3_puts_25 : decode cX3_puts 25 = .ok (.goto 9, 3) := by decide +kernel
theorem dX3_puts_28 : decode cX3_puts 28 = .ok (.aload_n 0, 1) := by decide +kernel
theorem dX3_puts_29 : decode cX3_puts 29 = .ok (.getfield 26, 3) := by decide +kernel
theorem dX3_puts_32 : decode cX3_puts 32 = .ok (.iload_n 1, 1) := by decide +kernel
theorem dX3_puts_33 : decode cX3_puts 33 = .ok (.iaload, 1) := by decide +kernel
theorem dX3_puts_34 : decode cX3_puts 34 = .ok (.ireturn, 1) := by decide +kernel
