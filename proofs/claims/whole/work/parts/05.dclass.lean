theorem dX2_init_0 : decode cX2_init 0 = .ok (.aload_n 0, 1) := by decide +kernel
theorem dX2_init_1 : decode cX2_init 1 = .ok (.invokespecial 1, 3) := by decide +kernel
theorem dX2_init_4 : decode cX2_init 4 = .ok (.aload_n 0, 1) := by decide +kernel
theorem dX2_init_5 : decode cX2_init 5 = .ok (.bipush 24, 2) := by decide +kernel
theorem dX2_init_7 : decode cX2_init 7 = .ok (.anewarray 9, 3) := by decide +kernel
theorem dX2_init_10 : decode cX2_init 10 = .ok (.putfield 11, 3) := by decide +kernel
theorem dX2_init_13 : decode cX2_init 13 = .ok (.aload_n 0, 1) := by decide +kernel
theorem dX2_init_14 : decode cX2_init 14 = .ok (.iconst 0, 1) := by decide +kernel
theorem dX2_init_15 : decode cX2_init 15 = .ok (.putfield 15, 3) := by decide +kernel
theorem dX2_init_18 : decode cX2_init 18 = .ok (.aload_n 0, 1) := by decide +kernel
theorem dX2_init_19 : decode cX2_init 19 = .ok (.iconst 0, 1) := by decide +kernel
theorem dX2_init_20 : decode cX2_init 20 = .ok (.putfield 19, 3) := by decide +kernel
theorem dX2_init_23 : decode cX2_init 23 = .ok (.aload_n 0, 1) := by decide +kernel
theorem dX2_init_24 : decode cX2_init 24 = .ok (.sipush 512, 3) := by decide +kernel
theorem dX2_init_27 : decode cX2_init 27 = .ok (.anewarray 22, 3) := by decide +kernel
theorem dX2_init_30 : decode cX2_init 30 = .ok (.putfield 24, 3) := by decide +kernel
theorem dX2_init_33 : decode cX2_init 33 = .ok (.aload_n 0, 1) := by decide +kernel
theorem dX2_init_34 : decode cX2_init 34 = .ok (.iconst 0, 1) := by decide +kernel
theorem dX2_init_35 : decode cX2_init 35 = .ok (.putfield 28, 3) := by decide +kernel
theorem dX2_init_38 : decode cX2_init 38 = .ok (.aload_n 0, 1) := by decide +kernel
theorem dX2_init_39 : decode cX2_init 39 = .ok (.new 22, 3) := by decide +kernel
theorem dX2_init_42 : decode cX2_init 42 = .ok (.dup, 1) := by decide +kernel
theorem dX2_init_43 : decode cX2_init 43 = .ok (.invokespecial 31, 3) := by decide +kernel
theorem dX2_init_46 : decode cX2_init 46 = .ok (.putfield 32, 3) := by decide +kernel
theorem dX2_init_49 : decode cX2_init 49 = .ok (.aload_n 0, 1) := by decide +kernel
theorem dX2_init_50 : decode cX2_init 50 = .ok (.iconst 0, 1) := by decide +kernel
theorem dX2_init_51 : decode cX2_init 51 = .ok (.putfield 36, 3) := by decide +kernel
theorem dX2_init_54 : decode cX2_init 54 = .ok (.aload_n 0, 1) := by decide +kernel
theorem dX2_init_55 : decode cX2_init 55 = .ok (.new 22, 3) := by decide +kernel
theorem dX2_init_58 : decode cX2_init 58 = .ok (.dup, 1) := by decide +kernel
theorem dX2_init_59 : decode cX2_init 59 = .ok (.invokespecial 31, 3) := by decide +kernel
theorem dX2_init_62 : decode cX2_init 62 = .ok (.putfield 40, 3) := by decide +kernel
theorem dX2_init_65 : decode cX2_init 65 = .ok (.aload_n 0, 1) := by decide +kernel
theorem dX2_init_66 : decode cX2_init 66 = .ok (.sipush 4096, 3) := by decide +kernel
theorem dX2_init_69 : decode cX2_init 69 = .ok (.newarray .byte, 2) := by decide +kernel
theorem dX2_init_71 : decode cX2_init 71 = .ok (.putfield 43, 3) := by decide +kernel
theorem dX2_init_74 : decode cX2_init 74 = .ok (.aload_n 0, 1) := by decide +kernel
theorem dX2_init_75 : decode cX2_init 75 = .ok (.iconst 0, 1) := by decide +kernel
theorem dX2_init_76 : decode cX2_init 76 = .ok (.putfield 47, 3) := by decide +kernel
theorem dX2_init_79 : decode cX2_init 79 = .ok (.aload_n 0, 1) := by decide +kernel
theorem dX2_init_80 : decode cX2_init 80 = .ok (.iconst 0, 1) := by decide +kernel
theorem dX2_init_81 : decode cX2_init 81 = .ok (.putfield 50, 3) := by decide +kernel
theorem dX2_init_84 : decode cX2_init 84 = .ok (.iconst 0, 1) := by decide +kernel
theorem dX2_init_85 : decode cX2_init 85 = .ok (.istore_n 1, 1) := by decide +kernel
theorem dX2_init_86 : decode cX2_init 86 = .ok (.iload_n 1, 1) := by decide +kernel
theorem dX2_init_87 : decode cX2_init 87 = .ok (.bipush 24, 2) := by decide +kernel
theorem dX2_init_89 : decode cX2_init 89 = .ok (.if_icmp .ge 22, 3) := by decide +kernel
theorem dX2_init_92 : decode cX2_init 92 = .ok (.aload_n 0, 1) := by decide +kernel
theorem dX2_init_93 : decode cX2_init 93 = .ok (.getfield 11, 3) := by decide +kernel
theorem dX2_init_96 : decode cX2_init 96 = .ok (.iload_n 1, 1) := by decide +kernel
theorem dX2_init_97 : decode cX2_init 97 = .ok (.new 9, 3) := by decide +kernel
theorem dX2_init_100 : decode cX2_init 100 = .ok (.dup, 1) := by decide +kernel
theorem dX2_init_101 : decode cX2_init 101 = .ok (.invokespecial 53, 3) := by decide +kernel
theorem dX2_init_104 : decode cX2_init 104 = .ok (.aastore, 1) := by decide +kernel
theorem dX2_init_105 : decode cX2_init 105 = .ok (.iinc 1 1, 3) := by decide +kernel
theorem dX2_init_108 : decode cX2_init 108 = .ok (.goto (-22), 3) := by decide +kernel
theorem dX2_init_111 : decode cX2_init 111 = .ok (.iconst 0, 1) := by decide +kernel
theorem dX2_init_112 : decode cX2_init 112 = .ok (.istore_n 1, 1) := by decide +kernel
theorem dX2_init_113 : decode cX2_init 113 = .ok (.iload_n 1, 1) := by decide +kernel
theorem dX2_init_114 : decode cX2_init 114 = .ok (.sipush 512, 3) := by decide +kernel
theorem dX2_init_117 : decode cX2_init 117 = .ok (.if_icmp .ge 22, 3) := by decide +kernel
theorem dX2_init_120 : decode cX2_init 120 = .ok (.aload_n 0, 1) := by decide +kernel
theorem dX2_init_121 : decode cX2_init 121 = .ok (.getfield 24, 3) := by decide +kernel
theorem dX2_init_124 : decode cX2_init 124 = .ok (.iload_n 1, 1) := by decide +kernel
theorem dX2_init_125 : decode cX2_init 125 = .ok (.new 22, 3) := by decide +kernel
theorem dX2_init_128 : decode cX2_init 128 = .ok (.dup, 1) := by decide +kernel
theorem dX2_init_129 : decode cX2_init 129 = .ok (.invokespecial 31, 3) := by decide +kernel
theorem dX2_init_132 : decode cX2_init 132 = .ok (.aastore, 1) := by decide +kernel
theorem dX2_init_133 : decode cX2_init 133 = .ok (.iinc 1 1, 3) := by decide +kernel
theorem dX2_init_136 : decode cX2_init 136 = .ok (.goto (-23), 3) := by decide +kernel
theorem dX2_init_139 : decode cX2_init 139 = .ok (.return_, 1) := by decide +kernel
theorem dX0_init_0 : decode cX0_init 0 = .ok (.aload_n 0, 1) := by decide +kernel
theorem dX0_init_1 : decode cX0_init 1 = .ok (.invokespecial 1, 3) := by decide +kernel
theorem dX0_init_4 : decode cX0_init 4 = .ok (.aload_n 0, 1) := by decide +kernel
theorem dX0_init_5 : decode cX0_init 5 = .ok (.iconst 0, 1) := by decide +kernel
theorem dX0_init_6 : decode cX0_init 6 = .ok (.putfield 7, 3) := by decide +kernel
theorem dX0_init_9 : decode cX0_init 9 = .ok (.aload_n 0, 1) := by decide +kernel
theorem dX0_init_10 : decode cX0_init 10 = .ok (.iconst 0, 1) := by decide +kernel
theorem dX0_init_11 : decode cX0_init 11 = .ok (.putfield 13, 3) := by decide +kernel
theorem dX0_init_14 : decode cX0_init 14 = .ok (.aload_n 0, 1) := by decide +kernel
theorem dX0_init_15 : decode cX0_init 15 = .ok (.iconst 0, 1) := by decide +kernel
theorem dX0_init_16 : decode cX0_init 16 = .ok (.putfield 16, 3) := by decide +kernel
theorem dX0_init_19 : decode cX0_init 19 = .ok (.aload_n 0, 1) := by decide +kernel
theorem dX0_init_20 : decode cX0_init 20 = .ok (.iconst 0, 1) := by decide +kernel
theorem dX0_init_21 : decode cX0_init 21 = .ok (.putfield 19, 3) := by decide +kernel
theorem dX0_init_24 : decode cX0_init 24 = .ok (.aload_n 0, 1) := by decide +kernel
theorem dX0_init_25 : decode cX0_init 25 = .ok (.iconst 0, 1) := by decide +kernel
theorem dX0_init_26 : decode cX0_init 26 = .ok (.putfield 22, 3) := by decide +kernel
theorem dX0_init_29 : decode cX0_init 29 = .ok (.aload_n 0, 1) := by decide +kernel
theorem dX0_init_30 : decode cX0_init 30 = .ok (.iconst 0, 1) := by decide +kernel
theorem dX0_init_31 : decode cX0_init 31 = .ok (.putfield 25, 3) := by decide +kernel
theorem dX0_init_34 : decode cX0_init 34 = .ok (.aload_n 0, 1) := by decide +kernel
theorem dX0_init_35 : decode cX0_init 35 = .ok (.iconst 0, 1) := by decide +kernel
theorem dX0_init_36 : decode cX0_init 36 = .ok (.putfield 28, 3) := by decide +kernel
theorem dX0_init_39 : decode cX0_init 39 = .ok (.aload_n 0, 1) := by decide +kernel
theorem dX0_init_40 : decode cX0_init 40 = .ok (.iconst 0, 1) := by decide +kernel
theorem dX0_init_41 : decode cX0_init 41 = .ok (.putfield 31, 3) := by decide +kernel
theorem dX0_init_44 : decode cX0_init 44 = .ok (.aload_n 0, 1) := by decide +kernel
theorem dX0_init_45 : decode cX0_init 45 = .ok (.iconst 0, 1) := by decide +kernel
theorem dX0_init_46 : decode cX0_init 46 = .ok (.putfield 34, 3) := by decide +kernel
theorem dX0_init_49 : decode cX0_init 49 = .ok (.return_, 1) := by decide +kernel
theorem dX1_init_0 : decode cX1_init 0 = .ok (.aload_n 0, 1) := by decide +kernel
theorem dX1_init_1 : decode cX1_init 1 = .ok (.invokespecial 3, 3) := by decide +kernel
theorem dX1_init_4 : decode cX1_init 4 = .ok (.aload_n 0, 1) := by decide +kernel
theorem dX1_init_5 : decode cX1_init 5 = .ok (.iconst 0, 1) := by decide +kernel
theorem dX1_init_6 : decode cX1_init 6 = .ok (.putfield 9, 3) := by decide +kernel
theorem dX1_init_9 : decode cX1_init 9 = .ok (.aload_n 0, 1) := by decide +kernel
theorem dX1_init_10 : decode cX1_init 10 = .ok (.iconst 0, 1) := by decide +kernel
theorem dX1_init_11 : decode cX1_init 11 = .ok (.putfield 15, 3) := by decide +kernel
theorem dX1_init_14 : decode cX1_init 14 = .ok (.aload_n 0, 1) := by decide +kernel
theorem dX1_init_15 : decode cX1_init 15 = .ok (.iconst 0, 1) := by decide +kernel
theorem dX1_init_16 : decode cX1_init 16 = .ok (.putfield 18, 3) := by decide +kernel
theorem dX1_init_19 : decode cX1_init 19 = .ok (.aload_n 0, 1) := by decide +kernel
theorem dX1_init_20 : decode cX1_init 20 = .ok (.iconst 0, 1) := by decide +kernel
theorem dX1_init_21 : decode cX1_init 21 = .ok (.putfield 22, 3) := by decide +kernel
theorem dX1_init_24 : decode cX1_init 24 = .ok (.aload_n 0, 1) := by decide +kernel
theorem dX1_init_25 : decode cX1_init 25 = .ok (.bipush 64, 2) := by decide +kernel
theorem dX1_init_27 : decode cX1_init 27 = .ok (.newarray .byte, 2) := by decide +kernel
theorem dX1_init_29 : decode cX1_init 29 = .ok (.putfield 25, 3) := by decide +kernel
theorem dX1_init_32 : decode cX1_init 32 = .ok (.aload_n 0, 1) := by decide +kernel
theorem dX1_init_33 : decode cX1_init 33 = .ok (.iconst 0, 1) := by decide +kernel
theorem dX1_init_34 : decode cX1_init 34 = .ok (.putfield 29, 3) := by decide +kernel
theorem dX1_init_37 : decode cX1_init 37 = .ok (.aload_n 0, 1) := by decide +kernel
theorem dX1_init_38 : decode cX1_init 38 = .ok (.iconst 0, 1) := by decide +kernel
theorem dX1_init_39 : decode cX1_init 39 = .ok (.putfield 32, 3) := by decide +kernel
theorem dX1_init_42 : decode cX1_init 42 = .ok (.return_, 1) := by decide +kernel
theorem dX2_next_0 : decode cX2_next 0 = .ok (.aload_n 0, 1) := by decide +kernel
theorem dX2_next_1 : decode cX2_next 1 = .ok (.getfield 28, 3) := by decide +kernel
theorem dX2_next_4 : decode cX2_next 4 = .ok (.iconst 1, 1) := by decide +kernel
theorem dX2_next_5 : decode cX2_next 5 = .ok (.if_icmp .lt 19, 3) := by decide +kernel
theorem dX2_next_8 : decode cX2_next 8 = .ok (.aload_n 0, 1) := by decide +kernel
theorem dX2_next_9 : decode cX2_next 9 = .ok (.getfield 24, 3) := by decide +kernel
theorem dX2_next_12 : decode cX2_next 12 = .ok (.iconst 0, 1) := by decide +kernel
theorem dX2_next_13 : decode cX2_next 13 = .ok (.aaload, 1) := by decide +kernel
theorem dX2_next_14 : decode cX2_next 14 = .ok (.getfield 139, 3) := by decide +kernel
theorem dX2_next_17 : decode cX2_next 17 = .ok (.aload_n 0, 1) := by decide +kernel
theorem dX2_next_18 : decode cX2_next 18 = .ok (.getfield 19, 3) := by decide +kernel
theorem dX2_next_21 : decode cX2_next 21 = .ok (.if_icmp .le 5, 3) := by decide +kernel
theorem dX2_next_24 : decode cX2_next 24 = .ok (.iconst 0, 1) := by decide +kernel
theorem dX2_next_25 : decode cX2_next 25 = .ok (.ireturn, 1) := by decide +kernel
theorem dX2_next_26 : decode cX2_next 26 = .ok (.aload_n 0, 1) := by decide +kernel
theorem dX2_next_27 : decode cX2_next 27 = .ok (.getfield 24, 3) := by decide +kernel
theorem dX2_next_30 : decode cX2_next 30 = .ok (.iconst 0, 1) := by decide +kernel
theorem dX2_next_31 : decode cX2_next 31 = .ok (.aaload, 1) := by decide +kernel
theorem dX2_next_32 : decode cX2_next 32 = .ok (.astore_n 1, 1) := by decide +kernel
theorem dX2_next_33 : decode cX2_next 33 = .ok (.aload_n 0, 1) := by decide +kernel
theorem dX2_next_34 : decode cX2_next 34 = .ok (.dup, 1) := by decide +kernel
theorem dX2_next_35 : decode cX2_next 35 = .ok (.getfield 28, 3) := by decide +kernel
theorem dX2_next_38 : decode cX2_next 38 = .ok (.iconst 1, 1) := by decide +kernel
theorem dX2_next_39 : decode cX2_next 39 = .ok (.isub, 1) := by decide +kernel
theorem dX2_next_40 : decode cX2_next 40 = .ok (.putfield 28, 3) := by decide +kernel
theorem dX2_next_43 : decode cX2_next 43 = .ok (.iconst 0, 1) := by decide +kernel
theorem dX2_next_44 : decode cX2_next 44 = .ok (.istore_n 2, 1) := by decide +kernel
theorem dX2_next_45 : decode cX2_next 45 = .ok (.iload_n 2, 1) := by decide +kernel
theorem dX2_next_46 : decode cX2_next 46 = .ok (.aload_n 0, 1) := by decide +kernel
theorem dX2_next_47 : decode cX2_next 47 = .ok (.getfield 28, 3) := by decide +kernel
theorem dX2_next_50 : decode cX2_next 50 = .ok (.if_icmp .ge 23, 3) := by decide +kernel
theorem dX2_next_53 : decode cX2_next 53 = .ok (.aload_n 0, 1) := by decide +kernel
theorem dX2_next_54 : decode cX2_next 54 = .ok (.getfield 24, 3) := by decide +kernel
theorem dX2_next_57 : decode cX2_next 57 = .ok (.iload_n 2, 1) := by decide +kernel
theorem dX2_next_58 : decode cX2_next 58 = .ok (.aload_n 0, 1) := by decide +kernel
theorem dX2_next_59 : decode cX2_next 59 = .ok (.getfield 24, 3) := by decide +kernel
theorem dX2_next_62 : decode cX2_next 62 = .ok (.iload_n 2, 1) := by decide +kernel
theorem dX2_next_63 : decode cX2_next 63 = .ok (.iconst 1, 1) := by decide +kernel
theorem dX2_next_64 : decode cX2_next 64 = .ok (.iadd, 1) := by decide +kernel
theorem dX2_next_65 : decode cX2_next 65 = .ok (.aaload, 1) := by decide +kernel
theorem dX2_next_66 : decode cX2_next 66 = .ok (.aastore, 1) := by decide +kernel
theorem dX2_next_67 : decode cX2_next 67 = .ok (.iinc 2 1, 3) := by decide +kernel
theorem dX2_next_70 : decode cX2_next 70 = .ok (.goto (-25), 3) := by decide +kernel
theorem dX2_next_73 : decode cX2_next 73 = .ok (.aload_n 0, 1) := by decide +kernel
theorem dX2_next_74 : decode cX2_next 74 = .ok (.getfield 24, 3) := by decide +kernel
theorem dX2_next_77 : decode cX2_next 77 = .ok (.aload_n 0, 1) := by decide +kernel
theorem dX2_next_78 : decode cX2_next 78 = .ok (.getfield 28, 3) := by decide +kernel
theorem dX2_next_81 : decode cX2_next 81 = .ok (.aload_n 0, 1) := by decide +kernel
theorem dX2_next_82 : decode cX2_next 82 = .ok (.getfield 32, 3) := by decide +kernel
theorem dX2_next_85 : decode cX2_next 85 = .ok (.aastore, 1) := by decide +kernel
theorem dX2_next_86 : decode cX2_next 86 = .ok (.aload_n 0, 1) := by decide +kernel
theorem dX2_next_87 : decode cX2_next 87 = .ok (.aload_n 1, 1) := by decide +kernel
theorem dX2_next_88 : decode cX2_next 88 = .ok (.putfield 32, 3) := by decide +kernel
theorem dX2_next_91 : decode cX2_next 91 = .ok (.aload_n 0, 1) := by decide +kernel
theorem dX2_next_92 : decode cX2_next 92 = .ok (.iconst 1, 1) := by decide +kernel
theorem dX2_next_93 : decode cX2_next 93 = .ok (.putfield 36, 3) := by decide +kernel
theorem dX2_next_96 : decode cX2_next 96 = .ok (.iconst 1, 1) := by decide +kernel
theorem dX2_next_97 : decode cX2_next 97 = .ok (.ireturn, 1) := by decide +kernel
theorem dX2_underWay_0 : decode cX2_underWay 0 = .ok (.aload_n 0, 1) := by decide +kernel
theorem dX2_underWay_1 : decode cX2_underWay 1 = .ok (.getfield 28, 3) := by decide +kernel
theorem dX2_underWay_4 : decode cX2_underWay 4 = .ok (.ireturn, 1) := by decide +kernel
theorem dX2_net_0 : decode cX2_net 0 = .ok (.iload_n 1, 1) := by decide +kernel
theorem dX2_net_1 : decode cX2_net 1 = .ok (.bipush 100, 2) := by decide +kernel
theorem dX2_net_3 : decode cX2_net 3 = .ok (.if_icmp .lt 10, 3) := by decide +kernel
theorem dX2_net_6 : decode cX2_net 6 = .ok (.iload_n 1, 1) := by decide +kernel
theorem dX2_net_7 : decode cX2_net 7 = .ok (.sipush 1500, 3) := by decide +kernel
theorem dX2_net_10 : decode cX2_net 10 = .ok (.if_icmp .le 13, 3) := by decide +kernel
theorem dX2_net_13 : decode cX2_net 13 = .ok (.new 54, 3) := by decide +kernel
theorem dX2_net_16 : decode cX2_net 16 = .ok (.dup, 1) := by decide +kernel
theorem dX2_net_17 : decode cX2_net 17 = .ok (.ldc 56, 2) := by decide +kernel
theorem dX2_net_19 : decode cX2_net 19 = .ok (.invokespecial 58, 3) := by decide +kernel
theorem dX2_net_22 : decode cX2_net 22 = .ok (.athrow, 1) := by decide +kernel
theorem dX2_net_23 : decode cX2_net 23 = .ok (.iload_n 2, 1) := by decide +kernel
theorem dX2_net_24 : decode cX2_net 24 = .ok (.iconst 1, 1) := by decide +kernel
theorem dX2_net_25 : decode cX2_net 25 = .ok (.if_icmp .lt 9, 3) := by decide +kernel
theorem dX2_net_28 : decode cX2_net 28 = .ok (.iload_n 2, 1) := by decide +kernel
theorem dX2_net_29 : decode cX2_net 29 = .ok (.bipush 50, 2) := by decide +kernel
theorem dX2_net_31 : decode cX2_net 31 = .ok (.if_icmp .le 13, 3) := by decide +kernel
theorem dX2_net_34 : decode cX2_net 34 = .ok (.new 54, 3) := by decide +kernel
theorem dX2_net_37 : decode cX2_net 37 = .ok (.dup, 1) := by decide +kernel
theorem dX2_net_38 : decode cX2_net 38 = .ok (.ldc 61, 2) := by decide +kernel
theorem dX2_net_40 : decode cX2_net 40 = .ok (.invokespecial 58, 3) := by decide +kernel
theorem dX2_net_43 : decode cX2_net 43 = .ok (.athrow, 1) := by decide +kernel
theorem dX2_net_44 : decode cX2_net 44 = .ok (.aload_n 0, 1) := by decide +kernel
theorem dX2_net_45 : decode cX2_net 45 = .ok (.getfield 15, 3) := by decide +kernel
theorem dX2_net_48 : decode cX2_net 48 = .ok (.bipush 24, 2) := by decide +kernel
theorem dX2_net_50 : decode cX2_net 50 = .ok (.if_icmp .lt 13, 3) := by decide +kernel
theorem dX2_net_53 : decode cX2_net 53 = .ok (.new 63, 3) := by decide +kernel
theorem dX2_net_56 : decode cX2_net 56 = .ok (.dup, 1) := by decide +kernel
theorem dX2_net_57 : decode cX2_net 57 = .ok (.ldc 65, 2) := by decide +kernel
theorem dX2_net_59 : decode cX2_net 59 = .ok (.invokespecial 67, 3) := by decide +kernel
theorem dX2_net_62 : decode cX2_net 62 = .ok (.athrow, 1) := by decide +kernel
theorem dX2_net_63 : decode cX2_net 63 = .ok (.aload_n 0, 1) := by decide +kernel
theorem dX2_net_64 : decode cX2_net 64 = .ok (.getfield 11, 3) := by decide +kernel
theorem dX2_net_67 : decode cX2_net 67 = .ok (.aload_n 0, 1) := by decide +kernel
theorem dX2_net_68 : decode cX2_net 68 = .ok (.getfield 15, 3) := by decide +kernel
theorem dX2_net_71 : decode cX2_net 71 = .ok (.aaload, 1) := by decide +kernel
theorem dX2_net_72 : decode cX2_net 72 = .ok (.iload_n 1, 1) := by decide +kernel
theorem dX2_net_73 : decode cX2_net 73 = .ok (.iload_n 2, 1) := by decide +kernel
theorem dX2_net_74 : decode cX2_net 74 = .ok (.invokevirtual 68, 3) := by decide +kernel
theorem dX2_net_77 : decode cX2_net 77 = .ok (.aload_n 0, 1) := by decide +kernel
theorem dX2_net_78 : decode cX2_net 78 = .ok (.dup, 1) := by decide +kernel
theorem dX2_net_79 : decode cX2_net 79 = .ok (.getfield 15, 3) := by decide +kernel
theorem dX2_net_82 : decode cX2_net 82 = .ok (.iconst 1, 1) := by decide +kernel
theorem dX2_net_83 : decode cX2_net 83 = .ok (.iadd, 1) := by decide +kernel
theorem dX2_net_84 : decode cX2_net 84 = .ok (.putfield 15, 3) := by decide +kernel
theorem dX2_net_87 : decode cX2_net 87 = .ok (.aload_n 0, 1) := by decide +kernel
theorem dX2_net_88 : decode cX2_net 88 = .ok (.getfield 15, 3) := by decide +kernel
theorem dX2_net_91 : decode cX2_net 91 = .ok (.iconst 1, 1) := by decide +kernel
theorem dX2_net_92 : decode cX2_net 92 = .ok (.isub, 1) := by decide +kernel
theorem dX2_net_93 : decode cX2_net 93 = .ok (.ireturn, 1) := by decide +kernel
theorem dX1_open_0 : decode cX1_open 0 = .ok (.aload_n 0, 1) := by decide +kernel
theorem dX1_open_1 : decode cX1_open 1 = .ok (.iload_n 1, 1) := by decide +kernel
theorem dX1_open_2 : decode cX1_open 2 = .ok (.putfield 9, 3) := by decide +kernel
theorem dX1_open_5 : decode cX1_open 5 = .ok (.aload_n 0, 1) := by decide +kernel
theorem dX1_open_6 : decode cX1_open 6 = .ok (.iload_n 2, 1) := by decide +kernel
theorem dX1_open_7 : decode cX1_open 7 = .ok (.putfield 15, 3) := by decide +kernel
theorem dX1_open_10 : decode cX1_open 10 = .ok (.aload_n 0, 1) := by decide +kernel
theorem dX1_open_11 : decode cX1_open 11 = .ok (.iconst 1, 1) := by decide +kernel
theorem dX1_open_12 : decode cX1_open 12 = .ok (.putfield 18, 3) := by decide +kernel
theorem dX1_open_15 : decode cX1_open 15 = .ok (.return_, 1) := by decide +kernel
theorem dX2_link_0 : decode cX2_link 0 = .ok (.aload_n 0, 1) := by decide +kernel
theorem dX2_link_1 : decode cX2_link 1 = .ok (.iload_n 1, 1) := by decide +kernel
theorem dX2_link_2 : decode cX2_link 2 = .ok (.invokevirtual 72, 3) := by decide +kernel
theorem dX2_link_5 : decode cX2_link 5 = .ok (.iload_n 2, 1) := by decide +kernel
theorem dX2_link_6 : decode cX2_link 6 = .ok (.putfield 76, 3) := by decide +kernel
theorem dX2_link_9 : decode cX2_link 9 = .ok (.iload_n 2, 1) := by decide +kernel
theorem dX2_link_10 : decode cX2_link 10 = .ok (.ifCond .eq 7, 3) := by decide +kernel
theorem dX2_link_13 : decode cX2_link 13 = .ok (.iconst 0, 1) := by decide +kernel
theorem dX2_link_14 : decode cX2_link 14 = .ok (.goto 8, 3) := by decide +kernel
theorem dX2_link_17 : decode cX2_link 17 = .ok (.aload_n 0, 1) := by decide +kernel
theorem dX2_link_18 : decode cX2_link 18 = .ok (.iload_n 1, 1) := by decide +kernel
theorem dX2_link_19 : decode cX2_link 19 = .ok (.invokevirtual 79, 3) := by decide +kernel
theorem dX2_link_22 : decode cX2_link 22 = .ok (.ireturn, 1) := by decide +kernel
theorem dX2_netNumbered_0 : decode cX2_netNumbered 0 = .ok (.iload_n 1, 1) := by decide +kernel
theorem dX2_netNumbered_1 : decode cX2_netNumbered 1 = .ok (.ifCond .lt 11, 3) := by decide +kernel
theorem dX2_netNumbered_4 : decode cX2_netNumbered 4 = .ok (.iload_n 1, 1) := by decide +kernel
theorem dX2_netNumbered_5 : decode cX2_netNumbered 5 = .ok (.aload_n 0, 1) := by decide +kernel
theorem dX2_netNumbered_6 : decode cX2_netNumbered 6 = .ok (.getfield 15, 3) := by decide +kernel
theorem dX2_netNumbered_9 : decode cX2_netNumbered 9 = .ok (.if_icmp .lt 13, 3) := by decide +kernel
theorem dX2_netNumbered_12 : decode cX2_netNumbered 12 = .ok (.new 54, 3) := by decide +kernel
theorem dX2_netNumbered_15 : decode cX2_netNumbered 15 = .ok (.dup, 1) := by decide +kernel
theorem dX2_netNumbered_16 : decode cX2_netNumbered 16 = .ok (.ldc 163, 2) := by decide +kernel
theorem dX2_netNumbered_18 : decode cX2_netNumbered 18 = .ok (.invokespecial 58, 3) := by decide +kernel
theorem dX2_netNumbered_21 : decode cX2_netNumbered 21 = .ok (.athrow, 1) := by decide +kernel
theorem dX2_netNumbered_22 : decode cX2_netNumbered 22 = .ok (.aload_n 0, 1) := by decide +kernel
theorem dX2_netNumbered_23 : decode cX2_netNumbered 23 = .ok (.getfield 11, 3) := by decide +kernel
theorem dX2_netNumbered_26 : decode cX2_netNumbered 26 = .ok (.iload_n 1, 1) := by decide +kernel
theorem dX2_netNumbered_27 : decode cX2_netNumbered 27 = .ok (.aaload, 1) := by decide +kernel
theorem dX2_netNumbered_28 : decode cX2_netNumbered 28 = .ok (.areturn, 1) := by decide +kernel
theorem dX2_loseArrivalsOf_0 : decode cX2_loseArrivalsOf 0 = .ok (.iconst 0, 1) := by decide +kernel
theorem dX2_loseArrivalsOf_1 : decode cX2_loseArrivalsOf 1 = .ok (.istore_n 2, 1) := by decide +kernel
theorem dX2_loseArrivalsOf_2 : decode cX2_loseArrivalsOf 2 = .ok (.iconst 0, 1) := by decide +kernel
theorem dX2_loseArrivalsOf_3 : decode cX2_loseArrivalsOf 3 = .ok (.istore_n 3, 1) := by decide +kernel
theorem dX2_loseArrivalsOf_4 : decode cX2_loseArrivalsOf 4 = .ok (.iload_n 3, 1) := by decide +kernel
theorem dX2_loseArrivalsOf_5 : decode cX2_loseArrivalsOf 5 = .ok (.aload_n 0, 1) := by decide +kernel
theorem dX2_loseArrivalsOf_6 : decode cX2_loseArrivalsOf 6 = .ok (.getfield 28, 3) := by decide +kernel
theorem dX2_loseArrivalsOf_9 : decode cX2_loseArrivalsOf 9 = .ok (.if_icmp .ge 49, 3) := by decide +kernel
theorem dX2_loseArrivalsOf_12 : decode cX2_loseArrivalsOf 12 = .ok (.aload_n 0, 1) := by decide +kernel
theorem dX2_loseArrivalsOf_13 : decode cX2_loseArrivalsOf 13 = .ok (.getfield 24, 3) := by decide +kernel
theorem dX2_loseArrivalsOf_16 : decode cX2_loseArrivalsOf 16 = .ok (.iload_n 3, 1) := by decide +kernel
theorem dX2_loseArrivalsOf_17 : decode cX2_loseArrivalsOf 17 = .ok (.aaload, 1) := by decide +kernel
theorem dX2_loseArrivalsOf_18 : decode cX2_loseArrivalsOf 18 = .ok (.astore 4, 2) := by decide +kernel
theorem dX2_loseArrivalsOf_20 : decode cX2_loseArrivalsOf 20 = .ok (.aload 4, 2) := by decide +kernel
theorem dX2_loseArrivalsOf_22 : decode cX2_loseArrivalsOf 22 = .ok (.getfield 111, 3) := by decide +kernel
theorem dX2_loseArrivalsOf_25 : decode cX2_loseArrivalsOf 25 = .ok (.iload_n 1, 1) := by decide +kernel
theorem dX2_loseArrivalsOf_26 : decode cX2_loseArrivalsOf 26 = .ok (.if_icmp .eq 26, 3) := by decide +kernel
theorem dX2_loseArrivalsOf_29 : decode cX2_loseArrivalsOf 29 = .ok (.aload_n 0, 1) := by decide +kernel
theorem dX2_loseArrivalsOf_30 : decode cX2_loseArrivalsOf 30 = .ok (.getfield 24, 3) := by decide +kernel
theorem dX2_loseArrivalsOf_33 : decode cX2_loseArrivalsOf 33 = .ok (.iload_n 3, 1) := by decide +kernel
theorem dX2_loseArrivalsOf_34 : decode cX2_loseArrivalsOf 34 = .ok (.aload_n 0, 1) := by decide +kernel
theorem dX2_loseArrivalsOf_35 : decode cX2_loseArrivalsOf 35 = .ok (.getfield 24, 3) := by decide +kernel
theorem dX2_loseArrivalsOf_38 : decode cX2_loseArrivalsOf 38 = .ok (.iload_n 2, 1) := by decide +kernel
theorem dX2_loseArrivalsOf_39 : decode cX2_loseArrivalsOf 39 = .ok (.aaload, 1) := by decide +kernel
theorem dX2_loseArrivalsOf_40 : decode cX2_loseArrivalsOf 40 = .ok (.aastore, 1) := by decide +kernel
theorem dX2_loseArrivalsOf_41 : decode cX2_loseArrivalsOf 41 = .ok (.aload_n 0, 1) := by decide +kernel
theorem dX2_loseArrivalsOf_42 : decode cX2_loseArrivalsOf 42 = .ok (.getfield 24, 3) := by decide +kernel
theorem dX2_loseArrivalsOf_45 : decode cX2_loseArrivalsOf 45 = .ok (.iload_n 2, 1) := by decide +kernel
theorem dX2_loseArrivalsOf_46 : decode cX2_loseArrivalsOf 46 = .ok (.aload 4, 2) := by decide +kernel
theorem dX2_loseArrivalsOf_48 : decode cX2_loseArrivalsOf 48 = .ok (.aastore, 1) := by decide +kernel
theorem dX2_loseArrivalsOf_49 : decode cX2_loseArrivalsOf 49 = .ok (.iinc 2 1, 3) := by decide +kernel
theorem dX2_loseArrivalsOf_52 : decode cX2_loseArrivalsOf 52 = .ok (.iinc 3 1, 3) := by decide +kernel
theorem dX2_loseArrivalsOf_55 : decode cX2_loseArrivalsOf 55 = .ok (.goto (-51), 3) := by decide +kernel
theorem dX2_loseArrivalsOf_58 : decode cX2_loseArrivalsOf 58 = .ok (.aload_n 0, 1) := by decide +kernel
theorem dX2_loseArrivalsOf_59 : decode cX2_loseArrivalsOf 59 = .ok (.getfield 28, 3) := by decide +kernel
theorem dX2_loseArrivalsOf_62 : decode cX2_loseArrivalsOf 62 = .ok (.iload_n 2, 1) := by decide +kernel
theorem dX2_loseArrivalsOf_63 : decode cX2_loseArrivalsOf 63 = .ok (.isub, 1) := by decide +kernel
theorem dX2_loseArrivalsOf_64 : decode cX2_loseArrivalsOf 64 = .ok (.istore_n 3, 1) := by decide +kernel
theorem dX2_loseArrivalsOf_65 : decode cX2_loseArrivalsOf 65 = .ok (.aload_n 0, 1) := by decide +kernel
theorem dX2_loseArrivalsOf_66 : decode cX2_loseArrivalsOf 66 = .ok (.iload_n 2, 1) := by decide +kernel
theorem dX2_loseArrivalsOf_67 : decode cX2_loseArrivalsOf 67 = .ok (.putfield 28, 3) := by decide +kernel
theorem dX2_loseArrivalsOf_70 : decode cX2_loseArrivalsOf 70 = .ok (.iload_n 3, 1) := by decide +kernel
theorem dX2_loseArrivalsOf_71 : decode cX2_loseArrivalsOf 71 = .ok (.ireturn, 1) := by decide +kernel
theorem dX2_fates_0 : decode cX2_fates 0 = .ok (.aload_n 0, 1) := by decide +kernel
theorem dX2_fates_1 : decode cX2_fates 1 = .ok (.iload_n 1, 1) := by decide +kernel
theorem dX2_fates_2 : decode cX2_fates 2 = .ok (.invokevirtual 72, 3) := by decide +kernel
theorem dX2_fates_5 : decode cX2_fates 5 = .ok (.astore 5, 2) := by decide +kernel
theorem dX2_fates_7 : decode cX2_fates 7 = .ok (.iload 4, 2) := by decide +kernel
theorem dX2_fates_9 : decode cX2_fates 9 = .ok (.iconst 1, 1) := by decide +kernel
theorem dX2_fates_10 : decode cX2_fates 10 = .ok (.if_icmp .lt 10, 3) := by decide +kernel
theorem dX2_fates_13 : decode cX2_fates 13 = .ok (.iload 4, 2) := by decide +kernel
theorem dX2_fates_15 : decode cX2_fates 15 = .ok (.bipush 32, 2) := by decide +kernel
theorem dX2_fates_17 : decode cX2_fates 17 = .ok (.if_icmp .le 13, 3) := by decide +kernel
theorem dX2_fates_20 : decode cX2_fates 20 = .ok (.new 54, 3) := by decide +kernel
theorem dX2_fates_23 : decode cX2_fates 23 = .ok (.dup, 1) := by decide +kernel
theorem dX2_fates_24 : decode cX2_fates 24 = .ok (.ldc 83, 2) := by decide +kernel
theorem dX2_fates_26 : decode cX2_fates 26 = .ok (.invokespecial 58, 3) := by decide +kernel
theorem dX2_fates_29 : decode cX2_fates 29 = .ok (.athrow, 1) := by decide +kernel
theorem dX2_fates_30 : decode cX2_fates 30 = .ok (.aload 5, 2) := by decide +kernel
theorem dX2_fates_32 : decode cX2_fates 32 = .ok (.getfield 85, 3) := by decide +kernel
theorem dX2_fates_35 : decode cX2_fates 35 = .ok (.iload 4, 2) := by decide +kernel
theorem dX2_fates_37 : decode cX2_fates 37 = .ok (.iadd, 1) := by decide +kernel
theorem dX2_fates_38 : decode cX2_fates 38 = .ok (.bipush 64, 2) := by decide +kernel
theorem dX2_fates_40 : decode cX2_fates 40 = .ok (.if_icmp .le 13, 3) := by decide +kernel
theorem dX2_fates_43 : decode cX2_fates 43 = .ok (.new 63, 3) := by decide +kernel
theorem dX2_fates_46 : decode cX2_fates 46 = .ok (.dup, 1) := by decide +kernel
theorem dX2_fates_47 : decode cX2_fates 47 = .ok (.ldc 88, 2) := by decide +kernel
theorem dX2_fates_49 : decode cX2_fates 49 = .ok (.invokespecial 67, 3) := by decide +kernel
theorem dX2_fates_52 : decode cX2_fates 52 = .ok (.athrow, 1) := by decide +kernel
theorem dX2_fates_53 : decode cX2_fates 53 = .ok (.iconst 0, 1) := by decide +kernel
theorem dX2_fates_54 : decode cX2_fates 54 = .ok (.istore 6, 2) := by decide +kernel
theorem dX2_fates_56 : decode cX2_fates 56 = .ok (.iload 6, 2) := by decide +kernel
theorem dX2_fates_58 : decode cX2_fates 58 = .ok (.iload 4, 2) := by decide +kernel
theorem dX2_fates_60 : decode cX2_fates 60 = .ok (.if_icmp .ge 23, 3) := by decide +kernel
theorem dX2_fates_63 : decode cX2_fates 63 = .ok (.aload 5, 2) := by decide +kernel
theorem dX2_fates_65 : decode cX2_fates 65 = .ok (.lload_n 2, 1) := by decide +kernel
theorem dX2_fates_66 : decode cX2_fates 66 = .ok (.iconst 2, 1) := by decide +kernel
theorem dX2_fates_67 : decode cX2_fates 67 = .ok (.iload 6, 2) := by decide +kernel
theorem dX2_fates_69 : decode cX2_fates 69 = .ok (.imul, 1) := by decide +kernel
theorem dX2_fates_70 : decode cX2_fates 70 = .ok (.lushr, 1) := by decide +kernel
theorem dX2_fates_71 : decode cX2_fates 71 = .ok (.l2i, 1) := by decide +kernel
theorem dX2_fates_72 : decode cX2_fates 72 = .ok (.iconst 3, 1) := by decide +kernel
theorem dX2_fates_73 : decode cX2_fates 73 = .ok (.iand, 1) := by decide +kernel
theorem dX2_fates_74 : decode cX2_fates 74 = .ok (.invokevirtual 90, 3) := by decide +kernel
theorem dX2_fates_77 : decode cX2_fates 77 = .ok (.iinc 6 1, 3) := by decide +kernel
theorem dX2_fates_80 : decode cX2_fates 80 = .ok (.goto (-24), 3) := by decide +kernel
theorem dX2_fates_83 : decode cX2_fates 83 = .ok (.aload 5, 2) := by decide +kernel
theorem dX2_fates_85 : decode cX2_fates 85 = .ok (.getfield 85, 3) := by decide +kernel
theorem dX2_fates_88 : decode cX2_fates 88 = .ok (.ireturn, 1) := by decide +kernel
theorem dX1_addFate_0 : decode cX1_addFate 0 = .ok (.aload_n 0, 1) := by decide +kernel
theorem dX1_addFate_1 : decode cX1_addFate 1 = .ok (.getfield 25, 3) := by decide +kernel
theorem dX1_addFate_4 : decode cX1_addFate 4 = .ok (.aload_n 0, 1) := by decide +kernel
theorem dX1_addFate_5 : decode cX1_addFate 5 = .ok (.getfield 29, 3) := by decide +kernel
theorem dX1_addFate_8 : decode cX1_addFate 8 = .ok (.aload_n 0, 1) := by decide +kernel
theorem dX1_addFate_9 : decode cX1_addFate 9 = .ok (.getfield 32, 3) := by decide +kernel
theorem dX1_addFate_12 : decode cX1_addFate 12 = .ok (.iadd, 1) := by decide +kernel
theorem dX1_addFate_13 : decode cX1_addFate 13 = .ok (.bipush 63, 2) := by decide +kernel
theorem dX1_addFate_15 : decode cX1_addFate 15 = .ok (.iand, 1) := by decide +kernel
theorem dX1_addFate_16 : decode cX1_addFate 16 = .ok (.iload_n 1, 1) := by decide +kernel
theorem dX1_addFate_17 : decode cX1_addFate 17 = .ok (.i2b, 1) := by decide +kernel
theorem dX1_addFate_18 : decode cX1_addFate 18 = .ok (.bastore, 1) := by decide +kernel
theorem dX1_addFate_19 : decode cX1_addFate 19 = .ok (.aload_n 0, 1) := by decide +kernel
theorem dX1_addFate_20 : decode cX1_addFate 20 = .ok (.dup, 1) := by decide +kernel
theorem dX1_addFate_21 : decode cX1_addFate 21 = .ok (.getfield 32, 3) := by decide +kernel
theorem dX1_addFate_24 : decode cX1_addFate 24 = .ok (.iconst 1, 1) := by decide +kernel
theorem dX1_addFate_25 : decode cX1_addFate 25 = .ok (.iadd, 1) := by decide +kernel
theorem dX1_addFate_26 : decode cX1_addFate 26 = .ok (.putfield 32, 3) := by decide +kernel
theorem dX1_addFate_29 : decode cX1_addFate 29 = .ok (.return_, 1) := by decide +kernel
theorem dX2_feed_0 : decode cX2_feed 0 = .ok (.iload_n 3, 1) := by decide +kernel
theorem dX2_feed_1 : decode cX2_feed 1 = .ok (.iconst 1, 1) := by decide +kernel
theorem dX2_feed_2 : decode cX2_feed 2 = .ok (.if_icmp .lt 9, 3) := by decide +kernel
theorem dX2_feed_5 : decode cX2_feed 5 = .ok (.iload_n 3, 1) := by decide +kernel
theorem dX2_feed_6 : decode cX2_feed 6 = .ok (.bipush 8, 2) := by decide +kernel
theorem dX2_feed_8 : decode cX2_feed 8 = .ok (.if_icmp .le 13, 3) := by decide +kernel
theorem dX2_feed_11 : decode cX2_feed 11 = .ok (.new 54, 3) := by decide +kernel
theorem dX2_feed_14 : decode cX2_feed 14 = .ok (.dup, 1) := by decide +kernel
theorem dX2_feed_15 : decode cX2_feed 15 = .ok (.ldc 94, 2) := by decide +kernel
theorem dX2_feed_17 : decode cX2_feed 17 = .ok (.invokespecial 58, 3) := by decide +kernel
theorem dX2_feed_20 : decode cX2_feed 20 = .ok (.athrow, 1) := by decide +kernel
theorem dX2_feed_21 : decode cX2_feed 21 = .ok (.aload_n 0, 1) := by decide +kernel
theorem dX2_feed_22 : decode cX2_feed 22 = .ok (.getfield 50, 3) := by decide +kernel
theorem dX2_feed_25 : decode cX2_feed 25 = .ok (.iload_n 3, 1) := by decide +kernel
theorem dX2_feed_26 : decode cX2_feed 26 = .ok (.iadd, 1) := by decide +kernel
theorem dX2_feed_27 : decode cX2_feed 27 = .ok (.sipush 1480, 3) := by decide +kernel
theorem dX2_feed_30 : decode cX2_feed 30 = .ok (.if_icmp .le 13, 3) := by decide +kernel
theorem dX2_feed_33 : decode cX2_feed 33 = .ok (.new 63, 3) := by decide +kernel
theorem dX2_feed_36 : decode cX2_feed 36 = .ok (.dup, 1) := by decide +kernel
theorem dX2_feed_37 : decode cX2_feed 37 = .ok (.ldc 96, 2) := by decide +kernel
theorem dX2_feed_39 : decode cX2_feed 39 = .ok (.invokespecial 67, 3) := by decide +kernel
theorem dX2_feed_42 : decode cX2_feed 42 = .ok (.athrow, 1) := by decide +kernel
theorem dX2_feed_43 : decode cX2_feed 43 = .ok (.iload_n 3, 1) := by decide +kernel
theorem dX2_feed_44 : decode cX2_feed 44 = .ok (.iconst 1, 1) := by decide +kernel
theorem dX2_feed_45 : decode cX2_feed 45 = .ok (.isub, 1) := by decide +kernel
theorem dX2_feed_46 : decode cX2_feed 46 = .ok (.istore 4, 2) := by decide +kernel
theorem dX2_feed_48 : decode cX2_feed 48 = .ok (.iload 4, 2) := by decide +kernel
theorem dX2_feed_50 : decode cX2_feed 50 = .ok (.ifCond .lt 45, 3) := by decide +kernel
theorem dX2_feed_53 : decode cX2_feed 53 = .ok (.aload_n 0, 1) := by decide +kernel
theorem dX2_feed_54 : decode cX2_feed 54 = .ok (.getfield 43, 3) := by decide +kernel
theorem dX2_feed_57 : decode cX2_feed 57 = .ok (.aload_n 0, 1) := by decide +kernel
theorem dX2_feed_58 : decode cX2_feed 58 = .ok (.getfield 47, 3) := by decide +kernel
theorem dX2_feed_61 : decode cX2_feed 61 = .ok (.aload_n 0, 1) := by decide +kernel
theorem dX2_feed_62 : decode cX2_feed 62 = .ok (.getfield 50, 3) := by decide +kernel
theorem dX2_feed_65 : decode cX2_feed 65 = .ok (.iadd, 1) := by decide +kernel
theorem dX2_feed_66 : decode cX2_feed 66 = .ok (.invokestatic 98, 3) := by decide +kernel
theorem dX2_feed_69 : decode cX2_feed 69 = .ok (.lload_n 1, 1) := by decide +kernel
theorem dX2_feed_70 : decode cX2_feed 70 = .ok (.bipush 8, 2) := by decide +kernel
theorem dX2_feed_72 : decode cX2_feed 72 = .ok (.iload 4, 2) := by decide +kernel
theorem dX2_feed_74 : decode cX2_feed 74 = .ok (.imul, 1) := by decide +kernel
theorem dX2_feed_75 : decode cX2_feed 75 = .ok (.lushr, 1) := by decide +kernel
theorem dX2_feed_76 : decode cX2_feed 76 = .ok (.l2i, 1) := by decide +kernel
theorem dX2_feed_77 : decode cX2_feed 77 = .ok (.i2b, 1) := by decide +kernel
theorem dX2_feed_78 : decode cX2_feed 78 = .ok (.bastore, 1) := by decide +kernel
theorem dX2_feed_79 : decode cX2_feed 79 = .ok (.aload_n 0, 1) := by decide +kernel
theorem dX2_feed_80 : decode cX2_feed 80 = .ok (.dup, 1) := by decide +kernel
theorem dX2_feed_81 : decode cX2_feed 81 = .ok (.getfield 50, 3) := by decide +kernel
theorem dX2_feed_84 : decode cX2_feed 84 = .ok (.iconst 1, 1) := by decide +kernel
theorem dX2_feed_85 : decode cX2_feed 85 = .ok (.iadd, 1) := by decide +kernel
theorem dX2_feed_86 : decode cX2_feed 86 = .ok (.putfield 50, 3) := by decide +kernel
theorem dX2_feed_89 : decode cX2_feed 89 = .ok (.iinc 4 (-1), 3) := by decide +kernel
theorem dX2_feed_92 : decode cX2_feed 92 = .ok (.goto (-44), 3) := by decide +kernel
theorem dX2_feed_95 : decode cX2_feed 95 = .ok (.aload_n 0, 1) := by decide +kernel
theorem dX2_feed_96 : decode cX2_feed 96 = .ok (.getfield 50, 3) := by decide +kernel
theorem dX2_feed_99 : decode cX2_feed 99 = .ok (.ireturn, 1) := by decide +kernel
theorem dX2_ringPlace_0 : decode cX2_ringPlace 0 = .ok (.iload_n 0, 1) := by decide +kernel
theorem dX2_ringPlace_1 : decode cX2_ringPlace 1 = .ok (.sipush 4095, 3) := by decide +kernel
theorem dX2_ringPlace_4 : decode cX2_ringPlace 4 = .ok (.iand, 1) := by decide +kernel
theorem dX2_ringPlace_5 : decode cX2_ringPlace 5 = .ok (.ireturn, 1) := by decide +kernel
theorem dX2_put_0 : decode cX2_put 0 = .ok (.aload_n 0, 1) := by decide +kernel
theorem dX2_put_1 : decode cX2_put 1 = .ok (.iload_n 1, 1) := by decide +kernel
theorem dX2_put_2 : decode cX2_put 2 = .ok (.invokevirtual 72, 3) := by decide +kernel
theorem dX2_put_5 : decode cX2_put 5 = .ok (.astore 5, 2) := by decide +kernel
theorem dX2_put_7 : decode cX2_put 7 = .ok (.iload_n 2, 1) := by decide +kernel
theorem dX2_put_8 : decode cX2_put 8 = .ok (.invokestatic 101, 3) := by decide +kernel
theorem dX2_put_11 : decode cX2_put 11 = .ok (.ifCond .ne 13, 3) := by decide +kernel
theorem dX2_put_14 : decode cX2_put 14 = .ok (.new 54, 3) := by decide +kernel
theorem dX2_put_17 : decode cX2_put 17 = .ok (.dup, 1) := by decide +kernel
theorem dX2_put_18 : decode cX2_put 18 = .ok (.ldc 105, 2) := by decide +kernel
theorem dX2_put_20 : decode cX2_put 20 = .ok (.invokespecial 58, 3) := by decide +kernel
theorem dX2_put_23 : decode cX2_put 23 = .ok (.athrow, 1) := by decide +kernel
theorem dX2_put_24 : decode cX2_put 24 = .ok (.iload_n 3, 1) := by decide +kernel
theorem dX2_put_25 : decode cX2_put 25 = .ok (.iconst (-1), 1) := by decide +kernel
theorem dX2_put_26 : decode cX2_put 26 = .ok (.if_icmp .eq 20, 3) := by decide +kernel
theorem dX2_put_29 : decode cX2_put 29 = .ok (.iload_n 3, 1) := by decide +kernel
theorem dX2_put_30 : decode cX2_put 30 = .ok (.invokestatic 101, 3) := by decide +kernel
theorem dX2_put_33 : decode cX2_put 33 = .ok (.ifCond .ne 13, 3) := by decide +kernel
theorem dX2_put_36 : decode cX2_put 36 = .ok (.new 54, 3) := by decide +kernel
theorem dX2_put_39 : decode cX2_put 39 = .ok (.dup, 1) := by decide +kernel
theorem dX2_put_40 : decode cX2_put 40 = .ok (.ldc 107, 2) := by decide +kernel
theorem dX2_put_42 : decode cX2_put 42 = .ok (.invokespecial 58, 3) := by decide +kernel
theorem dX2_put_45 : decode cX2_put 45 = .ok (.athrow, 1) := by decide +kernel
theorem dX2_put_46 : decode cX2_put 46 = .ok (.iload_n 3, 1) := by decide +kernel
theorem dX2_put_47 : decode cX2_put 47 = .ok (.iload_n 2, 1) := by decide +kernel
theorem dX2_put_48 : decode cX2_put 48 = .ok (.if_icmp .ne 13, 3) := by decide +kernel
theorem dX2_put_51 : decode cX2_put 51 = .ok (.new 54, 3) := by decide +kernel
theorem dX2_put_54 : decode cX2_put 54 = .ok (.dup, 1) := by decide +kernel
theorem dX2_put_55 : decode cX2_put 55 = .ok (.ldc 109, 2) := by decide +kernel
theorem dX2_put_57 : decode cX2_put 57 = .ok (.invokespecial 58, 3) := by decide +kernel
theorem dX2_put_60 : decode cX2_put 60 = .ok (.athrow, 1) := by decide +kernel
theorem dX2_put_61 : decode cX2_put 61 = .ok (.aload_n 0, 1) := by decide +kernel
theorem dX2_put_62 : decode cX2_put 62 = .ok (.getfield 40, 3) := by decide +kernel
theorem dX2_put_65 : decode cX2_put 65 = .ok (.iload_n 1, 1) := by decide +kernel
theorem dX2_put_66 : decode cX2_put 66 = .ok (.putfield 111, 3) := by decide +kernel
theorem dX2_put_69 : decode cX2_put 69 = .ok (.aload_n 0, 1) := by decide +kernel
theorem dX2_put_70 : decode cX2_put 70 = .ok (.getfield 40, 3) := by decide +kernel
theorem dX2_put_73 : decode cX2_put 73 = .ok (.iload_n 2, 1) := by decide +kernel
theorem dX2_put_74 : decode cX2_put 74 = .ok (.putfield 114, 3) := by decide +kernel
theorem dX2_put_77 : decode cX2_put 77 = .ok (.aload_n 0, 1) := by decide +kernel
theorem dX2_put_78 : decode cX2_put 78 = .ok (.getfield 40, 3) := by decide +kernel
theorem dX2_put_81 : decode cX2_put 81 = .ok (.iload_n 3, 1) := by decide +kernel
theorem dX2_put_82 : decode cX2_put 82 = .ok (.putfield 117, 3) := by decide +kernel
theorem dX2_put_85 : decode cX2_put 85 = .ok (.aload_n 0, 1) := by decide +kernel
theorem dX2_put_86 : decode cX2_put 86 = .ok (.getfield 40, 3) := by decide +kernel
theorem dX2_put_89 : decode cX2_put 89 = .ok (.iload 4, 2) := by decide +kernel
theorem dX2_put_91 : decode cX2_put 91 = .ok (.putfield 120, 3) := by decide +kernel
theorem dX2_put_94 : decode cX2_put 94 = .ok (.aload_n 0, 1) := by decide +kernel
theorem dX2_put_95 : decode cX2_put 95 = .ok (.getfield 40, 3) := by decide +kernel
theorem dX2_put_98 : decode cX2_put 98 = .ok (.aload_n 0, 1) := by decide +kernel
theorem dX2_put_99 : decode cX2_put 99 = .ok (.getfield 50, 3) := by decide +kernel
theorem dX2_put_102 : decode cX2_put 102 = .ok (.putfield 123, 3) := by decide +kernel
theorem dX2_put_105 : decode cX2_put 105 = .ok (.aload_n 0, 1) := by decide +kernel
theorem dX2_put_106 : decode cX2_put 106 = .ok (.aload 5, 2) := by decide +kernel
theorem dX2_put_108 : decode cX2_put 108 = .ok (.invokevirtual 126, 3) := by decide +kernel
theorem dX2_put_111 : decode cX2_put 111 = .ok (.istore 6, 2) := by decide +kernel
theorem dX2_put_113 : decode cX2_put 113 = .ok (.aload_n 0, 1) := by decide +kernel
theorem dX2_put_114 : decode cX2_put 114 = .ok (.aload_n 0, 1) := by decide +kernel
theorem dX2_put_115 : decode cX2_put 115 = .ok (.getfield 47, 3) := by decide +kernel
theorem dX2_put_118 : decode cX2_put 118 = .ok (.aload_n 0, 1) := by decide +kernel
theorem dX2_put_119 : decode cX2_put 119 = .ok (.getfield 50, 3) := by decide +kernel
theorem dX2_put_122 : decode cX2_put 122 = .ok (.iadd, 1) := by decide +kernel
theorem dX2_put_123 : decode cX2_put 123 = .ok (.invokestatic 98, 3) := by decide +kernel
theorem dX2_put_126 : decode cX2_put 126 = .ok (.putfield 47, 3) := by decide +kernel
theorem dX2_put_129 : decode cX2_put 129 = .ok (.aload_n 0, 1) := by decide +kernel
theorem dX2_put_130 : decode cX2_put 130 = .ok (.iconst 0, 1) := by decide +kernel
theorem dX2_put_131 : decode cX2_put 131 = .ok (.putfield 50, 3) := by decide +kernel
theorem dX2_put_134 : decode cX2_put 134 = .ok (.iload 6, 2) := by decide +kernel
theorem dX2_put_136 : decode cX2_put 136 = .ok (.ireturn, 1) := by decide +kernel
theorem dX2_isStation_0 : decode cX2_isStation 0 = .ok (.iload_n 0, 1) := by decide +kernel
theorem dX2_isStation_1 : decode cX2_isStation 1 = .ok (.ifCond .lt 13, 3) := by decide +kernel
theorem dX2_isStation_4 : decode cX2_isStation 4 = .ok (.iload_n 0, 1) := by decide +kernel
theorem dX2_isStation_5 : decode cX2_isStation 5 = .ok (.bipush 8, 2) := by decide +kernel
theorem dX2_isStation_7 : decode cX2_isStation 7 = .ok (.if_icmp .ge 7, 3) := by decide +kernel
theorem dX2_isStation_10 : decode cX2_isStation 10 = .ok (.iconst 1, 1) := by decide +kernel
theorem dX2_isStation_11 : decode cX2_isStation 11 = .ok (.goto 4, 3) := by decide +kernel
theorem dX2_isStation_14 : decode cX2_isStation 14 = .ok (.iconst 0, 1) := by decide +kernel
theorem dX2_isStation_15 : decode cX2_isStation 15 = .ok (.ireturn, 1) := by decide +kernel
theorem dX2_sendPayload_0 : decode cX2_sendPayload 0 = .ok (.aload_n 0, 1) := by decide +kernel
theorem dX2_sendPayload_1 : decode cX2_sendPayload 1 = .ok (.getfield 50, 3) := by decide +kernel
theorem dX2_sendPayload_4 : decode cX2_sendPayload 4 = .ok (.istore_n 2, 1) := by decide +kernel
theorem dX2_sendPayload_5 : decode cX2_sendPayload 5 = .ok (.iload_n 2, 1) := by decide +kernel
theorem dX2_sendPayload_6 : decode cX2_sendPayload 6 = .ok (.bipush 20, 2) := by decide +kernel
theorem dX2_sendPayload_8 : decode cX2_sendPayload 8 = .ok (.iadd, 1) := by decide +kernel
theorem dX2_sendPayload_9 : decode cX2_sendPayload 9 = .ok (.aload_n 1, 1) := by decide +kernel
theorem dX2_sendPayload_10 : decode cX2_sendPayload 10 = .ok (.getfield 165, 3) := by decide +kernel
theorem dX2_sendPayload_13 : decode cX2_sendPayload 13 = .ok (.if_icmp .gt 12, 3) := by decide +kernel
theorem dX2_sendPayload_16 : decode cX2_sendPayload 16 = .ok (.aload_n 0, 1) := by decide +kernel
theorem dX2_sendPayload_17 : decode cX2_sendPayload 17 = .ok (.aload_n 1, 1) := by decide +kernel
theorem dX2_sendPayload_18 : decode cX2_sendPayload 18 = .ok (.iconst 0, 1) := by decide +kernel
theorem dX2_sendPayload_19 : decode cX2_sendPayload 19 = .ok (.iload_n 2, 1) := by decide +kernel
theorem dX2_sendPayload_20 : decode cX2_sendPayload 20 = .ok (.invokevirtual 168, 3) := by decide +kernel
theorem dX2_sendPayload_23 : decode cX2_sendPayload 23 = .ok (.iconst 0, 1) := by decide +kernel
theorem dX2_sendPayload_24 : decode cX2_sendPayload 24 = .ok (.ireturn, 1) := by decide +kernel
theorem dX2_sendPayload_25 : decode cX2_sendPayload 25 = .ok (.aload_n 1, 1) := by decide +kernel
theorem dX2_sendPayload_26 : decode cX2_sendPayload 26 = .ok (.invokevirtual 172, 3) := by decide +kernel
theorem dX2_sendPayload_29 : decode cX2_sendPayload 29 = .ok (.istore_n 3, 1) := by decide +kernel
theorem dX2_sendPayload_30 : decode cX2_sendPayload 30 = .ok (.iload_n 2, 1) := by decide +kernel
theorem dX2_sendPayload_31 : decode cX2_sendPayload 31 = .ok (.iload_n 3, 1) := by decide +kernel
theorem dX2_sendPayload_32 : decode cX2_sendPayload 32 = .ok (.invokestatic 175, 3) := by decide +kernel
theorem dX2_sendPayload_35 : decode cX2_sendPayload 35 = .ok (.istore 4, 2) := by decide +kernel
theorem dX2_sendPayload_37 : decode cX2_sendPayload 37 = .ok (.iconst 0, 1) := by decide +kernel
theorem dX2_sendPayload_38 : decode cX2_sendPayload 38 = .ok (.istore 5, 2) := by decide +kernel
theorem dX2_sendPayload_40 : decode cX2_sendPayload 40 = .ok (.iload 5, 2) := by decide +kernel
theorem dX2_sendPayload_42 : decode cX2_sendPayload 42 = .ok (.iload 4, 2) := by decide +kernel
theorem dX2_sendPayload_44 : decode cX2_sendPayload 44 = .ok (.if_icmp .ge 30, 3) := by decide +kernel
theorem dX2_sendPayload_47 : decode cX2_sendPayload 47 = .ok (.iload 5, 2) := by decide +kernel
theorem dX2_sendPayload_49 : decode cX2_sendPayload 49 = .ok (.iload_n 3, 1) := by decide +kernel
theorem dX2_sendPayload_50 : decode cX2_sendPayload 50 = .ok (.imul, 1) := by decide +kernel
theorem dX2_sendPayload_51 : decode cX2_sendPayload 51 = .ok (.istore 6, 2) := by decide +kernel
theorem dX2_sendPayload_53 : decode cX2_sendPayload 53 = .ok (.aload_n 0, 1) := by decide +kernel
theorem dX2_sendPayload_54 : decode cX2_sendPayload 54 = .ok (.aload_n 1, 1) := by decide +kernel
theorem dX2_sendPayload_55 : decode cX2_sendPayload 55 = .ok (.iload 6, 2) := by decide +kernel
theorem dX2_sendPayload_57 : decode cX2_sendPayload 57 = .ok (.iload_n 3, 1) := by decide +kernel
theorem dX2_sendPayload_58 : decode cX2_sendPayload 58 = .ok (.iload_n 2, 1) := by decide +kernel
theorem dX2_sendPayload_59 : decode cX2_sendPayload 59 = .ok (.iload 6, 2) := by decide +kernel
theorem dX2_sendPayload_61 : decode cX2_sendPayload 61 = .ok (.isub, 1) := by decide +kernel
theorem dX2_sendPayload_62 : decode cX2_sendPayload 62 = .ok (.invokestatic 179, 3) := by decide +kernel
theorem dX2_sendPayload_65 : decode cX2_sendPayload 65 = .ok (.invokevirtual 168, 3) := by decide +kernel
theorem dX2_sendPayload_68 : decode cX2_sendPayload 68 = .ok (.iinc 5 1, 3) := by decide +kernel
theorem dX2_sendPayload_71 : decode cX2_sendPayload 71 = .ok (.goto (-31), 3) := by decide +kernel
theorem dX2_sendPayload_74 : decode cX2_sendPayload 74 = .ok (.iload 4, 2) := by decide +kernel
theorem dX2_sendPayload_76 : decode cX2_sendPayload 76 = .ok (.ireturn, 1) := by decide +kernel
theorem dX2_sendPiece_0 : decode cX2_sendPiece 0 = .ok (.aload_n 1, 1) := by decide +kernel
theorem dX2_sendPiece_1 : decode cX2_sendPiece 1 = .ok (.dup, 1) := by decide +kernel
theorem dX2_sendPiece_2 : decode cX2_sendPiece 2 = .ok (.getfield 160, 3) := by decide +kernel
theorem dX2_sendPiece_5 : decode cX2_sendPiece 5 = .ok (.iconst 1, 1) := by decide +kernel
theorem dX2_sendPiece_6 : decode cX2_sendPiece 6 = .ok (.iadd, 1) := by decide +kernel
theorem dX2_sendPiece_7 : decode cX2_sendPiece 7 = .ok (.putfield 160, 3) := by decide +kernel
theorem dX2_sendPiece_10 : decode cX2_sendPiece 10 = .ok (.aload_n 1, 1) := by decide +kernel
theorem dX2_sendPiece_11 : decode cX2_sendPiece 11 = .ok (.getfield 76, 3) := by decide +kernel
theorem dX2_sendPiece_14 : decode cX2_sendPiece 14 = .ok (.ifCond .ne 4, 3) := by decide +kernel
theorem dX2_sendPiece_17 : decode cX2_sendPiece 17 = .ok (.return_, 1) := by decide +kernel
theorem dX2_sendPiece_18 : decode cX2_sendPiece 18 = .ok (.aload_n 0, 1) := by decide +kernel
theorem dX2_sendPiece_19 : decode cX2_sendPiece 19 = .ok (.getfield 40, 3) := by decide +kernel
theorem dX2_sendPiece_22 : decode cX2_sendPiece 22 = .ok (.iload_n 2, 1) := by decide +kernel
theorem dX2_sendPiece_23 : decode cX2_sendPiece 23 = .ok (.putfield 146, 3) := by decide +kernel
theorem dX2_sendPiece_26 : decode cX2_sendPiece 26 = .ok (.aload_n 0, 1) := by decide +kernel
theorem dX2_sendPiece_27 : decode cX2_sendPiece 27 = .ok (.getfield 40, 3) := by decide +kernel
theorem dX2_sendPiece_30 : decode cX2_sendPiece 30 = .ok (.iload_n 3, 1) := by decide +kernel
theorem dX2_sendPiece_31 : decode cX2_sendPiece 31 = .ok (.putfield 149, 3) := by decide +kernel
theorem dX2_sendPiece_34 : decode cX2_sendPiece 34 = .ok (.aload_n 0, 1) := by decide +kernel
theorem dX2_sendPiece_35 : decode cX2_sendPiece 35 = .ok (.getfield 40, 3) := by decide +kernel
theorem dX2_sendPiece_38 : decode cX2_sendPiece 38 = .ok (.aload_n 0, 1) := by decide +kernel
theorem dX2_sendPiece_39 : decode cX2_sendPiece 39 = .ok (.getfield 47, 3) := by decide +kernel
theorem dX2_sendPiece_42 : decode cX2_sendPiece 42 = .ok (.iload_n 2, 1) := by decide +kernel
theorem dX2_sendPiece_43 : decode cX2_sendPiece 43 = .ok (.iadd, 1) := by decide +kernel
theorem dX2_sendPiece_44 : decode cX2_sendPiece 44 = .ok (.invokestatic 98, 3) := by decide +kernel
theorem dX2_sendPiece_47 : decode cX2_sendPiece 47 = .ok (.putfield 157, 3) := by decide +kernel
theorem dX2_sendPiece_50 : decode cX2_sendPiece 50 = .ok (.aload_n 0, 1) := by decide +kernel
theorem dX2_sendPiece_51 : decode cX2_sendPiece 51 = .ok (.aload_n 1, 1) := by decide +kernel
theorem dX2_sendPiece_52 : decode cX2_sendPiece 52 = .ok (.invokevirtual 184, 3) := by decide +kernel
theorem dX2_sendPiece_55 : decode cX2_sendPiece 55 = .ok (.aload_n 1, 1) := by decide +kernel
theorem dX2_sendPiece_56 : decode cX2_sendPiece 56 = .ok (.getfield 187, 3) := by decide +kernel
theorem dX2_sendPiece_59 : decode cX2_sendPiece 59 = .ok (.invokevirtual 190, 3) := by decide +kernel
theorem dX2_sendPiece_62 : decode cX2_sendPiece 62 = .ok (.return_, 1) := by decide +kernel
theorem dX1_takeFate_0 : decode cX1_takeFate 0 = .ok (.aload_n 0, 1) := by decide +kernel
theorem dX1_takeFate_1 : decode cX1_takeFate 1 = .ok (.getfield 32, 3) := by decide +kernel
theorem dX1_takeFate_4 : decode cX1_takeFate 4 = .ok (.iconst 1, 1) := by decide +kernel
theorem dX1_takeFate_5 : decode cX1_takeFate 5 = .ok (.if_icmp .ge 5, 3) := by decide +kernel
theorem dX1_takeFate_8 : decode cX1_takeFate 8 = .ok (.iconst 0, 1) := by decide +kernel
theorem dX1_takeFate_9 : decode cX1_takeFate 9 = .ok (.ireturn, 1) := by decide +kernel
theorem dX1_takeFate_10 : decode cX1_takeFate 10 = .ok (.aload_n 0, 1) := by decide +kernel
theorem dX1_takeFate_11 : decode cX1_takeFate 11 = .ok (.getfield 25, 3) := by decide +kernel
theorem dX1_takeFate_14 : decode cX1_takeFate 14 = .ok (.aload_n 0, 1) := by decide +kernel
theorem dX1_takeFate_15 : decode cX1_takeFate 15 = .ok (.getfield 29, 3) := by decide +kernel
theorem dX1_takeFate_18 : decode cX1_takeFate 18 = .ok (.baload, 1) := by decide +kernel
theorem dX1_takeFate_19 : decode cX1_takeFate 19 = .ok (.istore_n 1, 1) := by decide +kernel
theorem dX1_takeFate_20 : decode cX1_takeFate 20 = .ok (.aload_n 0, 1) := by decide +kernel
theorem dX1_takeFate_21 : decode cX1_takeFate 21 = .ok (.aload_n 0, 1) := by decide +kernel
theorem dX1_takeFate_22 : decode cX1_takeFate 22 = .ok (.getfield 29, 3) := by decide +kernel
theorem dX1_takeFate_25 : decode cX1_takeFate 25 = .ok (.iconst 1, 1) := by decide +kernel
theorem dX1_takeFate_26 : decode cX1_takeFate 26 = .ok (.iadd, 1) := by decide +kernel
theorem dX1_takeFate_27 : decode cX1_takeFate 27 = .ok (.bipush 63, 2) := by decide +kernel
theorem dX1_takeFate_29 : decode cX1_takeFate 29 = .ok (.iand, 1) := by decide +kernel
theorem dX1_takeFate_30 : decode cX1_takeFate 30 = .ok (.putfield 29, 3) := by decide +kernel
theorem dX1_takeFate_33 : decode cX1_takeFate 33 = .ok (.aload_n 0, 1) := by decide +kernel
theorem dX1_takeFate_34 : decode cX1_takeFate 34 = .ok (.dup, 1) := by decide +kernel
theorem dX1_takeFate_35 : decode cX1_takeFate 35 = .ok (.getfield 32, 3) := by decide +kernel
theorem dX1_takeFate_38 : decode cX1_takeFate 38 = .ok (.iconst 1, 1) := by decide +kernel
theorem dX1_takeFate_39 : decode cX1_takeFate 39 = .ok (.isub, 1) := by decide +kernel
theorem dX1_takeFate_40 : decode cX1_takeFate 40 = .ok (.putfield 32, 3) := by decide +kernel
theorem dX1_takeFate_43 : decode cX1_takeFate 43 = .ok (.iload_n 1, 1) := by decide +kernel
theorem dX1_takeFate_44 : decode cX1_takeFate 44 = .ok (.ireturn, 1) := by decide +kernel
theorem dX2_meetFate_0 : decode cX2_meetFate 0 = .ok (.iload_n 1, 1) := by decide +kernel
theorem dX2_meetFate_1 : decode cX2_meetFate 1 = .ok (.tableswitch 67 1 3 #[27, 30, 57], 27) := by decide +kernel
theorem dX2_meetFate_28 : decode cX2_meetFate 28 = .ok (.goto 45, 3) := by decide +kernel
theorem dX2_meetFate_31 : decode cX2_meetFate 31 = .ok (.aload_n 0, 1) := by decide +kernel
theorem dX2_meetFate_32 : decode cX2_meetFate 32 = .ok (.getfield 28, 3) := by decide +kernel
theorem dX2_meetFate_35 : decode cX2_meetFate 35 = .ok (.iconst 2, 1) := by decide +kernel
theorem dX2_meetFate_36 : decode cX2_meetFate 36 = .ok (.iadd, 1) := by decide +kernel
theorem dX2_meetFate_37 : decode cX2_meetFate 37 = .ok (.sipush 512, 3) := by decide +kernel
theorem dX2_meetFate_40 : decode cX2_meetFate 40 = .ok (.if_icmp .gt 33, 3) := by decide +kernel
theorem dX2_meetFate_43 : decode cX2_meetFate 43 = .ok (.aload_n 0, 1) := by decide +kernel
theorem dX2_meetFate_44 : decode cX2_meetFate 44 = .ok (.iload_n 2, 1) := by decide +kernel
theorem dX2_meetFate_45 : decode cX2_meetFate 45 = .ok (.invokevirtual 193, 3) := by decide +kernel
theorem dX2_meetFate_48 : decode cX2_meetFate 48 = .ok (.aload_n 0, 1) := by decide +kernel
theorem dX2_meetFate_49 : decode cX2_meetFate 49 = .ok (.iconst 3, 1) := by decide +kernel
theorem dX2_meetFate_50 : decode cX2_meetFate 50 = .ok (.iload_n 2, 1) := by decide +kernel
theorem dX2_meetFate_51 : decode cX2_meetFate 51 = .ok (.imul, 1) := by decide +kernel
theorem dX2_meetFate_52 : decode cX2_meetFate 52 = .ok (.invokevirtual 193, 3) := by decide +kernel
theorem dX2_meetFate_55 : decode cX2_meetFate 55 = .ok (.goto 18, 3) := by decide +kernel
theorem dX2_meetFate_58 : decode cX2_meetFate 58 = .ok (.aload_n 0, 1) := by decide +kernel
theorem dX2_meetFate_59 : decode cX2_meetFate 59 = .ok (.iconst 4, 1) := by decide +kernel
theorem dX2_meetFate_60 : decode cX2_meetFate 60 = .ok (.iload_n 2, 1) := by decide +kernel
theorem dX2_meetFate_61 : decode cX2_meetFate 61 = .ok (.imul, 1) := by decide +kernel
theorem dX2_meetFate_62 : decode cX2_meetFate 62 = .ok (.invokevirtual 193, 3) := by decide +kernel
theorem dX2_meetFate_65 : decode cX2_meetFate 65 = .ok (.goto 8, 3) := by decide +kernel
theorem dX2_meetFate_68 : decode cX2_meetFate 68 = .ok (.aload_n 0, 1) := by decide +kernel
theorem dX2_meetFate_69 : decode cX2_meetFate 69 = .ok (.iload_n 2, 1) := by decide +kernel
theorem dX2_meetFate_70 : decode cX2_meetFate 70 = .ok (.invokevirtual 193, 3) := by decide +kernel
theorem dX2_meetFate_73 : decode cX2_meetFate 73 = .ok (.return_, 1) := by decide +kernel
theorem dX2_arriveBehind_0 : decode cX2_arriveBehind 0 = .ok (.aload_n 0, 1) := by decide +kernel
theorem dX2_arriveBehind_1 : decode cX2_arriveBehind 1 = .ok (.getfield 28, 3) := by decide +kernel
theorem dX2_arriveBehind_4 : decode cX2_arriveBehind 4 = .ok (.sipush 512, 3) := by decide +kernel
theorem dX2_arriveBehind_7 : decode cX2_arriveBehind 7 = .ok (.if_icmp .lt 4, 3) := by decide +kernel
theorem dX2_arriveBehind_10 : decode cX2_arriveBehind 10 = .ok (.return_, 1) := by decide +kernel
theorem dX2_arriveBehind_11 : decode cX2_arriveBehind 11 = .ok (.aload_n 0, 1) := by decide +kernel
theorem dX2_arriveBehind_12 : decode cX2_arriveBehind 12 = .ok (.getfield 24, 3) := by decide +kernel
theorem dX2_arriveBehind_15 : decode cX2_arriveBehind 15 = .ok (.aload_n 0, 1) := by decide +kernel
theorem dX2_arriveBehind_16 : decode cX2_arriveBehind 16 = .ok (.getfield 28, 3) := by decide +kernel
theorem dX2_arriveBehind_19 : decode cX2_arriveBehind 19 = .ok (.aaload, 1) := by decide +kernel
theorem dX2_arriveBehind_20 : decode cX2_arriveBehind 20 = .ok (.astore_n 2, 1) := by decide +kernel
theorem dX2_arriveBehind_21 : decode cX2_arriveBehind 21 = .ok (.aload_n 2, 1) := by decide +kernel
theorem dX2_arriveBehind_22 : decode cX2_arriveBehind 22 = .ok (.aload_n 0, 1) := by decide +kernel
theorem dX2_arriveBehind_23 : decode cX2_arriveBehind 23 = .ok (.getfield 40, 3) := by decide +kernel
theorem dX2_arriveBehind_26 : decode cX2_arriveBehind 26 = .ok (.invokevirtual 196, 3) := by decide +kernel
theorem dX2_arriveBehind_29 : decode cX2_arriveBehind 29 = .ok (.aload_n 2, 1) := by decide +kernel
theorem dX2_arriveBehind_30 : decode cX2_arriveBehind 30 = .ok (.aload_n 0, 1) := by decide +kernel
theorem dX2_arriveBehind_31 : decode cX2_arriveBehind 31 = .ok (.getfield 19, 3) := by decide +kernel
theorem dX2_arriveBehind_34 : decode cX2_arriveBehind 34 = .ok (.iload_n 1, 1) := by decide +kernel
theorem dX2_arriveBehind_35 : decode cX2_arriveBehind 35 = .ok (.iadd, 1) := by decide +kernel
theorem dX2_arriveBehind_36 : decode cX2_arriveBehind 36 = .ok (.putfield 139, 3) := by decide +kernel
theorem dX2_arriveBehind_39 : decode cX2_arriveBehind 39 = .ok (.aload_n 0, 1) := by decide +kernel
theorem dX2_arriveBehind_40 : decode cX2_arriveBehind 40 = .ok (.getfield 28, 3) := by decide +kernel
theorem dX2_arriveBehind_43 : decode cX2_arriveBehind 43 = .ok (.istore_n 3, 1) := by decide +kernel
theorem dX2_arriveBehind_44 : decode cX2_arriveBehind 44 = .ok (.iload_n 3, 1) := by decide +kernel
theorem dX2_arriveBehind_45 : decode cX2_arriveBehind 45 = .ok (.ifCond .le 41, 3) := by decide +kernel
theorem dX2_arriveBehind_48 : decode cX2_arriveBehind 48 = .ok (.aload_n 0, 1) := by decide +kernel
theorem dX2_arriveBehind_49 : decode cX2_arriveBehind 49 = .ok (.getfield 24, 3) := by decide +kernel
theorem dX2_arriveBehind_52 : decode cX2_arriveBehind 52 = .ok (.iload_n 3, 1) := by decide +kernel
theorem dX2_arriveBehind_53 : decode cX2_arriveBehind 53 = .ok (.iconst 1, 1) := by decide +kernel
theorem dX2_arriveBehind_54 : decode cX2_arriveBehind 54 = .ok (.isub, 1) := by decide +kernel
theorem dX2_arriveBehind_55 : decode cX2_arriveBehind 55 = .ok (.aaload, 1) := by decide +kernel
theorem dX2_arriveBehind_56 : decode cX2_arriveBehind 56 = .ok (.getfield 139, 3) := by decide +kernel
theorem dX2_arriveBehind_59 : decode cX2_arriveBehind 59 = .ok (.aload_n 2, 1) := by decide +kernel
theorem dX2_arriveBehind_60 : decode cX2_arriveBehind 60 = .ok (.getfield 139, 3) := by decide +kernel
theorem dX2_arriveBehind_63 : decode cX2_arriveBehind 63 = .ok (.if_icmp .le 23, 3) := by decide +kernel
theorem dX2_arriveBehind_66 : decode cX2_arriveBehind 66 = .ok (.aload_n 0, 1) := by decide +kernel
theorem dX2_arriveBehind_67 : decode cX2_arriveBehind 67 = .ok (.getfield 24, 3) := by decide +kernel
theorem dX2_arriveBehind_70 : decode cX2_arriveBehind 70 = .ok (.iload_n 3, 1) := by decide +kernel
theorem dX2_arriveBehind_71 : decode cX2_arriveBehind 71 = .ok (.aload_n 0, 1) := by decide +kernel
theorem dX2_arriveBehind_72 : decode cX2_arriveBehind 72 = .ok (.getfield 24, 3) := by decide +kernel
theorem dX2_arriveBehind_75 : decode cX2_arriveBehind 75 = .ok (.iload_n 3, 1) := by decide +kernel
theorem dX2_arriveBehind_76 : decode cX2_arriveBehind 76 = .ok (.iconst 1, 1) := by decide +kernel
theorem dX2_arriveBehind_77 : decode cX2_arriveBehind 77 = .ok (.isub, 1) := by decide +kernel
theorem dX2_arriveBehind_78 : decode cX2_arriveBehind 78 = .ok (.aaload, 1) := by decide +kernel
theorem dX2_arriveBehind_79 : decode cX2_arriveBehind 79 = .ok (.aastore, 1) := by decide +kernel
theorem dX2_arriveBehind_80 : decode cX2_arriveBehind 80 = .ok (.iinc 3 (-1), 3) := by decide +kernel
theorem dX2_arriveBehind_83 : decode cX2_arriveBehind 83 = .ok (.goto (-39), 3) := by decide +kernel
theorem dX2_arriveBehind_86 : decode cX2_arriveBehind 86 = .ok (.aload_n 0, 1) := by decide +kernel
theorem dX2_arriveBehind_87 : decode cX2_arriveBehind 87 = .ok (.getfield 24, 3) := by decide +kernel
theorem dX2_arriveBehind_90 : decode cX2_arriveBehind 90 = .ok (.iload_n 3, 1) := by decide +kernel
theorem dX2_arriveBehind_91 : decode cX2_arriveBehind 91 = .ok (.aload_n 2, 1) := by decide +kernel
theorem dX2_arriveBehind_92 : decode cX2_arriveBehind 92 = .ok (.aastore, 1) := by decide +kernel
theorem dX2_arriveBehind_93 : decode cX2_arriveBehind 93 = .ok (.aload_n 0, 1) := by decide +kernel
theorem dX2_arriveBehind_94 : decode cX2_arriveBehind 94 = .ok (.dup, 1) := by decide +kernel
theorem dX2_arriveBehind_95 : decode cX2_arriveBehind 95 = .ok (.getfield 28, 3) := by decide +kernel
theorem dX2_arriveBehind_98 : decode cX2_arriveBehind 98 = .ok (.iconst 1, 1) := by decide +kernel
theorem dX2_arriveBehind_99 : decode cX2_arriveBehind 99 = .ok (.iadd, 1) := by decide +kernel
theorem dX2_arriveBehind_100 : decode cX2_arriveBehind 100 = .ok (.putfield 28, 3) := by decide +kernel
theorem dX2_arriveBehind_103 : decode cX2_arriveBehind 103 = .ok (.return_, 1) := by decide +kernel
theorem dX0_copyFrom_0 : decode cX0_copyFrom 0 = .ok (.aload_n 0, 1) := by decide +kernel
theorem dX0_copyFrom_1 : decode cX0_copyFrom 1 = .ok (.aload_n 1, 1) := by decide +kernel
theorem dX0_copyFrom_2 : decode cX0_copyFrom 2 = .ok (.getfield 13, 3) := by decide +kernel
theorem dX0_copyFrom_5 : decode cX0_copyFrom 5 = .ok (.putfield 13, 3) := by decide +kernel
theorem dX0_copyFrom_8 : decode cX0_copyFrom 8 = .ok (.aload_n 0, 1) := by decide +kernel
theorem dX0_copyFrom_9 : decode cX0_copyFrom 9 = .ok (.aload_n 1, 1) := by decide +kernel
theorem dX0_copyFrom_10 : decode cX0_copyFrom 10 = .ok (.getfield 16, 3) := by decide +kernel
theorem dX0_copyFrom_13 : decode cX0_copyFrom 13 = .ok (.putfield 16, 3) := by decide +kernel
theorem dX0_copyFrom_16 : decode cX0_copyFrom 16 = .ok (.aload_n 0, 1) := by decide +kernel
theorem dX0_copyFrom_17 : decode cX0_copyFrom 17 = .ok (.aload_n 1, 1) := by decide +kernel
theorem dX0_copyFrom_18 : decode cX0_copyFrom 18 = .ok (.getfield 19, 3) := by decide +kernel
theorem dX0_copyFrom_21 : decode cX0_copyFrom 21 = .ok (.putfield 19, 3) := by decide +kernel
theorem dX0_copyFrom_24 : decode cX0_copyFrom 24 = .ok (.aload_n 0, 1) := by decide +kernel
theorem dX0_copyFrom_25 : decode cX0_copyFrom 25 = .ok (.aload_n 1, 1) := by decide +kernel
theorem dX0_copyFrom_26 : decode cX0_copyFrom 26 = .ok (.getfield 22, 3) := by decide +kernel
theorem dX0_copyFrom_29 : decode cX0_copyFrom 29 = .ok (.putfield 22, 3) := by decide +kernel
theorem dX0_copyFrom_32 : decode cX0_copyFrom 32 = .ok (.aload_n 0, 1) := by decide +kernel
theorem dX0_copyFrom_33 : decode cX0_copyFrom 33 = .ok (.aload_n 1, 1) := by decide +kernel
theorem dX0_copyFrom_34 : decode cX0_copyFrom 34 = .ok (.getfield 25, 3) := by decide +kernel
theorem dX0_copyFrom_37 : decode cX0_copyFrom 37 = .ok (.putfield 25, 3) := by decide +kernel
theorem dX0_copyFrom_40 : decode cX0_copyFrom 40 = .ok (.aload_n 0, 1) := by decide +kernel
theorem dX0_copyFrom_41 : decode cX0_copyFrom 41 = .ok (.aload_n 1, 1) := by decide +kernel
theorem dX0_copyFrom_42 : decode cX0_copyFrom 42 = .ok (.getfield 28, 3) := by decide +kernel
theorem dX0_copyFrom_45 : decode cX0_copyFrom 45 = .ok (.putfield 28, 3) := by decide +kernel
theorem dX0_copyFrom_48 : decode cX0_copyFrom 48 = .ok (.aload_n 0, 1) := by decide +kernel
theorem dX0_copyFrom_49 : decode cX0_copyFrom 49 = .ok (.aload_n 1, 1) := by decide +kernel
theorem dX0_copyFrom_50 : decode cX0_copyFrom 50 = .ok (.getfield 31, 3) := by decide +kernel
theorem dX0_copyFrom_53 : decode cX0_copyFrom 53 = .ok (.putfield 31, 3) := by decide +kernel
theorem dX0_copyFrom_56 : decode cX0_copyFrom 56 = .ok (.aload_n 0, 1) := by decide +kernel
theorem dX0_copyFrom_57 : decode cX0_copyFrom 57 = .ok (.aload_n 1, 1) := by decide +kernel
theorem dX0_copyFrom_58 : decode cX0_copyFrom 58 = .ok (.getfield 34, 3) := by decide +kernel
theorem dX0_copyFrom_61 : decode cX0_copyFrom 61 = .ok (.putfield 34, 3) := by decide +kernel
theorem dX0_copyFrom_64 : decode cX0_copyFrom 64 = .ok (.return_, 1) := by decide +kernel
theorem dX1_pieceSize_0 : decode cX1_pieceSize 0 = .ok (.aload_n 0, 1) := by decide +kernel
theorem dX1_pieceSize_1 : decode cX1_pieceSize 1 = .ok (.getfield 9, 3) := by decide +kernel
theorem dX1_pieceSize_4 : decode cX1_pieceSize 4 = .ok (.bipush 20, 2) := by decide +kernel
theorem dX1_pieceSize_6 : decode cX1_pieceSize 6 = .ok (.isub, 1) := by decide +kernel
theorem dX1_pieceSize_7 : decode cX1_pieceSize 7 = .ok (.bipush (-8), 2) := by decide +kernel
theorem dX1_pieceSize_9 : decode cX1_pieceSize 9 = .ok (.iand, 1) := by decide +kernel
theorem dX1_pieceSize_10 : decode cX1_pieceSize 10 = .ok (.ireturn, 1) := by decide +kernel
theorem dX2_countPieces_0 : decode cX2_countPieces 0 = .ok (.iload_n 1, 1) := by decide +kernel
theorem dX2_countPieces_1 : decode cX2_countPieces 1 = .ok (.iconst 1, 1) := by decide +kernel
theorem dX2_countPieces_2 : decode cX2_countPieces 2 = .ok (.if_icmp .ge 7, 3) := by decide +kernel
theorem dX2_countPieces_5 : decode cX2_countPieces 5 = .ok (.iconst 0, 1) := by decide +kernel
theorem dX2_countPieces_6 : decode cX2_countPieces 6 = .ok (.goto 10, 3) := by decide +kernel
theorem dX2_countPieces_9 : decode cX2_countPieces 9 = .ok (.iload_n 0, 1) := by decide +kernel
theorem dX2_countPieces_10 : decode cX2_countPieces 10 = .ok (.iload_n 1, 1) := by decide +kernel
theorem dX2_countPieces_11 : decode cX2_countPieces 11 = .ok (.iadd, 1) := by decide +kernel
theorem dX2_countPieces_12 : decode cX2_countPieces 12 = .ok (.iconst 1, 1) := by decide +kernel
theorem dX2_countPieces_13 : decode cX2_countPieces 13 = .ok (.isub, 1) := by decide +kernel
theorem dX2_countPieces_14 : decode cX2_countPieces 14 = .ok (.iload_n 1, 1) := by decide +kernel
theorem dX2_countPieces_15 : decode cX2_countPieces 15 = .ok (.idiv, 1) := by decide +kernel
theorem dX2_countPieces_16 : decode cX2_countPieces 16 = .ok (.ireturn, 1) := by decide +kernel
theorem dX2_pass_0 : decode cX2_pass 0 = .ok (.iload_n 1, 1) := by decide +kernel
theorem dX2_pass_1 : decode cX2_pass 1 = .ok (.ifCond .lt 10, 3) := by decide +kernel
theorem dX2_pass_4 : decode cX2_pass 4 = .ok (.iload_n 1, 1) := by decide +kernel
theorem dX2_pass_5 : decode cX2_pass 5 = .ok (.sipush 1000, 3) := by decide +kernel
theorem dX2_pass_8 : decode cX2_pass 8 = .ok (.if_icmp .le 13, 3) := by decide +kernel
theorem dX2_pass_11 : decode cX2_pass 11 = .ok (.new 54, 3) := by decide +kernel
theorem dX2_pass_14 : decode cX2_pass 14 = .ok (.dup, 1) := by decide +kernel
theorem dX2_pass_15 : decode cX2_pass 15 = .ok (.ldc 130, 2) := by decide +kernel
theorem dX2_pass_17 : decode cX2_pass 17 = .ok (.invokespecial 58, 3) := by decide +kernel
theorem dX2_pass_20 : decode cX2_pass 20 = .ok (.athrow, 1) := by decide +kernel
theorem dX2_pass_21 : decode cX2_pass 21 = .ok (.aload_n 0, 1) := by decide +kernel
theorem dX2_pass_22 : decode cX2_pass 22 = .ok (.getfield 19, 3) := by decide +kernel
theorem dX2_pass_25 : decode cX2_pass 25 = .ok (.iload_n 1, 1) := by decide +kernel
theorem dX2_pass_26 : decode cX2_pass 26 = .ok (.iadd, 1) := by decide +kernel
theorem dX2_pass_27 : decode cX2_pass 27 = .ok (.ldc 132, 2) := by decide +kernel
theorem dX2_pass_29 : decode cX2_pass 29 = .ok (.if_icmp .le 13, 3) := by decide +kernel
theorem dX2_pass_32 : decode cX2_pass 32 = .ok (.new 63, 3) := by decide +kernel
theorem dX2_pass_35 : decode cX2_pass 35 = .ok (.dup, 1) := by decide +kernel
theorem dX2_pass_36 : decode cX2_pass 36 = .ok (.ldc 133, 2) := by decide +kernel
theorem dX2_pass_38 : decode cX2_pass 38 = .ok (.invokespecial 67, 3) := by decide +kernel
theorem dX2_pass_41 : decode cX2_pass 41 = .ok (.athrow, 1) := by decide +kernel
theorem dX2_pass_42 : decode cX2_pass 42 = .ok (.aload_n 0, 1) := by decide +kernel
theorem dX2_pass_43 : decode cX2_pass 43 = .ok (.dup, 1) := by decide +kernel
theorem dX2_pass_44 : decode cX2_pass 44 = .ok (.getfield 19, 3) := by decide +kernel
theorem dX2_pass_47 : decode cX2_pass 47 = .ok (.iload_n 1, 1) := by decide +kernel
theorem dX2_pass_48 : decode cX2_pass 48 = .ok (.iadd, 1) := by decide +kernel
theorem dX2_pass_49 : decode cX2_pass 49 = .ok (.putfield 19, 3) := by decide +kernel
theorem dX2_pass_52 : decode cX2_pass 52 = .ok (.aload_n 0, 1) := by decide +kernel
theorem dX2_pass_53 : decode cX2_pass 53 = .ok (.invokevirtual 135, 3) := by decide +kernel
theorem dX2_pass_56 : decode cX2_pass 56 = .ok (.ireturn, 1) := by decide +kernel
theorem dX2_countDue_0 : decode cX2_countDue 0 = .ok (.iconst 0, 1) := by decide +kernel
theorem dX2_countDue_1 : decode cX2_countDue 1 = .ok (.istore_n 1, 1) := by decide +kernel
theorem dX2_countDue_2 : decode cX2_countDue 2 = .ok (.iload_n 1, 1) := by decide +kernel
theorem dX2_countDue_3 : decode cX2_countDue 3 = .ok (.aload_n 0, 1) := by decide +kernel
theorem dX2_countDue_4 : decode cX2_countDue 4 = .ok (.getfield 28, 3) := by decide +kernel
theorem dX2_countDue_7 : decode cX2_countDue 7 = .ok (.if_icmp .ge 25, 3) := by decide +kernel
theorem dX2_countDue_10 : decode cX2_countDue 10 = .ok (.aload_n 0, 1) := by decide +kernel
theorem dX2_countDue_11 : decode cX2_countDue 11 = .ok (.getfield 24, 3) := by decide +kernel
theorem dX2_countDue_14 : decode cX2_countDue 14 = .ok (.iload_n 1, 1) := by decide +kernel
theorem dX2_countDue_15 : decode cX2_countDue 15 = .ok (.aaload, 1) := by decide +kernel
theorem dX2_countDue_16 : decode cX2_countDue 16 = .ok (.getfield 139, 3) := by decide +kernel
theorem dX2_countDue_19 : decode cX2_countDue 19 = .ok (.aload_n 0, 1) := by decide +kernel
theorem dX2_countDue_20 : decode cX2_countDue 20 = .ok (.getfield 19, 3) := by decide +kernel
theorem dX2_countDue_23 : decode cX2_countDue 23 = .ok (.if_icmp .gt 9, 3) := by decide +kernel
theorem dX2_countDue_26 : decode cX2_countDue 26 = .ok (.iinc 1 1, 3) := by decide +kernel
theorem dX2_countDue_29 : decode cX2_countDue 29 = .ok (.goto (-27), 3) := by decide +kernel
theorem dX2_countDue_32 : decode cX2_countDue 32 = .ok (.iload_n 1, 1) := by decide +kernel
theorem dX2_countDue_33 : decode cX2_countDue 33 = .ok (.ireturn, 1) := by decide +kernel
theorem dX2_arrival_0 : decode cX2_arrival 0 = .ok (.iload_n 1, 1) := by decide +kernel
theorem dX2_arrival_1 : decode cX2_arrival 1 = .ok (.ifCond .lt 9, 3) := by decide +kernel
theorem dX2_arrival_4 : decode cX2_arrival 4 = .ok (.iload_n 1, 1) := by decide +kernel
theorem dX2_arrival_5 : decode cX2_arrival 5 = .ok (.bipush 6, 2) := by decide +kernel
theorem dX2_arrival_7 : decode cX2_arrival 7 = .ok (.if_icmp .le 13, 3) := by decide +kernel
theorem dX2_arrival_10 : decode cX2_arrival 10 = .ok (.new 54, 3) := by decide +kernel
theorem dX2_arrival_13 : decode cX2_arrival 13 = .ok (.dup, 1) := by decide +kernel
theorem dX2_arrival_14 : decode cX2_arrival 14 = .ok (.ldc 142, 2) := by decide +kernel
theorem dX2_arrival_16 : decode cX2_arrival 16 = .ok (.invokespecial 58, 3) := by decide +kernel
theorem dX2_arrival_19 : decode cX2_arrival 19 = .ok (.athrow, 1) := by decide +kernel
theorem dX2_arrival_20 : decode cX2_arrival 20 = .ok (.aload_n 0, 1) := by decide +kernel
theorem dX2_arrival_21 : decode cX2_arrival 21 = .ok (.getfield 36, 3) := by decide +kernel
theorem dX2_arrival_24 : decode cX2_arrival 24 = .ok (.ifCond .ne 13, 3) := by decide +kernel
theorem dX2_arrival_27 : decode cX2_arrival 27 = .ok (.new 63, 3) := by decide +kernel
theorem dX2_arrival_30 : decode cX2_arrival 30 = .ok (.dup, 1) := by decide +kernel
theorem dX2_arrival_31 : decode cX2_arrival 31 = .ok (.ldc 144, 2) := by decide +kernel
theorem dX2_arrival_33 : decode cX2_arrival 33 = .ok (.invokespecial 67, 3) := by decide +kernel
theorem dX2_arrival_36 : decode cX2_arrival 36 = .ok (.athrow, 1) := by decide +kernel
theorem dX2_arrival_37 : decode cX2_arrival 37 = .ok (.iload_n 1, 1) := by decide +kernel
theorem dX2_arrival_38 : decode cX2_arrival 38 = .ok (.tableswitch 86 0 5 #[38, 46, 54, 62, 70, 78], 38) := by decide +kernel
theorem dX2_arrival_76 : decode cX2_arrival 76 = .ok (.aload_n 0, 1) := by decide +kernel
theorem dX2_arrival_77 : decode cX2_arrival 77 = .ok (.getfield 32, 3) := by decide +kernel
theorem dX2_arrival_80 : decode cX2_arrival 80 = .ok (.getfield 111, 3) := by decide +kernel
theorem dX2_arrival_83 : decode cX2_arrival 83 = .ok (.ireturn, 1) := by decide +kernel
theorem dX2_arrival_84 : decode cX2_arrival 84 = .ok (.aload_n 0, 1) := by decide +kernel
theorem dX2_arrival_85 : decode cX2_arrival 85 = .ok (.getfield 32, 3) := by decide +kernel
theorem dX2_arrival_88 : decode cX2_arrival 88 = .ok (.getfield 114, 3) := by decide +kernel
theorem dX2_arrival_91 : decode cX2_arrival 91 = .ok (.ireturn, 1) := by decide +kernel
theorem dX2_arrival_92 : decode cX2_arrival 92 = .ok (.aload_n 0, 1) := by decide +kernel
theorem dX2_arrival_93 : decode cX2_arrival 93 = .ok (.getfield 32, 3) := by decide +kernel
theorem dX2_arrival_96 : decode cX2_arrival 96 = .ok (.getfield 117, 3) := by decide +kernel
theorem dX2_arrival_99 : decode cX2_arrival 99 = .ok (.ireturn, 1) := by decide +kernel
theorem dX2_arrival_100 : decode cX2_arrival 100 = .ok (.aload_n 0, 1) := by decide +kernel
theorem dX2_arrival_101 : decode cX2_arrival 101 = .ok (.getfield 32, 3) := by decide +kernel
theorem dX2_arrival_104 : decode cX2_arrival 104 = .ok (.getfield 120, 3) := by decide +kernel
theorem dX2_arrival_107 : decode cX2_arrival 107 = .ok (.ireturn, 1) := by decide +kernel
theorem dX2_arrival_108 : decode cX2_arrival 108 = .ok (.aload_n 0, 1) := by decide +kernel
theorem dX2_arrival_109 : decode cX2_arrival 109 = .ok (.getfield 32, 3) := by decide +kernel
theorem dX2_arrival_112 : decode cX2_arrival 112 = .ok (.getfield 146, 3) := by decide +kernel
theorem dX2_arrival_115 : decode cX2_arrival 115 = .ok (.ireturn, 1) := by decide +kernel
theorem dX2_arrival_116 : decode cX2_arrival 116 = .ok (.aload_n 0, 1) := by decide +kernel
theorem dX2_arrival_117 : decode cX2_arrival 117 = .ok (.getfield 32, 3) := by decide +kernel
theorem dX2_arrival_120 : decode cX2_arrival 120 = .ok (.getfield 123, 3) := by decide +kernel
theorem dX2_arrival_123 : decode cX2_arrival 123 = .ok (.ireturn, 1) := by decide +kernel
theorem dX2_arrival_124 : decode cX2_arrival 124 = .ok (.aload_n 0, 1) := by decide +kernel
theorem dX2_arrival_125 : decode cX2_arrival 125 = .ok (.getfield 32, 3) := by decide +kernel
theorem dX2_arrival_128 : decode cX2_arrival 128 = .ok (.getfield 149, 3) := by decide +kernel
theorem dX2_arrival_131 : decode cX2_arrival 131 = .ok (.ireturn, 1) := by decide +kernel
theorem dX2_byteAt_0 : decode cX2_byteAt 0 = .ok (.aload_n 0, 1) := by decide +kernel
theorem dX2_byteAt_1 : decode cX2_byteAt 1 = .ok (.getfield 36, 3) := by decide +kernel
theorem dX2_byteAt_4 : decode cX2_byteAt 4 = .ok (.ifCond .ne 13, 3) := by decide +kernel
theorem dX2_byteAt_7 : decode cX2_byteAt 7 = .ok (.new 63, 3) := by decide +kernel
theorem dX2_byteAt_10 : decode cX2_byteAt 10 = .ok (.dup, 1) := by decide +kernel
theorem dX2_byteAt_11 : decode cX2_byteAt 11 = .ok (.ldc 144, 2) := by decide +kernel
theorem dX2_byteAt_13 : decode cX2_byteAt 13 = .ok (.invokespecial 67, 3) := by decide +kernel
theorem dX2_byteAt_16 : decode cX2_byteAt 16 = .ok (.athrow, 1) := by decide +kernel
theorem dX2_byteAt_17 : decode cX2_byteAt 17 = .ok (.iload_n 1, 1) := by decide +kernel
theorem dX2_byteAt_18 : decode cX2_byteAt 18 = .ok (.ifCond .lt 14, 3) := by decide +kernel
theorem dX2_byteAt_21 : decode cX2_byteAt 21 = .ok (.iload_n 1, 1) := by decide +kernel
theorem dX2_byteAt_22 : decode cX2_byteAt 22 = .ok (.aload_n 0, 1) := by decide +kernel
theorem dX2_byteAt_23 : decode cX2_byteAt 23 = .ok (.getfield 32, 3) := by decide +kernel
theorem dX2_byteAt_26 : decode cX2_byteAt 26 = .ok (.getfield 149, 3) := by decide +kernel
theorem dX2_byteAt_29 : decode cX2_byteAt 29 = .ok (.if_icmp .lt 13, 3) := by decide +kernel
theorem dX2_byteAt_32 : decode cX2_byteAt 32 = .ok (.new 152, 3) := by decide +kernel
theorem dX2_byteAt_35 : decode cX2_byteAt 35 = .ok (.dup, 1) := by decide +kernel
theorem dX2_byteAt_36 : decode cX2_byteAt 36 = .ok (.ldc 154, 2) := by decide +kernel
theorem dX2_byteAt_38 : decode cX2_byteAt 38 = .ok (.invokespecial 156, 3) := by decide +kernel
theorem dX2_byteAt_41 : decode cX2_byteAt 41 = .ok (.athrow, 1) := by decide +kernel
theorem dX2_byteAt_42 : decode cX2_byteAt 42 = .ok (.aload_n 0, 1) := by decide +kernel
theorem dX2_byteAt_43 : decode cX2_byteAt 43 = .ok (.getfield 43, 3) := by decide +kernel
theorem dX2_byteAt_46 : decode cX2_byteAt 46 = .ok (.aload_n 0, 1) := by decide +kernel
theorem dX2_byteAt_47 : decode cX2_byteAt 47 = .ok (.getfield 32, 3) := by decide +kernel
theorem dX2_byteAt_50 : decode cX2_byteAt 50 = .ok (.getfield 157, 3) := by decide +kernel
theorem dX2_byteAt_53 : decode cX2_byteAt 53 = .ok (.iload_n 1, 1) := by decide +kernel
theorem dX2_byteAt_54 : decode cX2_byteAt 54 = .ok (.iadd, 1) := by decide +kernel
theorem dX2_byteAt_55 : decode cX2_byteAt 55 = .ok (.invokestatic 98, 3) := by decide +kernel
theorem dX2_byteAt_58 : decode cX2_byteAt 58 = .ok (.baload, 1) := by decide +kernel
theorem dX2_byteAt_59 : decode cX2_byteAt 59 = .ok (.sipush 255, 3) := by decide +kernel
theorem dX2_byteAt_62 : decode cX2_byteAt 62 = .ok (.iand, 1) := by decide +kernel
theorem dX2_byteAt_63 : decode cX2_byteAt 63 = .ok (.ireturn, 1) := by decide +kernel
theorem dX2_fated_0 : decode cX2_fated 0 = .ok (.aload_n 0, 1) := by decide +kernel
theorem dX2_fated_1 : decode cX2_fated 1 = .ok (.iload_n 1, 1) := by decide +kernel
theorem dX2_fated_2 : decode cX2_fated 2 = .ok (.invokevirtual 72, 3) := by decide +kernel
theorem dX2_fated_5 : decode cX2_fated 5 = .ok (.getfield 85, 3) := by decide +kernel
theorem dX2_fated_8 : decode cX2_fated 8 = .ok (.ireturn, 1) := by decide +kernel
theorem dX2_puts_0 : decode cX2_puts 0 = .ok (.aload_n 0, 1) := by decide +kernel
theorem dX2_puts_1 : decode cX2_puts 1 = .ok (.iload_n 1, 1) := by decide +kernel
theorem dX2_puts_2 : decode cX2_puts 2 = .ok (.invokevirtual 72, 3) := by decide +kernel
theorem dX2_puts_5 : decode cX2_puts 5 = .ok (.getfield 160, 3) := by decide +kernel
theorem dX2_puts_8 : decode cX2_puts 8 = .ok (.ireturn, 1) := by decide +kernel
