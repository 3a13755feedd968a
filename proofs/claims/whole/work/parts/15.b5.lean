theorem d_500_0 : decode (mB 500) 0 = .ok (.aload_n 0, 1) := by decide +kernel
theorem d_500_1 : decode (mB 500) 1 = .ok (.iconst 0, 1) := by decide +kernel
theorem d_500_2 : decode (mB 500) 2 = .ok (.putfield 19, 3) := by decide +kernel
theorem d_500_5 : decode (mB 500) 5 = .ok (.aload_n 0, 1) := by decide +kernel
theorem d_500_6 : decode (mB 500) 6 = .ok (.iconst (-1), 1) := by decide +kernel
theorem d_500_7 : decode (mB 500) 7 = .ok (.putfield 15, 3) := by decide +kernel
theorem d_500_10 : decode (mB 500) 10 = .ok (.aload_n 0, 1) := by decide +kernel
theorem d_500_11 : decode (mB 500) 11 = .ok (.iconst 0, 1) := by decide +kernel
theorem d_500_12 : decode (mB 500) 12 = .ok (.putfield 22, 3) := by decide +kernel
theorem d_500_15 : decode (mB 500) 15 = .ok (.aload_n 0, 1) := by decide +kernel
theorem d_500_16 : decode (mB 500) 16 = .ok (.iconst 0, 1) := by decide +kernel
theorem d_500_17 : decode (mB 500) 17 = .ok (.putfield 25, 3) := by decide +kernel
theorem d_500_20 : decode (mB 500) 20 = .ok (.aload_n 0, 1) := by decide +kernel
theorem d_500_21 : decode (mB 500) 21 = .ok (.iconst 0, 1) := by decide +kernel
theorem d_500_22 : decode (mB 500) 22 = .ok (.putfield 28, 3) := by decide +kernel
theorem d_500_25 : decode (mB 500) 25 = .ok (.aload_n 1, 1) := by decide +kernel
theorem d_500_26 : decode (mB 500) 26 = .ok (.invokevirtual 31, 3) := by decide +kernel
theorem d_500_29 : decode (mB 500) 29 = .ok (.iconst 0, 1) := by decide +kernel
theorem d_500_30 : decode (mB 500) 30 = .ok (.istore_n 2, 1) := by decide +kernel
theorem d_500_31 : decode (mB 500) 31 = .ok (.iload_n 2, 1) := by decide +kernel
theorem d_500_32 : decode (mB 500) 32 = .ok (.sipush 300, 3) := by decide +kernel
theorem d_500_35 : decode (mB 500) 35 = .ok (.if_icmp .gt 44, 3) := by decide +kernel
theorem d_500_38 : decode (mB 500) 38 = .ok (.aload_n 0, 1) := by decide +kernel
theorem d_500_39 : decode (mB 500) 39 = .ok (.getfield 19, 3) := by decide +kernel
theorem d_500_42 : decode (mB 500) 42 = .ok (.ifCond .ne 37, 3) := by decide +kernel
theorem d_500_45 : decode (mB 500) 45 = .ok (.aload_n 0, 1) := by decide +kernel
theorem d_500_46 : decode (mB 500) 46 = .ok (.invokevirtual 36, 3) := by decide +kernel
theorem d_500_49 : decode (mB 500) 49 = .ok (.aload_n 0, 1) := by decide +kernel
theorem d_500_50 : decode (mB 500) 50 = .ok (.aload_n 0, 1) := by decide +kernel
theorem d_500_51 : decode (mB 500) 51 = .ok (.getfield 22, 3) := by decide +kernel
theorem d_500_54 : decode (mB 500) 54 = .ok (.invokevirtual 39, 3) := by decide +kernel
theorem d_500_57 : decode (mB 500) 57 = .ok (.iconst (-1), 1) := by decide +kernel
theorem d_500_58 : decode (mB 500) 58 = .ok (.if_icmp .ne 6, 3) := by decide +kernel
theorem d_500_61 : decode (mB 500) 61 = .ok (.goto 18, 3) := by decide +kernel
theorem d_500_64 : decode (mB 500) 64 = .ok (.aload_n 0, 1) := by decide +kernel
theorem d_500_65 : decode (mB 500) 65 = .ok (.aload_n 1, 1) := by decide +kernel
theorem d_500_66 : decode (mB 500) 66 = .ok (.invokevirtual 43, 3) := by decide +kernel
theorem d_500_69 : decode (mB 500) 69 = .ok (.aload_n 0, 1) := by decide +kernel
theorem d_500_70 : decode (mB 500) 70 = .ok (.invokevirtual 47, 3) := by decide +kernel
theorem d_500_73 : decode (mB 500) 73 = .ok (.iinc 2 1, 3) := by decide +kernel
theorem d_500_76 : decode (mB 500) 76 = .ok (.goto (-45), 3) := by decide +kernel
theorem d_500_79 : decode (mB 500) 79 = .ok (.aload_n 0, 1) := by decide +kernel
theorem d_500_80 : decode (mB 500) 80 = .ok (.iconst 0, 1) := by decide +kernel
theorem d_500_81 : decode (mB 500) 81 = .ok (.putfield 50, 3) := by decide +kernel
theorem d_500_84 : decode (mB 500) 84 = .ok (.aload_n 0, 1) := by decide +kernel
theorem d_500_85 : decode (mB 500) 85 = .ok (.getfield 19, 3) := by decide +kernel
theorem d_500_88 : decode (mB 500) 88 = .ok (.ifCond .ne 7, 3) := by decide +kernel
theorem d_500_91 : decode (mB 500) 91 = .ok (.iconst 1, 1) := by decide +kernel
theorem d_500_92 : decode (mB 500) 92 = .ok (.goto 4, 3) := by decide +kernel
theorem d_500_95 : decode (mB 500) 95 = .ok (.iconst 0, 1) := by decide +kernel
theorem d_500_96 : decode (mB 500) 96 = .ok (.ireturn, 1) := by decide +kernel
theorem d_516_0 : decode (mB 516) 0 = .ok (.aload_n 0, 1) := by decide +kernel
theorem d_516_1 : decode (mB 516) 1 = .ok (.getfield 22, 3) := by decide +kernel
theorem d_516_4 : decode (mB 516) 4 = .ok (.aload_n 0, 1) := by decide +kernel
theorem d_516_5 : decode (mB 516) 5 = .ok (.getfield 50, 3) := by decide +kernel
theorem d_516_8 : decode (mB 516) 8 = .ok (.if_icmp .ge 29, 3) := by decide +kernel
theorem d_516_11 : decode (mB 516) 11 = .ok (.aload_n 0, 1) := by decide +kernel
theorem d_516_12 : decode (mB 516) 12 = .ok (.aload_n 0, 1) := by decide +kernel
theorem d_516_13 : decode (mB 516) 13 = .ok (.getfield 22, 3) := by decide +kernel
theorem d_516_16 : decode (mB 516) 16 = .ok (.invokevirtual 39, 3) := by decide +kernel
theorem d_516_19 : decode (mB 516) 19 = .ok (.bipush 32, 2) := by decide +kernel
theorem d_516_21 : decode (mB 516) 21 = .ok (.if_icmp .ne 16, 3) := by decide +kernel
theorem d_516_24 : decode (mB 516) 24 = .ok (.aload_n 0, 1) := by decide +kernel
theorem d_516_25 : decode (mB 516) 25 = .ok (.dup, 1) := by decide +kernel
theorem d_516_26 : decode (mB 516) 26 = .ok (.getfield 22, 3) := by decide +kernel
theorem d_516_29 : decode (mB 516) 29 = .ok (.iconst 1, 1) := by decide +kernel
theorem d_516_30 : decode (mB 516) 30 = .ok (.iadd, 1) := by decide +kernel
theorem d_516_31 : decode (mB 516) 31 = .ok (.putfield 22, 3) := by decide +kernel
theorem d_516_34 : decode (mB 516) 34 = .ok (.goto (-34), 3) := by decide +kernel
theorem d_516_37 : decode (mB 516) 37 = .ok (.aload_n 0, 1) := by decide +kernel
theorem d_516_38 : decode (mB 516) 38 = .ok (.aload_n 0, 1) := by decide +kernel
theorem d_516_39 : decode (mB 516) 39 = .ok (.getfield 22, 3) := by decide +kernel
theorem d_516_42 : decode (mB 516) 42 = .ok (.putfield 165, 3) := by decide +kernel
theorem d_516_45 : decode (mB 516) 45 = .ok (.return_, 1) := by decide +kernel
theorem d_519_0 : decode (mB 519) 0 = .ok (.iload_n 1, 1) := by decide +kernel
theorem d_519_1 : decode (mB 519) 1 = .ok (.ifCond .lt 27, 3) := by decide +kernel
theorem d_519_4 : decode (mB 519) 4 = .ok (.iload_n 1, 1) := by decide +kernel
theorem d_519_5 : decode (mB 519) 5 = .ok (.aload_n 0, 1) := by decide +kernel
theorem d_519_6 : decode (mB 519) 6 = .ok (.getfield 50, 3) := by decide +kernel
theorem d_519_9 : decode (mB 519) 9 = .ok (.if_icmp .ge 19, 3) := by decide +kernel
theorem d_519_12 : decode (mB 519) 12 = .ok (.iload_n 1, 1) := by decide +kernel
theorem d_519_13 : decode (mB 519) 13 = .ok (.sipush 300, 3) := by decide +kernel
theorem d_519_16 : decode (mB 519) 16 = .ok (.if_icmp .ge 12, 3) := by decide +kernel
theorem d_519_19 : decode (mB 519) 19 = .ok (.aload_n 0, 1) := by decide +kernel
theorem d_519_20 : decode (mB 519) 20 = .ok (.getfield 9, 3) := by decide +kernel
theorem d_519_23 : decode (mB 519) 23 = .ok (.iload_n 1, 1) := by decide +kernel
theorem d_519_24 : decode (mB 519) 24 = .ok (.iaload, 1) := by decide +kernel
theorem d_519_25 : decode (mB 519) 25 = .ok (.goto 4, 3) := by decide +kernel
theorem d_519_28 : decode (mB 519) 28 = .ok (.iconst (-1), 1) := by decide +kernel
theorem d_519_29 : decode (mB 519) 29 = .ok (.ireturn, 1) := by decide +kernel
theorem d_501_0 : decode (mB 501) 0 = .ok (.aload_n 0, 1) := by decide +kernel
theorem d_501_1 : decode (mB 501) 1 = .ok (.invokevirtual 53, 3) := by decide +kernel
theorem d_501_4 : decode (mB 501) 4 = .ok (.istore_n 2, 1) := by decide +kernel
theorem d_501_5 : decode (mB 501) 5 = .ok (.aload_n 0, 1) := by decide +kernel
theorem d_501_6 : decode (mB 501) 6 = .ok (.ldc 57, 2) := by decide +kernel
theorem d_501_8 : decode (mB 501) 8 = .ok (.iload_n 2, 1) := by decide +kernel
theorem d_501_9 : decode (mB 501) 9 = .ok (.invokevirtual 59, 3) := by decide +kernel
theorem d_501_12 : decode (mB 501) 12 = .ok (.ifCond .eq 11, 3) := by decide +kernel
theorem d_501_15 : decode (mB 501) 15 = .ok (.aload_n 0, 1) := by decide +kernel
theorem d_501_16 : decode (mB 501) 16 = .ok (.aload_n 1, 1) := by decide +kernel
theorem d_501_17 : decode (mB 501) 17 = .ok (.invokevirtual 63, 3) := by decide +kernel
theorem d_501_20 : decode (mB 501) 20 = .ok (.goto 116, 3) := by decide +kernel
theorem d_501_23 : decode (mB 501) 23 = .ok (.aload_n 0, 1) := by decide +kernel
theorem d_501_24 : decode (mB 501) 24 = .ok (.ldc 66, 2) := by decide +kernel
theorem d_501_26 : decode (mB 501) 26 = .ok (.iload_n 2, 1) := by decide +kernel
theorem d_501_27 : decode (mB 501) 27 = .ok (.invokevirtual 59, 3) := by decide +kernel
theorem d_501_30 : decode (mB 501) 30 = .ok (.ifCond .eq 11, 3) := by decide +kernel
theorem d_501_33 : decode (mB 501) 33 = .ok (.aload_n 0, 1) := by decide +kernel
theorem d_501_34 : decode (mB 501) 34 = .ok (.aload_n 1, 1) := by decide +kernel
theorem d_501_35 : decode (mB 501) 35 = .ok (.invokevirtual 68, 3) := by decide +kernel
theorem d_501_38 : decode (mB 501) 38 = .ok (.goto 98, 3) := by decide +kernel
theorem d_501_41 : decode (mB 501) 41 = .ok (.aload_n 0, 1) := by decide +kernel
theorem d_501_42 : decode (mB 501) 42 = .ok (.ldc 71, 2) := by decide +kernel
theorem d_501_44 : decode (mB 501) 44 = .ok (.iload_n 2, 1) := by decide +kernel
theorem d_501_45 : decode (mB 501) 45 = .ok (.invokevirtual 59, 3) := by decide +kernel
theorem d_501_48 : decode (mB 501) 48 = .ok (.ifCond .eq 11, 3) := by decide +kernel
theorem d_501_51 : decode (mB 501) 51 = .ok (.aload_n 0, 1) := by decide +kernel
theorem d_501_52 : decode (mB 501) 52 = .ok (.aload_n 1, 1) := by decide +kernel
theorem d_501_53 : decode (mB 501) 53 = .ok (.invokevirtual 73, 3) := by decide +kernel
theorem d_501_56 : decode (mB 501) 56 = .ok (.goto 80, 3) := by decide +kernel
theorem d_501_59 : decode (mB 501) 59 = .ok (.aload_n 0, 1) := by decide +kernel
theorem d_501_60 : decode (mB 501) 60 = .ok (.ldc 76, 2) := by decide +kernel
theorem d_501_62 : decode (mB 501) 62 = .ok (.iload_n 2, 1) := by decide +kernel
theorem d_501_63 : decode (mB 501) 63 = .ok (.invokevirtual 59, 3) := by decide +kernel
theorem d_501_66 : decode (mB 501) 66 = .ok (.ifCond .eq 11, 3) := by decide +kernel
theorem d_501_69 : decode (mB 501) 69 = .ok (.aload_n 0, 1) := by decide +kernel
theorem d_501_70 : decode (mB 501) 70 = .ok (.aload_n 1, 1) := by decide +kernel
theorem d_501_71 : decode (mB 501) 71 = .ok (.invokevirtual 78, 3) := by decide +kernel
theorem d_501_74 : decode (mB 501) 74 = .ok (.goto 62, 3) := by decide +kernel
theorem d_501_77 : decode (mB 501) 77 = .ok (.aload_n 0, 1) := by decide +kernel
theorem d_501_78 : decode (mB 501) 78 = .ok (.ldc 81, 2) := by decide +kernel
theorem d_501_80 : decode (mB 501) 80 = .ok (.iload_n 2, 1) := by decide +kernel
theorem d_501_81 : decode (mB 501) 81 = .ok (.invokevirtual 59, 3) := by decide +kernel
theorem d_501_84 : decode (mB 501) 84 = .ok (.ifCond .eq 11, 3) := by decide +kernel
theorem d_501_87 : decode (mB 501) 87 = .ok (.aload_n 0, 1) := by decide +kernel
theorem d_501_88 : decode (mB 501) 88 = .ok (.aload_n 1, 1) := by decide +kernel
theorem d_501_89 : decode (mB 501) 89 = .ok (.invokevirtual 83, 3) := by decide +kernel
theorem d_501_92 : decode (mB 501) 92 = .ok (.goto 44, 3) := by decide +kernel
theorem d_501_95 : decode (mB 501) 95 = .ok (.aload_n 0, 1) := by decide +kernel
theorem d_501_96 : decode (mB 501) 96 = .ok (.ldc 86, 2) := by decide +kernel
theorem d_501_98 : decode (mB 501) 98 = .ok (.iload_n 2, 1) := by decide +kernel
theorem d_501_99 : decode (mB 501) 99 = .ok (.invokevirtual 59, 3) := by decide +kernel
theorem d_501_102 : decode (mB 501) 102 = .ok (.ifCond .eq 11, 3) := by decide +kernel
theorem d_501_105 : decode (mB 501) 105 = .ok (.aload_n 0, 1) := by decide +kernel
theorem d_501_106 : decode (mB 501) 106 = .ok (.aload_n 1, 1) := by decide +kernel
theorem d_501_107 : decode (mB 501) 107 = .ok (.invokevirtual 88, 3) := by decide +kernel
theorem d_501_110 : decode (mB 501) 110 = .ok (.goto 26, 3) := by decide +kernel
theorem d_501_113 : decode (mB 501) 113 = .ok (.aload_n 0, 1) := by decide +kernel
theorem d_501_114 : decode (mB 501) 114 = .ok (.ldc 91, 2) := by decide +kernel
theorem d_501_116 : decode (mB 501) 116 = .ok (.iload_n 2, 1) := by decide +kernel
theorem d_501_117 : decode (mB 501) 117 = .ok (.invokevirtual 59, 3) := by decide +kernel
theorem d_501_120 : decode (mB 501) 120 = .ok (.ifCond .eq 11, 3) := by decide +kernel
theorem d_501_123 : decode (mB 501) 123 = .ok (.aload_n 0, 1) := by decide +kernel
theorem d_501_124 : decode (mB 501) 124 = .ok (.aload_n 1, 1) := by decide +kernel
theorem d_501_125 : decode (mB 501) 125 = .ok (.invokevirtual 93, 3) := by decide +kernel
theorem d_501_128 : decode (mB 501) 128 = .ok (.goto 8, 3) := by decide +kernel
theorem d_501_131 : decode (mB 501) 131 = .ok (.aload_n 0, 1) := by decide +kernel
theorem d_501_132 : decode (mB 501) 132 = .ok (.iconst 1, 1) := by decide +kernel
theorem d_501_133 : decode (mB 501) 133 = .ok (.invokevirtual 96, 3) := by decide +kernel
theorem d_501_136 : decode (mB 501) 136 = .ok (.return_, 1) := by decide +kernel
theorem d_512_0 : decode (mB 512) 0 = .ok (.aload_n 0, 1) := by decide +kernel
theorem d_512_1 : decode (mB 512) 1 = .ok (.getfield 19, 3) := by decide +kernel
theorem d_512_4 : decode (mB 512) 4 = .ok (.ifCond .eq 4, 3) := by decide +kernel
theorem d_512_7 : decode (mB 512) 7 = .ok (.return_, 1) := by decide +kernel
theorem d_512_8 : decode (mB 512) 8 = .ok (.aload_n 0, 1) := by decide +kernel
theorem d_512_9 : decode (mB 512) 9 = .ok (.invokevirtual 36, 3) := by decide +kernel
theorem d_512_12 : decode (mB 512) 12 = .ok (.aload_n 0, 1) := by decide +kernel
theorem d_512_13 : decode (mB 512) 13 = .ok (.aload_n 0, 1) := by decide +kernel
theorem d_512_14 : decode (mB 512) 14 = .ok (.getfield 22, 3) := by decide +kernel
theorem d_512_17 : decode (mB 512) 17 = .ok (.invokevirtual 39, 3) := by decide +kernel
theorem d_512_20 : decode (mB 512) 20 = .ok (.bipush 59, 2) := by decide +kernel
theorem d_512_22 : decode (mB 512) 22 = .ok (.if_icmp .eq 8, 3) := by decide +kernel
theorem d_512_25 : decode (mB 512) 25 = .ok (.aload_n 0, 1) := by decide +kernel
theorem d_512_26 : decode (mB 512) 26 = .ok (.iconst 1, 1) := by decide +kernel
theorem d_512_27 : decode (mB 512) 27 = .ok (.invokevirtual 96, 3) := by decide +kernel
theorem d_512_30 : decode (mB 512) 30 = .ok (.aload_n 0, 1) := by decide +kernel
theorem d_512_31 : decode (mB 512) 31 = .ok (.dup, 1) := by decide +kernel
theorem d_512_32 : decode (mB 512) 32 = .ok (.getfield 22, 3) := by decide +kernel
theorem d_512_35 : decode (mB 512) 35 = .ok (.iconst 1, 1) := by decide +kernel
theorem d_512_36 : decode (mB 512) 36 = .ok (.iadd, 1) := by decide +kernel
theorem d_512_37 : decode (mB 512) 37 = .ok (.putfield 22, 3) := by decide +kernel
theorem d_512_40 : decode (mB 512) 40 = .ok (.return_, 1) := by decide +kernel
theorem d_517_0 : decode (mB 517) 0 = .ok (.aload_n 0, 1) := by decide +kernel
theorem d_517_1 : decode (mB 517) 1 = .ok (.getfield 22, 3) := by decide +kernel
theorem d_517_4 : decode (mB 517) 4 = .ok (.istore_n 1, 1) := by decide +kernel
theorem d_517_5 : decode (mB 517) 5 = .ok (.iload_n 1, 1) := by decide +kernel
theorem d_517_6 : decode (mB 517) 6 = .ok (.aload_n 0, 1) := by decide +kernel
theorem d_517_7 : decode (mB 517) 7 = .ok (.getfield 50, 3) := by decide +kernel
theorem d_517_10 : decode (mB 517) 10 = .ok (.if_icmp .ge 20, 3) := by decide +kernel
theorem d_517_13 : decode (mB 517) 13 = .ok (.aload_n 0, 1) := by decide +kernel
theorem d_517_14 : decode (mB 517) 14 = .ok (.iload_n 1, 1) := by decide +kernel
theorem d_517_15 : decode (mB 517) 15 = .ok (.invokevirtual 39, 3) := by decide +kernel
theorem d_517_18 : decode (mB 517) 18 = .ok (.invokestatic 168, 3) := by decide +kernel
theorem d_517_21 : decode (mB 517) 21 = .ok (.ifCond .eq 9, 3) := by decide +kernel
theorem d_517_24 : decode (mB 517) 24 = .ok (.iinc 1 1, 3) := by decide +kernel
theorem d_517_27 : decode (mB 517) 27 = .ok (.goto (-22), 3) := by decide +kernel
theorem d_517_30 : decode (mB 517) 30 = .ok (.iload_n 1, 1) := by decide +kernel
theorem d_517_31 : decode (mB 517) 31 = .ok (.ireturn, 1) := by decide +kernel
theorem d_518_0 : decode (mB 518) 0 = .ok (.iload_n 2, 1) := by decide +kernel
theorem d_518_1 : decode (mB 518) 1 = .ok (.aload_n 0, 1) := by decide +kernel
theorem d_518_2 : decode (mB 518) 2 = .ok (.getfield 22, 3) := by decide +kernel
theorem d_518_5 : decode (mB 518) 5 = .ok (.isub, 1) := by decide +kernel
theorem d_518_6 : decode (mB 518) 6 = .ok (.aload_n 1, 1) := by decide +kernel
theorem d_518_7 : decode (mB 518) 7 = .ok (.invokevirtual 171, 3) := by decide +kernel
theorem d_518_10 : decode (mB 518) 10 = .ok (.if_icmp .eq 5, 3) := by decide +kernel
theorem d_518_13 : decode (mB 518) 13 = .ok (.iconst 0, 1) := by decide +kernel
theorem d_518_14 : decode (mB 518) 14 = .ok (.ireturn, 1) := by decide +kernel
theorem d_518_15 : decode (mB 518) 15 = .ok (.iconst 0, 1) := by decide +kernel
theorem d_518_16 : decode (mB 518) 16 = .ok (.istore_n 3, 1) := by decide +kernel
theorem d_518_17 : decode (mB 518) 17 = .ok (.iload_n 3, 1) := by decide +kernel
theorem d_518_18 : decode (mB 518) 18 = .ok (.aload_n 1, 1) := by decide +kernel
theorem d_518_19 : decode (mB 518) 19 = .ok (.invokevirtual 171, 3) := by decide +kernel
theorem d_518_22 : decode (mB 518) 22 = .ok (.if_icmp .ge 29, 3) := by decide +kernel
theorem d_518_25 : decode (mB 518) 25 = .ok (.aload_n 0, 1) := by decide +kernel
theorem d_518_26 : decode (mB 518) 26 = .ok (.aload_n 0, 1) := by decide +kernel
theorem d_518_27 : decode (mB 518) 27 = .ok (.getfield 22, 3) := by decide +kernel
theorem d_518_30 : decode (mB 518) 30 = .ok (.iload_n 3, 1) := by decide +kernel
theorem d_518_31 : decode (mB 518) 31 = .ok (.iadd, 1) := by decide +kernel
theorem d_518_32 : decode (mB 518) 32 = .ok (.invokevirtual 39, 3) := by decide +kernel
theorem d_518_35 : decode (mB 518) 35 = .ok (.aload_n 1, 1) := by decide +kernel
theorem d_518_36 : decode (mB 518) 36 = .ok (.iload_n 3, 1) := by decide +kernel
theorem d_518_37 : decode (mB 518) 37 = .ok (.invokevirtual 175, 3) := by decide +kernel
theorem d_518_40 : decode (mB 518) 40 = .ok (.if_icmp .eq 5, 3) := by decide +kernel
theorem d_518_43 : decode (mB 518) 43 = .ok (.iconst 0, 1) := by decide +kernel
theorem d_518_44 : decode (mB 518) 44 = .ok (.ireturn, 1) := by decide +kernel
theorem d_518_45 : decode (mB 518) 45 = .ok (.iinc 3 1, 3) := by decide +kernel
theorem d_518_48 : decode (mB 518) 48 = .ok (.goto (-31), 3) := by decide +kernel
theorem d_518_51 : decode (mB 518) 51 = .ok (.iconst 1, 1) := by decide +kernel
theorem d_518_52 : decode (mB 518) 52 = .ok (.ireturn, 1) := by decide +kernel
theorem d_502_0 : decode (mB 502) 0 = .ok (.aload_n 0, 1) := by decide +kernel
theorem d_502_1 : decode (mB 502) 1 = .ok (.iconst 1, 1) := by decide +kernel
theorem d_502_2 : decode (mB 502) 2 = .ok (.iconst 4, 1) := by decide +kernel
theorem d_502_3 : decode (mB 502) 3 = .ok (.invokevirtual 100, 3) := by decide +kernel
theorem d_502_6 : decode (mB 502) 6 = .ok (.aload_n 1, 1) := by decide +kernel
theorem d_502_7 : decode (mB 502) 7 = .ok (.aload_n 0, 1) := by decide +kernel
theorem d_502_8 : decode (mB 502) 8 = .ok (.iconst 1, 1) := by decide +kernel
theorem d_502_9 : decode (mB 502) 9 = .ok (.bipush 99, 2) := by decide +kernel
theorem d_502_11 : decode (mB 502) 11 = .ok (.invokevirtual 104, 3) := by decide +kernel
theorem d_502_14 : decode (mB 502) 14 = .ok (.putfield 108, 3) := by decide +kernel
theorem d_502_17 : decode (mB 502) 17 = .ok (.aload_n 1, 1) := by decide +kernel
theorem d_502_18 : decode (mB 502) 18 = .ok (.aload_n 0, 1) := by decide +kernel
theorem d_502_19 : decode (mB 502) 19 = .ok (.iconst 0, 1) := by decide +kernel
theorem d_502_20 : decode (mB 502) 20 = .ok (.bipush 9, 2) := by decide +kernel
theorem d_502_22 : decode (mB 502) 22 = .ok (.invokevirtual 104, 3) := by decide +kernel
theorem d_502_25 : decode (mB 502) 25 = .ok (.putfield 110, 3) := by decide +kernel
theorem d_502_28 : decode (mB 502) 28 = .ok (.aload_n 1, 1) := by decide +kernel
theorem d_502_29 : decode (mB 502) 29 = .ok (.aload_n 0, 1) := by decide +kernel
theorem d_502_30 : decode (mB 502) 30 = .ok (.iconst 0, 1) := by decide +kernel
theorem d_502_31 : decode (mB 502) 31 = .ok (.bipush 99, 2) := by decide +kernel
theorem d_502_33 : decode (mB 502) 33 = .ok (.invokevirtual 104, 3) := by decide +kernel
theorem d_502_36 : decode (mB 502) 36 = .ok (.putfield 113, 3) := by decide +kernel
theorem d_502_39 : decode (mB 502) 39 = .ok (.return_, 1) := by decide +kernel
theorem d_503_0 : decode (mB 503) 0 = .ok (.aload_n 0, 1) := by decide +kernel
theorem d_503_1 : decode (mB 503) 1 = .ok (.iconst 2, 1) := by decide +kernel
theorem d_503_2 : decode (mB 503) 2 = .ok (.iconst 4, 1) := by decide +kernel
theorem d_503_3 : decode (mB 503) 3 = .ok (.invokevirtual 100, 3) := by decide +kernel
theorem d_503_6 : decode (mB 503) 6 = .ok (.aload_n 1, 1) := by decide +kernel
theorem d_503_7 : decode (mB 503) 7 = .ok (.aload_n 0, 1) := by decide +kernel
theorem d_503_8 : decode (mB 503) 8 = .ok (.iconst 0, 1) := by decide +kernel
theorem d_503_9 : decode (mB 503) 9 = .ok (.bipush 23, 2) := by decide +kernel
theorem d_503_11 : decode (mB 503) 11 = .ok (.invokevirtual 104, 3) := by decide +kernel
theorem d_503_14 : decode (mB 503) 14 = .ok (.putfield 116, 3) := by decide +kernel
theorem d_503_17 : decode (mB 503) 17 = .ok (.return_, 1) := by decide +kernel
theorem d_504_0 : decode (mB 504) 0 = .ok (.aload_n 0, 1) := by decide +kernel
theorem d_504_1 : decode (mB 504) 1 = .ok (.aload_n 1, 1) := by decide +kernel
theorem d_504_2 : decode (mB 504) 2 = .ok (.getfield 118, 3) := by decide +kernel
theorem d_504_5 : decode (mB 504) 5 = .ok (.bipush 6, 2) := by decide +kernel
theorem d_504_7 : decode (mB 504) 7 = .ok (.iconst 5, 1) := by decide +kernel
theorem d_504_8 : decode (mB 504) 8 = .ok (.invokevirtual 121, 3) := by decide +kernel
theorem d_504_11 : decode (mB 504) 11 = .ok (.aload_n 0, 1) := by decide +kernel
theorem d_504_12 : decode (mB 504) 12 = .ok (.iconst 0, 1) := by decide +kernel
theorem d_504_13 : decode (mB 504) 13 = .ok (.bipush 9, 2) := by decide +kernel
theorem d_504_15 : decode (mB 504) 15 = .ok (.invokevirtual 104, 3) := by decide +kernel
theorem d_504_18 : decode (mB 504) 18 = .ok (.istore_n 2, 1) := by decide +kernel
theorem d_504_19 : decode (mB 504) 19 = .ok (.aload_n 0, 1) := by decide +kernel
theorem d_504_20 : decode (mB 504) 20 = .ok (.getfield 19, 3) := by decide +kernel
theorem d_504_23 : decode (mB 504) 23 = .ok (.ifCond .ne 8, 3) := by decide +kernel
theorem d_504_26 : decode (mB 504) 26 = .ok (.aload_n 1, 1) := by decide +kernel
theorem d_504_27 : decode (mB 504) 27 = .ok (.iload_n 2, 1) := by decide +kernel
theorem d_504_28 : decode (mB 504) 28 = .ok (.invokevirtual 125, 3) := by decide +kernel
theorem d_504_31 : decode (mB 504) 31 = .ok (.return_, 1) := by decide +kernel
theorem d_505_0 : decode (mB 505) 0 = .ok (.aload_n 0, 1) := by decide +kernel
theorem d_505_1 : decode (mB 505) 1 = .ok (.aload_n 1, 1) := by decide +kernel
theorem d_505_2 : decode (mB 505) 2 = .ok (.getfield 128, 3) := by decide +kernel
theorem d_505_5 : decode (mB 505) 5 = .ok (.bipush 9, 2) := by decide +kernel
theorem d_505_7 : decode (mB 505) 7 = .ok (.iconst 3, 1) := by decide +kernel
theorem d_505_8 : decode (mB 505) 8 = .ok (.invokevirtual 121, 3) := by decide +kernel
theorem d_505_11 : decode (mB 505) 11 = .ok (.aload_n 0, 1) := by decide +kernel
theorem d_505_12 : decode (mB 505) 12 = .ok (.iconst 0, 1) := by decide +kernel
theorem d_505_13 : decode (mB 505) 13 = .ok (.aload_n 1, 1) := by decide +kernel
theorem d_505_14 : decode (mB 505) 14 = .ok (.getfield 118, 3) := by decide +kernel
theorem d_505_17 : decode (mB 505) 17 = .ok (.iconst 1, 1) := by decide +kernel
theorem d_505_18 : decode (mB 505) 18 = .ok (.isub, 1) := by decide +kernel
theorem d_505_19 : decode (mB 505) 19 = .ok (.invokevirtual 104, 3) := by decide +kernel
theorem d_505_22 : decode (mB 505) 22 = .ok (.istore_n 2, 1) := by decide +kernel
theorem d_505_23 : decode (mB 505) 23 = .ok (.aload_n 0, 1) := by decide +kernel
theorem d_505_24 : decode (mB 505) 24 = .ok (.iconst 0, 1) := by decide +kernel
theorem d_505_25 : decode (mB 505) 25 = .ok (.aload_n 1, 1) := by decide +kernel
theorem d_505_26 : decode (mB 505) 26 = .ok (.getfield 118, 3) := by decide +kernel
theorem d_505_29 : decode (mB 505) 29 = .ok (.iconst 1, 1) := by decide +kernel
theorem d_505_30 : decode (mB 505) 30 = .ok (.isub, 1) := by decide +kernel
theorem d_505_31 : decode (mB 505) 31 = .ok (.invokevirtual 104, 3) := by decide +kernel
theorem d_505_34 : decode (mB 505) 34 = .ok (.istore_n 3, 1) := by decide +kernel
theorem d_505_35 : decode (mB 505) 35 = .ok (.aload_n 0, 1) := by decide +kernel
theorem d_505_36 : decode (mB 505) 36 = .ok (.getfield 19, 3) := by decide +kernel
theorem d_505_39 : decode (mB 505) 39 = .ok (.ifCond .ne 25, 3) := by decide +kernel
theorem d_505_42 : decode (mB 505) 42 = .ok (.iload_n 2, 1) := by decide +kernel
theorem d_505_43 : decode (mB 505) 43 = .ok (.iload_n 3, 1) := by decide +kernel
theorem d_505_44 : decode (mB 505) 44 = .ok (.if_icmp .eq 15, 3) := by decide +kernel
theorem d_505_47 : decode (mB 505) 47 = .ok (.aload_n 1, 1) := by decide +kernel
theorem d_505_48 : decode (mB 505) 48 = .ok (.iload_n 2, 1) := by decide +kernel
theorem d_505_49 : decode (mB 505) 49 = .ok (.invokevirtual 131, 3) := by decide +kernel
theorem d_505_52 : decode (mB 505) 52 = .ok (.iload_n 3, 1) := by decide +kernel
theorem d_505_53 : decode (mB 505) 53 = .ok (.invokestatic 134, 3) := by decide +kernel
theorem d_505_56 : decode (mB 505) 56 = .ok (.ifCond .eq 8, 3) := by decide +kernel
theorem d_505_59 : decode (mB 505) 59 = .ok (.aload_n 0, 1) := by decide +kernel
theorem d_505_60 : decode (mB 505) 60 = .ok (.iconst 4, 1) := by decide +kernel
theorem d_505_61 : decode (mB 505) 61 = .ok (.invokevirtual 96, 3) := by decide +kernel
theorem d_505_64 : decode (mB 505) 64 = .ok (.aload_n 0, 1) := by decide +kernel
theorem d_505_65 : decode (mB 505) 65 = .ok (.getfield 19, 3) := by decide +kernel
theorem d_505_68 : decode (mB 505) 68 = .ok (.ifCond .ne 9, 3) := by decide +kernel
theorem d_505_71 : decode (mB 505) 71 = .ok (.aload_n 1, 1) := by decide +kernel
theorem d_505_72 : decode (mB 505) 72 = .ok (.iload_n 2, 1) := by decide +kernel
theorem d_505_73 : decode (mB 505) 73 = .ok (.iload_n 3, 1) := by decide +kernel
theorem d_505_74 : decode (mB 505) 74 = .ok (.invokevirtual 138, 3) := by decide +kernel
theorem d_505_77 : decode (mB 505) 77 = .ok (.return_, 1) := by decide +kernel
theorem d_506_0 : decode (mB 506) 0 = .ok (.aload_n 0, 1) := by decide +kernel
theorem d_506_1 : decode (mB 506) 1 = .ok (.aload_n 1, 1) := by decide +kernel
theorem d_506_2 : decode (mB 506) 2 = .ok (.getfield 141, 3) := by decide +kernel
theorem d_506_5 : decode (mB 506) 5 = .ok (.bipush 6, 2) := by decide +kernel
theorem d_506_7 : decode (mB 506) 7 = .ok (.iconst 4, 1) := by decide +kernel
theorem d_506_8 : decode (mB 506) 8 = .ok (.invokevirtual 121, 3) := by decide +kernel
theorem d_506_11 : decode (mB 506) 11 = .ok (.aload_n 0, 1) := by decide +kernel
theorem d_506_12 : decode (mB 506) 12 = .ok (.iconst 0, 1) := by decide +kernel
theorem d_506_13 : decode (mB 506) 13 = .ok (.aload_n 1, 1) := by decide +kernel
theorem d_506_14 : decode (mB 506) 14 = .ok (.getfield 118, 3) := by decide +kernel
theorem d_506_17 : decode (mB 506) 17 = .ok (.iconst 1, 1) := by decide +kernel
theorem d_506_18 : decode (mB 506) 18 = .ok (.isub, 1) := by decide +kernel
theorem d_506_19 : decode (mB 506) 19 = .ok (.invokevirtual 104, 3) := by decide +kernel
theorem d_506_22 : decode (mB 506) 22 = .ok (.istore_n 2, 1) := by decide +kernel
theorem d_506_23 : decode (mB 506) 23 = .ok (.aload_n 0, 1) := by decide +kernel
theorem d_506_24 : decode (mB 506) 24 = .ok (.iconst 1, 1) := by decide +kernel
theorem d_506_25 : decode (mB 506) 25 = .ok (.bipush 99, 2) := by decide +kernel
theorem d_506_27 : decode (mB 506) 27 = .ok (.invokevirtual 104, 3) := by decide +kernel
theorem d_506_30 : decode (mB 506) 30 = .ok (.istore_n 3, 1) := by decide +kernel
theorem d_506_31 : decode (mB 506) 31 = .ok (.aload_n 0, 1) := by decide +kernel
theorem d_506_32 : decode (mB 506) 32 = .ok (.iconst 0, 1) := by decide +kernel
theorem d_506_33 : decode (mB 506) 33 = .ok (.bipush 9, 2) := by decide +kernel
theorem d_506_35 : decode (mB 506) 35 = .ok (.invokevirtual 104, 3) := by decide +kernel
theorem d_506_38 : decode (mB 506) 38 = .ok (.istore 4, 2) := by decide +kernel
theorem d_506_40 : decode (mB 506) 40 = .ok (.aload_n 0, 1) := by decide +kernel
theorem d_506_41 : decode (mB 506) 41 = .ok (.iconst 0, 1) := by decide +kernel
theorem d_506_42 : decode (mB 506) 42 = .ok (.bipush 8, 2) := by decide +kernel
theorem d_506_44 : decode (mB 506) 44 = .ok (.invokevirtual 104, 3) := by decide +kernel
theorem d_506_47 : decode (mB 506) 47 = .ok (.istore 5, 2) := by decide +kernel
theorem d_506_49 : decode (mB 506) 49 = .ok (.aload_n 0, 1) := by decide +kernel
theorem d_506_50 : decode (mB 506) 50 = .ok (.getfield 19, 3) := by decide +kernel
theorem d_506_53 : decode (mB 506) 53 = .ok (.ifCond .ne 13, 3) := by decide +kernel
theorem d_506_56 : decode (mB 506) 56 = .ok (.aload_n 1, 1) := by decide +kernel
theorem d_506_57 : decode (mB 506) 57 = .ok (.iload_n 2, 1) := by decide +kernel
theorem d_506_58 : decode (mB 506) 58 = .ok (.iload_n 3, 1) := by decide +kernel
theorem d_506_59 : decode (mB 506) 59 = .ok (.iload 4, 2) := by decide +kernel
theorem d_506_61 : decode (mB 506) 61 = .ok (.iload 5, 2) := by decide +kernel
theorem d_506_63 : decode (mB 506) 63 = .ok (.invokevirtual 144, 3) := by decide +kernel
theorem d_506_66 : decode (mB 506) 66 = .ok (.return_, 1) := by decide +kernel
theorem d_507_0 : decode (mB 507) 0 = .ok (.aload_n 0, 1) := by decide +kernel
theorem d_507_1 : decode (mB 507) 1 = .ok (.dup, 1) := by decide +kernel
theorem d_507_2 : decode (mB 507) 2 = .ok (.getfield 22, 3) := by decide +kernel
theorem d_507_5 : decode (mB 507) 5 = .ok (.iconst 4, 1) := by decide +kernel
theorem d_507_6 : decode (mB 507) 6 = .ok (.iadd, 1) := by decide +kernel
theorem d_507_7 : decode (mB 507) 7 = .ok (.putfield 22, 3) := by decide +kernel
theorem d_507_10 : decode (mB 507) 10 = .ok (.aload_n 0, 1) := by decide +kernel
theorem d_507_11 : decode (mB 507) 11 = .ok (.iconst 0, 1) := by decide +kernel
theorem d_507_12 : decode (mB 507) 12 = .ok (.aload_n 1, 1) := by decide +kernel
theorem d_507_13 : decode (mB 507) 13 = .ok (.getfield 141, 3) := by decide +kernel
theorem d_507_16 : decode (mB 507) 16 = .ok (.iconst 1, 1) := by decide +kernel
theorem d_507_17 : decode (mB 507) 17 = .ok (.isub, 1) := by decide +kernel
theorem d_507_18 : decode (mB 507) 18 = .ok (.invokevirtual 104, 3) := by decide +kernel
theorem d_507_21 : decode (mB 507) 21 = .ok (.istore_n 2, 1) := by decide +kernel
theorem d_507_22 : decode (mB 507) 22 = .ok (.aload_n 0, 1) := by decide +kernel
theorem d_507_23 : decode (mB 507) 23 = .ok (.getfield 19, 3) := by decide +kernel
theorem d_507_26 : decode (mB 507) 26 = .ok (.ifCond .ne 19, 3) := by decide +kernel
theorem d_507_29 : decode (mB 507) 29 = .ok (.aload_n 0, 1) := by decide +kernel
theorem d_507_30 : decode (mB 507) 30 = .ok (.getfield 28, 3) := by decide +kernel
theorem d_507_33 : decode (mB 507) 33 = .ok (.iload_n 2, 1) := by decide +kernel
theorem d_507_34 : decode (mB 507) 34 = .ok (.invokestatic 134, 3) := by decide +kernel
theorem d_507_37 : decode (mB 507) 37 = .ok (.ifCond .eq 8, 3) := by decide +kernel
theorem d_507_40 : decode (mB 507) 40 = .ok (.aload_n 0, 1) := by decide +kernel
theorem d_507_41 : decode (mB 507) 41 = .ok (.iconst 4, 1) := by decide +kernel
theorem d_507_42 : decode (mB 507) 42 = .ok (.invokevirtual 96, 3) := by decide +kernel
theorem d_507_45 : decode (mB 507) 45 = .ok (.aload_n 0, 1) := by decide +kernel
theorem d_507_46 : decode (mB 507) 46 = .ok (.getfield 19, 3) := by decide +kernel
theorem d_507_49 : decode (mB 507) 49 = .ok (.ifCond .ne 21, 3) := by decide +kernel
theorem d_507_52 : decode (mB 507) 52 = .ok (.aload_n 0, 1) := by decide +kernel
theorem d_507_53 : decode (mB 507) 53 = .ok (.dup, 1) := by decide +kernel
theorem d_507_54 : decode (mB 507) 54 = .ok (.getfield 28, 3) := by decide +kernel
theorem d_507_57 : decode (mB 507) 57 = .ok (.iconst 1, 1) := by decide +kernel
theorem d_507_58 : decode (mB 507) 58 = .ok (.iload_n 2, 1) := by decide +kernel
theorem d_507_59 : decode (mB 507) 59 = .ok (.ishl, 1) := by decide +kernel
theorem d_507_60 : decode (mB 507) 60 = .ok (.ior, 1) := by decide +kernel
theorem d_507_61 : decode (mB 507) 61 = .ok (.putfield 28, 3) := by decide +kernel
theorem d_507_64 : decode (mB 507) 64 = .ok (.aload_n 0, 1) := by decide +kernel
theorem d_507_65 : decode (mB 507) 65 = .ok (.aload_n 1, 1) := by decide +kernel
theorem d_507_66 : decode (mB 507) 66 = .ok (.iload_n 2, 1) := by decide +kernel
theorem d_507_67 : decode (mB 507) 67 = .ok (.invokevirtual 148, 3) := by decide +kernel
theorem d_507_70 : decode (mB 507) 70 = .ok (.return_, 1) := by decide +kernel
theorem d_508_0 : decode (mB 508) 0 = .ok (.aload_n 0, 1) := by decide +kernel
theorem d_508_1 : decode (mB 508) 1 = .ok (.iconst 4, 1) := by decide +kernel
theorem d_508_2 : decode (mB 508) 2 = .ok (.iconst 3, 1) := by decide +kernel
theorem d_508_3 : decode (mB 508) 3 = .ok (.invokevirtual 100, 3) := by decide +kernel
theorem d_508_6 : decode (mB 508) 6 = .ok (.aload_n 1, 1) := by decide +kernel
theorem d_508_7 : decode (mB 508) 7 = .ok (.aload_n 0, 1) := by decide +kernel
theorem d_508_8 : decode (mB 508) 8 = .ok (.iconst 0, 1) := by decide +kernel
theorem d_508_9 : decode (mB 508) 9 = .ok (.aload_n 1, 1) := by decide +kernel
theorem d_508_10 : decode (mB 508) 10 = .ok (.getfield 141, 3) := by decide +kernel
theorem d_508_13 : decode (mB 508) 13 = .ok (.iconst 1, 1) := by decide +kernel
theorem d_508_14 : decode (mB 508) 14 = .ok (.isub, 1) := by decide +kernel
theorem d_508_15 : decode (mB 508) 15 = .ok (.invokevirtual 104, 3) := by decide +kernel
theorem d_508_18 : decode (mB 508) 18 = .ok (.putfield 152, 3) := by decide +kernel
theorem d_508_21 : decode (mB 508) 21 = .ok (.return_, 1) := by decide +kernel
theorem d_515_0 : decode (mB 515) 0 = .ok (.aload_n 0, 1) := by decide +kernel
theorem d_515_1 : decode (mB 515) 1 = .ok (.iload_n 1, 1) := by decide +kernel
theorem d_515_2 : decode (mB 515) 2 = .ok (.putfield 19, 3) := by decide +kernel
theorem d_515_5 : decode (mB 515) 5 = .ok (.aload_n 0, 1) := by decide +kernel
theorem d_515_6 : decode (mB 515) 6 = .ok (.aload_n 0, 1) := by decide +kernel
theorem d_515_7 : decode (mB 515) 7 = .ok (.getfield 165, 3) := by decide +kernel
theorem d_515_10 : decode (mB 515) 10 = .ok (.putfield 15, 3) := by decide +kernel
theorem d_515_13 : decode (mB 515) 13 = .ok (.return_, 1) := by decide +kernel
theorem d_520_0 : decode (mB 520) 0 = .ok (.iload_n 0, 1) := by decide +kernel
theorem d_520_1 : decode (mB 520) 1 = .ok (.bipush 97, 2) := by decide +kernel
theorem d_520_3 : decode (mB 520) 3 = .ok (.if_icmp .lt 13, 3) := by decide +kernel
theorem d_520_6 : decode (mB 520) 6 = .ok (.iload_n 0, 1) := by decide +kernel
theorem d_520_7 : decode (mB 520) 7 = .ok (.bipush 122, 2) := by decide +kernel
theorem d_520_9 : decode (mB 520) 9 = .ok (.if_icmp .gt 7, 3) := by decide +kernel
theorem d_520_12 : decode (mB 520) 12 = .ok (.iconst 1, 1) := by decide +kernel
theorem d_520_13 : decode (mB 520) 13 = .ok (.goto 4, 3) := by decide +kernel
theorem d_520_16 : decode (mB 520) 16 = .ok (.iconst 0, 1) := by decide +kernel
theorem d_520_17 : decode (mB 520) 17 = .ok (.ireturn, 1) := by decide +kernel
theorem d_513_0 : decode (mB 513) 0 = .ok (.aload_n 0, 1) := by decide +kernel
theorem d_513_1 : decode (mB 513) 1 = .ok (.getfield 25, 3) := by decide +kernel
theorem d_513_4 : decode (mB 513) 4 = .ok (.iload_n 1, 1) := by decide +kernel
theorem d_513_5 : decode (mB 513) 5 = .ok (.iand, 1) := by decide +kernel
theorem d_513_6 : decode (mB 513) 6 = .ok (.ifCond .eq 8, 3) := by decide +kernel
theorem d_513_9 : decode (mB 513) 9 = .ok (.aload_n 0, 1) := by decide +kernel
theorem d_513_10 : decode (mB 513) 10 = .ok (.iconst 3, 1) := by decide +kernel
theorem d_513_11 : decode (mB 513) 11 = .ok (.invokevirtual 96, 3) := by decide +kernel
theorem d_513_14 : decode (mB 513) 14 = .ok (.aload_n 0, 1) := by decide +kernel
theorem d_513_15 : decode (mB 513) 15 = .ok (.dup, 1) := by decide +kernel
theorem d_513_16 : decode (mB 513) 16 = .ok (.getfield 25, 3) := by decide +kernel
theorem d_513_19 : decode (mB 513) 19 = .ok (.iload_n 1, 1) := by decide +kernel
theorem d_513_20 : decode (mB 513) 20 = .ok (.ior, 1) := by decide +kernel
theorem d_513_21 : decode (mB 513) 21 = .ok (.putfield 25, 3) := by decide +kernel
theorem d_513_24 : decode (mB 513) 24 = .ok (.aload_n 0, 1) := by decide +kernel
theorem d_513_25 : decode (mB 513) 25 = .ok (.dup, 1) := by decide +kernel
theorem d_513_26 : decode (mB 513) 26 = .ok (.getfield 22, 3) := by decide +kernel
theorem d_513_29 : decode (mB 513) 29 = .ok (.iload_n 2, 1) := by decide +kernel
theorem d_513_30 : decode (mB 513) 30 = .ok (.iadd, 1) := by decide +kernel
theorem d_513_31 : decode (mB 513) 31 = .ok (.putfield 22, 3) := by decide +kernel
theorem d_513_34 : decode (mB 513) 34 = .ok (.return_, 1) := by decide +kernel
theorem d_511_0 : decode (mB 511) 0 = .ok (.aload_n 0, 1) := by decide +kernel
theorem d_511_1 : decode (mB 511) 1 = .ok (.getfield 19, 3) := by decide +kernel
theorem d_511_4 : decode (mB 511) 4 = .ok (.ifCond .eq 5, 3) := by decide +kernel
theorem d_511_7 : decode (mB 511) 7 = .ok (.iconst 0, 1) := by decide +kernel
theorem d_511_8 : decode (mB 511) 8 = .ok (.ireturn, 1) := by decide +kernel
theorem d_511_9 : decode (mB 511) 9 = .ok (.aload_n 0, 1) := by decide +kernel
theorem d_511_10 : decode (mB 511) 10 = .ok (.invokevirtual 36, 3) := by decide +kernel
theorem d_511_13 : decode (mB 511) 13 = .ok (.iconst 0, 1) := by decide +kernel
theorem d_511_14 : decode (mB 511) 14 = .ok (.istore_n 3, 1) := by decide +kernel
theorem d_511_15 : decode (mB 511) 15 = .ok (.iconst 0, 1) := by decide +kernel
theorem d_511_16 : decode (mB 511) 16 = .ok (.istore 4, 2) := by decide +kernel
theorem d_511_18 : decode (mB 511) 18 = .ok (.aload_n 0, 1) := by decide +kernel
theorem d_511_19 : decode (mB 511) 19 = .ok (.getfield 22, 3) := by decide +kernel
theorem d_511_22 : decode (mB 511) 22 = .ok (.istore 5, 2) := by decide +kernel
theorem d_511_24 : decode (mB 511) 24 = .ok (.iload 5, 2) := by decide +kernel
theorem d_511_26 : decode (mB 511) 26 = .ok (.aload_n 0, 1) := by decide +kernel
theorem d_511_27 : decode (mB 511) 27 = .ok (.getfield 50, 3) := by decide +kernel
theorem d_511_30 : decode (mB 511) 30 = .ok (.if_icmp .ge 45, 3) := by decide +kernel
theorem d_511_33 : decode (mB 511) 33 = .ok (.aload_n 0, 1) := by decide +kernel
theorem d_511_34 : decode (mB 511) 34 = .ok (.iload 5, 2) := by decide +kernel
theorem d_511_36 : decode (mB 511) 36 = .ok (.invokevirtual 39, 3) := by decide +kernel
theorem d_511_39 : decode (mB 511) 39 = .ok (.invokestatic 162, 3) := by decide +kernel
theorem d_511_42 : decode (mB 511) 42 = .ok (.ifCond .eq 33, 3) := by decide +kernel
theorem d_511_45 : decode (mB 511) 45 = .ok (.iinc 4 1, 3) := by decide +kernel
theorem d_511_48 : decode (mB 511) 48 = .ok (.iload 4, 2) := by decide +kernel
theorem d_511_50 : decode (mB 511) 50 = .ok (.iconst 3, 1) := by decide +kernel
theorem d_511_51 : decode (mB 511) 51 = .ok (.if_icmp .gt 18, 3) := by decide +kernel
theorem d_511_54 : decode (mB 511) 54 = .ok (.iload_n 3, 1) := by decide +kernel
theorem d_511_55 : decode (mB 511) 55 = .ok (.bipush 10, 2) := by decide +kernel
theorem d_511_57 : decode (mB 511) 57 = .ok (.imul, 1) := by decide +kernel
theorem d_511_58 : decode (mB 511) 58 = .ok (.aload_n 0, 1) := by decide +kernel
theorem d_511_59 : decode (mB 511) 59 = .ok (.iload 5, 2) := by decide +kernel
theorem d_511_61 : decode (mB 511) 61 = .ok (.invokevirtual 39, 3) := by decide +kernel
theorem d_511_64 : decode (mB 511) 64 = .ok (.iadd, 1) := by decide +kernel
theorem d_511_65 : decode (mB 511) 65 = .ok (.bipush 48, 2) := by decide +kernel
theorem d_511_67 : decode (mB 511) 67 = .ok (.isub, 1) := by decide +kernel
theorem d_511_68 : decode (mB 511) 68 = .ok (.istore_n 3, 1) := by decide +kernel
theorem d_511_69 : decode (mB 511) 69 = .ok (.iinc 5 1, 3) := by decide +kernel
theorem d_511_72 : decode (mB 511) 72 = .ok (.goto (-48), 3) := by decide +kernel
theorem d_511_75 : decode (mB 511) 75 = .ok (.iload 4, 2) := by decide +kernel
theorem d_511_77 : decode (mB 511) 77 = .ok (.ifCond .ne 11, 3) := by decide +kernel
theorem d_511_80 : decode (mB 511) 80 = .ok (.aload_n 0, 1) := by decide +kernel
theorem d_511_81 : decode (mB 511) 81 = .ok (.iconst 1, 1) := by decide +kernel
theorem d_511_82 : decode (mB 511) 82 = .ok (.invokevirtual 96, 3) := by decide +kernel
theorem d_511_85 : decode (mB 511) 85 = .ok (.goto 24, 3) := by decide +kernel
theorem d_511_88 : decode (mB 511) 88 = .ok (.iload 4, 2) := by decide +kernel
theorem d_511_90 : decode (mB 511) 90 = .ok (.iconst 3, 1) := by decide +kernel
theorem d_511_91 : decode (mB 511) 91 = .ok (.if_icmp .gt 13, 3) := by decide +kernel
theorem d_511_94 : decode (mB 511) 94 = .ok (.iload_n 3, 1) := by decide +kernel
theorem d_511_95 : decode (mB 511) 95 = .ok (.iload_n 1, 1) := by decide +kernel
theorem d_511_96 : decode (mB 511) 96 = .ok (.if_icmp .lt 8, 3) := by decide +kernel
theorem d_511_99 : decode (mB 511) 99 = .ok (.iload_n 3, 1) := by decide +kernel
theorem d_511_100 : decode (mB 511) 100 = .ok (.iload_n 2, 1) := by decide +kernel
theorem d_511_101 : decode (mB 511) 101 = .ok (.if_icmp .le 8, 3) := by decide +kernel
theorem d_511_104 : decode (mB 511) 104 = .ok (.aload_n 0, 1) := by decide +kernel
theorem d_511_105 : decode (mB 511) 105 = .ok (.iconst 2, 1) := by decide +kernel
theorem d_511_106 : decode (mB 511) 106 = .ok (.invokevirtual 96, 3) := by decide +kernel
theorem d_511_109 : decode (mB 511) 109 = .ok (.aload_n 0, 1) := by decide +kernel
theorem d_511_110 : decode (mB 511) 110 = .ok (.dup, 1) := by decide +kernel
theorem d_511_111 : decode (mB 511) 111 = .ok (.getfield 22, 3) := by decide +kernel
theorem d_511_114 : decode (mB 511) 114 = .ok (.iload 4, 2) := by decide +kernel
theorem d_511_116 : decode (mB 511) 116 = .ok (.iadd, 1) := by decide +kernel
theorem d_511_117 : decode (mB 511) 117 = .ok (.putfield 22, 3) := by decide +kernel
theorem d_511_120 : decode (mB 511) 120 = .ok (.iload_n 3, 1) := by decide +kernel
theorem d_511_121 : decode (mB 511) 121 = .ok (.ireturn, 1) := by decide +kernel
theorem d_514_0 : decode (mB 514) 0 = .ok (.iload_n 1, 1) := by decide +kernel
theorem d_514_1 : decode (mB 514) 1 = .ok (.iload_n 2, 1) := by decide +kernel
theorem d_514_2 : decode (mB 514) 2 = .ok (.if_icmp .lt 8, 3) := by decide +kernel
theorem d_514_5 : decode (mB 514) 5 = .ok (.aload_n 0, 1) := by decide +kernel
theorem d_514_6 : decode (mB 514) 6 = .ok (.iconst 3, 1) := by decide +kernel
theorem d_514_7 : decode (mB 514) 7 = .ok (.invokevirtual 96, 3) := by decide +kernel
theorem d_514_10 : decode (mB 514) 10 = .ok (.aload_n 0, 1) := by decide +kernel
theorem d_514_11 : decode (mB 514) 11 = .ok (.dup, 1) := by decide +kernel
theorem d_514_12 : decode (mB 514) 12 = .ok (.getfield 22, 3) := by decide +kernel
theorem d_514_15 : decode (mB 514) 15 = .ok (.iload_n 3, 1) := by decide +kernel
theorem d_514_16 : decode (mB 514) 16 = .ok (.iadd, 1) := by decide +kernel
theorem d_514_17 : decode (mB 514) 17 = .ok (.putfield 22, 3) := by decide +kernel
theorem d_514_20 : decode (mB 514) 20 = .ok (.return_, 1) := by decide +kernel
theorem d_509_0 : decode (mB 509) 0 = .ok (.aload_n 0, 1) := by decide +kernel
theorem d_509_1 : decode (mB 509) 1 = .ok (.invokevirtual 36, 3) := by decide +kernel
theorem d_509_4 : decode (mB 509) 4 = .ok (.aload_n 0, 1) := by decide +kernel
theorem d_509_5 : decode (mB 509) 5 = .ok (.invokevirtual 53, 3) := by decide +kernel
theorem d_509_8 : decode (mB 509) 8 = .ok (.istore_n 3, 1) := by decide +kernel
theorem d_509_9 : decode (mB 509) 9 = .ok (.iload_n 3, 1) := by decide +kernel
theorem d_509_10 : decode (mB 509) 10 = .ok (.aload_n 0, 1) := by decide +kernel
theorem d_509_11 : decode (mB 509) 11 = .ok (.getfield 22, 3) := by decide +kernel
theorem d_509_14 : decode (mB 509) 14 = .ok (.if_icmp .ne 11, 3) := by decide +kernel
theorem d_509_17 : decode (mB 509) 17 = .ok (.aload_n 0, 1) := by decide +kernel
theorem d_509_18 : decode (mB 509) 18 = .ok (.iconst 1, 1) := by decide +kernel
theorem d_509_19 : decode (mB 509) 19 = .ok (.invokevirtual 96, 3) := by decide +kernel
theorem d_509_22 : decode (mB 509) 22 = .ok (.goto 76, 3) := by decide +kernel
theorem d_509_25 : decode (mB 509) 25 = .ok (.iload_n 3, 1) := by decide +kernel
theorem d_509_26 : decode (mB 509) 26 = .ok (.aload_n 0, 1) := by decide +kernel
theorem d_509_27 : decode (mB 509) 27 = .ok (.getfield 22, 3) := by decide +kernel
theorem d_509_30 : decode (mB 509) 30 = .ok (.isub, 1) := by decide +kernel
theorem d_509_31 : decode (mB 509) 31 = .ok (.bipush 6, 2) := by decide +kernel
theorem d_509_33 : decode (mB 509) 33 = .ok (.if_icmp .gt 11, 3) := by decide +kernel
theorem d_509_36 : decode (mB 509) 36 = .ok (.aload_n 0, 1) := by decide +kernel
theorem d_509_37 : decode (mB 509) 37 = .ok (.iload_n 3, 1) := by decide +kernel
theorem d_509_38 : decode (mB 509) 38 = .ok (.invokevirtual 155, 3) := by decide +kernel
theorem d_509_41 : decode (mB 509) 41 = .ok (.ifCond .ne 11, 3) := by decide +kernel
theorem d_509_44 : decode (mB 509) 44 = .ok (.aload_n 0, 1) := by decide +kernel
theorem d_509_45 : decode (mB 509) 45 = .ok (.iconst 4, 1) := by decide +kernel
theorem d_509_46 : decode (mB 509) 46 = .ok (.invokevirtual 96, 3) := by decide +kernel
theorem d_509_49 : decode (mB 509) 49 = .ok (.goto 49, 3) := by decide +kernel
theorem d_509_52 : decode (mB 509) 52 = .ok (.iconst 0, 1) := by decide +kernel
theorem d_509_53 : decode (mB 509) 53 = .ok (.istore 4, 2) := by decide +kernel
theorem d_509_55 : decode (mB 509) 55 = .ok (.iload 4, 2) := by decide +kernel
theorem d_509_57 : decode (mB 509) 57 = .ok (.iload_n 3, 1) := by decide +kernel
theorem d_509_58 : decode (mB 509) 58 = .ok (.aload_n 0, 1) := by decide +kernel
theorem d_509_59 : decode (mB 509) 59 = .ok (.getfield 22, 3) := by decide +kernel
theorem d_509_62 : decode (mB 509) 62 = .ok (.isub, 1) := by decide +kernel
theorem d_509_63 : decode (mB 509) 63 = .ok (.if_icmp .ge 30, 3) := by decide +kernel
theorem d_509_66 : decode (mB 509) 66 = .ok (.aload_n 1, 1) := by decide +kernel
theorem d_509_67 : decode (mB 509) 67 = .ok (.iload_n 2, 1) := by decide +kernel
theorem d_509_68 : decode (mB 509) 68 = .ok (.iload 4, 2) := by decide +kernel
theorem d_509_70 : decode (mB 509) 70 = .ok (.aload_n 0, 1) := by decide +kernel
theorem d_509_71 : decode (mB 509) 71 = .ok (.aload_n 0, 1) := by decide +kernel
theorem d_509_72 : decode (mB 509) 72 = .ok (.getfield 22, 3) := by decide +kernel
theorem d_509_75 : decode (mB 509) 75 = .ok (.iload 4, 2) := by decide +kernel
theorem d_509_77 : decode (mB 509) 77 = .ok (.iadd, 1) := by decide +kernel
theorem d_509_78 : decode (mB 509) 78 = .ok (.invokevirtual 39, 3) := by decide +kernel
theorem d_509_81 : decode (mB 509) 81 = .ok (.bipush 97, 2) := by decide +kernel
theorem d_509_83 : decode (mB 509) 83 = .ok (.isub, 1) := by decide +kernel
theorem d_509_84 : decode (mB 509) 84 = .ok (.invokevirtual 159, 3) := by decide +kernel
theorem d_509_87 : decode (mB 509) 87 = .ok (.iinc 4 1, 3) := by decide +kernel
theorem d_509_90 : decode (mB 509) 90 = .ok (.goto (-35), 3) := by decide +kernel
theorem d_509_93 : decode (mB 509) 93 = .ok (.aload_n 0, 1) := by decide +kernel
theorem d_509_94 : decode (mB 509) 94 = .ok (.iload_n 3, 1) := by decide +kernel
theorem d_509_95 : decode (mB 509) 95 = .ok (.putfield 22, 3) := by decide +kernel
theorem d_509_98 : decode (mB 509) 98 = .ok (.return_, 1) := by decide +kernel
theorem d_521_0 : decode (mB 521) 0 = .ok (.iload_n 0, 1) := by decide +kernel
theorem d_521_1 : decode (mB 521) 1 = .ok (.bipush 48, 2) := by decide +kernel
theorem d_521_3 : decode (mB 521) 3 = .ok (.if_icmp .lt 13, 3) := by decide +kernel
theorem d_521_6 : decode (mB 521) 6 = .ok (.iload_n 0, 1) := by decide +kernel
theorem d_521_7 : decode (mB 521) 7 = .ok (.bipush 57, 2) := by decide +kernel
theorem d_521_9 : decode (mB 521) 9 = .ok (.if_icmp .gt 7, 3) := by decide +kernel
theorem d_521_12 : decode (mB 521) 12 = .ok (.iconst 1, 1) := by decide +kernel
theorem d_521_13 : decode (mB 521) 13 = .ok (.goto 4, 3) := by decide +kernel
theorem d_521_16 : decode (mB 521) 16 = .ok (.iconst 0, 1) := by decide +kernel
theorem d_521_17 : decode (mB 521) 17 = .ok (.ireturn, 1) := by decide +kernel
theorem d_510_0 : decode (mB 510) 0 = .ok (.aload_n 0, 1) := by decide +kernel
theorem d_510_1 : decode (mB 510) 1 = .ok (.getfield 22, 3) := by decide +kernel
theorem d_510_4 : decode (mB 510) 4 = .ok (.istore_n 2, 1) := by decide +kernel
theorem d_510_5 : decode (mB 510) 5 = .ok (.iload_n 2, 1) := by decide +kernel
theorem d_510_6 : decode (mB 510) 6 = .ok (.iload_n 1, 1) := by decide +kernel
theorem d_510_7 : decode (mB 510) 7 = .ok (.if_icmp .ge 31, 3) := by decide +kernel
theorem d_510_10 : decode (mB 510) 10 = .ok (.aload_n 0, 1) := by decide +kernel
theorem d_510_11 : decode (mB 510) 11 = .ok (.iload_n 2, 1) := by decide +kernel
theorem d_510_12 : decode (mB 510) 12 = .ok (.invokevirtual 39, 3) := by decide +kernel
theorem d_510_15 : decode (mB 510) 15 = .ok (.bipush 97, 2) := by decide +kernel
theorem d_510_17 : decode (mB 510) 17 = .ok (.if_icmp .lt 13, 3) := by decide +kernel
theorem d_510_20 : decode (mB 510) 20 = .ok (.aload_n 0, 1) := by decide +kernel
theorem d_510_21 : decode (mB 510) 21 = .ok (.iload_n 2, 1) := by decide +kernel
theorem d_510_22 : decode (mB 510) 22 = .ok (.invokevirtual 39, 3) := by decide +kernel
theorem d_510_25 : decode (mB 510) 25 = .ok (.bipush 99, 2) := by decide +kernel
theorem d_510_27 : decode (mB 510) 27 = .ok (.if_icmp .le 5, 3) := by decide +kernel
theorem d_510_30 : decode (mB 510) 30 = .ok (.iconst 0, 1) := by decide +kernel
theorem d_510_31 : decode (mB 510) 31 = .ok (.ireturn, 1) := by decide +kernel
theorem d_510_32 : decode (mB 510) 32 = .ok (.iinc 2 1, 3) := by decide +kernel
theorem d_510_35 : decode (mB 510) 35 = .ok (.goto (-30), 3) := by decide +kernel
theorem d_510_38 : decode (mB 510) 38 = .ok (.iconst 1, 1) := by decide +kernel
theorem d_510_39 : decode (mB 510) 39 = .ok (.ireturn, 1) := by decide +kernel
theorem b500_0 {σ : SS} : ev 500 0 [qR 1, qR 3, qU] [] σ = (ev 600 0 [qR 3] [] (q_put (q_put (q_put (q_put (q_put σ 1 2 0) 1 3 (-1)) 1 4 0) 1 6 0) 1 7 0)).bind (fun x => ev 500 29 [qR 1, qR 3, qU] (q_push x.1 []) x.2) :=
  Eq.trans (e_aload_n d_500_0 rfl) (Eq.trans (e_iconst d_500_1 k_0) (Eq.trans (e_put d_500_2 fl_5_19 sh_1 rfl rfl rfl) (Eq.trans (e_aload_n d_500_5 rfl) (Eq.trans (e_iconst d_500_6 k_m1) (Eq.trans (e_put d_500_7 fl_5_15 sh_1 rfl rfl rfl) (Eq.trans (e_aload_n d_500_10 rfl) (Eq.trans (e_iconst d_500_11 k_0) (Eq.trans (e_put d_500_12 fl_5_22 sh_1 rfl rfl rfl) (Eq.trans (e_aload_n d_500_15 rfl) (Eq.trans (e_iconst d_500_16 k_0) (Eq.trans (e_put d_500_17 fl_5_25 sh_1 rfl rfl rfl) (Eq.trans (e_aload_n d_500_20 rfl) (Eq.trans (e_iconst d_500_21 k_0) (Eq.trans (e_put d_500_22 fl_5_28 sh_1 rfl rfl rfl) (Eq.trans (e_aload_n d_500_25 rfl) (e_callV d_500_26 ml_5_31 fit_500_600 par_600 rfl rfl sh_3 (Nat.le_of_ble_eq_true rfl) (Nat.le_of_ble_eq_true rfl) (Nat.le_of_ble_eq_true rfl) rfl (by decide) rfl))))))))))))))))
theorem b500_29 {σ : SS} : ev 500 29 [qR 1, qR 3, qU] [] σ = ev 500 31 [qR 1, qR 3, qI 0] [] σ :=
  Eq.trans (e_iconst d_500_29 k_0) (e_istore_n d_500_30 (by decide) (Nat.le_of_ble_eq_true rfl) rfl)
theorem b500_31 {x2 : Int} {σ : SS} : ev 500 31 [qR 1, qR 3, qI x2] [] σ = if 300 < x2 then ev 500 79 [qR 1, qR 3, qI x2] [] σ else ev 500 38 [qR 1, qR 3, qI x2] [] σ :=
  Eq.trans (e_iload_n d_500_31 rfl) (Eq.trans (e_sipush d_500_32 ks_300) (e_icmp_gt d_500_35 (by decide)))
theorem b500_38 {x2 : Int} {σ : SS} : ev 500 38 [qR 1, qR 3, qI x2] [] σ = if (σ 1 2) = 0 then ev 500 45 [qR 1, qR 3, qI x2] [] σ else ev 500 79 [qR 1, qR 3, qI x2] [] σ :=
  Eq.trans (e_aload_n d_500_38 rfl) (Eq.trans (e_getI d_500_39 fl_5_19 sh_1 rfl) (e_if_ne d_500_42 (by decide)))
theorem b500_45 {x2 : Int} {σ : SS} : ev 500 45 [qR 1, qR 3, qI x2] [] σ = (ev 516 0 [qR 1] [] σ).bind (fun x => ev 500 49 [qR 1, qR 3, qI x2] (q_push x.1 []) x.2) :=
  Eq.trans (e_aload_n d_500_45 rfl) (e_callV d_500_46 ml_5_36 fit_500_516 par_516 rfl rfl sh_1 (Nat.le_of_ble_eq_true rfl) (Nat.le_of_ble_eq_true rfl) (Nat.le_of_ble_eq_true rfl) rfl (by decide) rfl)
theorem b500_49 {x2 : Int} {σ : SS} : ev 500 49 [qR 1, qR 3, qI x2] [] σ = (ev 519 0 [qR 1, qI (σ 1 4)] [] σ).bind (fun x => ev 500 57 [qR 1, qR 3, qI x2] (q_push x.1 []) x.2) :=
  Eq.trans (e_aload_n d_500_49 rfl) (Eq.trans (e_aload_n d_500_50 rfl) (Eq.trans (e_getI d_500_51 fl_5_22 sh_1 rfl) (e_callV d_500_54 ml_5_39 fit_500_519 par_519 rfl rfl sh_1 (Nat.le_of_ble_eq_true rfl) (Nat.le_of_ble_eq_true rfl) (Nat.le_of_ble_eq_true rfl) rfl (by decide) rfl)))
theorem b500_57 {x2 y0 : Int} {σ : SS} : ev 500 57 [qR 1, qR 3, qI x2] [qI y0] σ = if y0 = (-1) then ev 500 61 [qR 1, qR 3, qI x2] [] σ else ev 500 64 [qR 1, qR 3, qI x2] [] σ :=
  Eq.trans (e_iconst d_500_57 k_m1) (e_icmp_ne d_500_58 (by decide))
theorem b500_61 {x2 : Int} {σ : SS} : ev 500 61 [qR 1, qR 3, qI x2] [] σ = ev 500 79 [qR 1, qR 3, qI x2] [] σ :=
  e_goto d_500_61 (by decide)
theorem b500_64 {x2 : Int} {σ : SS} : ev 500 64 [qR 1, qR 3, qI x2] [] σ = (ev 501 0 [qR 1, qR 3, qU] [] σ).bind (fun x => ev 500 69 [qR 1, qR 3, qI x2] (q_push x.1 []) x.2) :=
  Eq.trans (e_aload_n d_500_64 rfl) (Eq.trans (e_aload_n d_500_65 rfl) (e_callV d_500_66 ml_5_43 fit_500_501 par_501 rfl rfl sh_1 (Nat.le_of_ble_eq_true rfl) (Nat.le_of_ble_eq_true rfl) (Nat.le_of_ble_eq_true rfl) rfl (by decide) rfl))
theorem b500_69 {x2 : Int} {σ : SS} : ev 500 69 [qR 1, qR 3, qI x2] [] σ = (ev 512 0 [qR 1] [] σ).bind (fun x => ev 500 73 [qR 1, qR 3, qI x2] (q_push x.1 []) x.2) :=
  Eq.trans (e_aload_n d_500_69 rfl) (e_callV d_500_70 ml_5_47 fit_500_512 par_512 rfl rfl sh_1 (Nat.le_of_ble_eq_true rfl) (Nat.le_of_ble_eq_true rfl) (Nat.le_of_ble_eq_true rfl) rfl (by decide) rfl)
theorem b500_73 {x2 : Int} {σ : SS} (h : -2147483648 ≤ (x2 + 1) ∧ (x2 + 1) ≤ 2147483647) : ev 500 73 [qR 1, qR 3, qI x2] [] σ = ev 500 31 [qR 1, qR 3, qI (x2 + 1)] [] σ :=
  Eq.trans (e_iinc d_500_73 (by decide) rfl h rfl) (e_goto d_500_76 (by decide))
theorem b500_79 {x2 : Int} {σ : SS} : ev 500 79 [qR 1, qR 3, qI x2] [] σ = if (σ 1 2) = 0 then ev 500 91 [qR 1, qR 3, qI x2] [] (q_put σ 1 1 0) else ev 500 95 [qR 1, qR 3, qI x2] [] (q_put σ 1 1 0) :=
  Eq.trans (e_aload_n d_500_79 rfl) (Eq.trans (e_iconst d_500_80 k_0) (Eq.trans (e_put d_500_81 fl_5_50 sh_1 rfl rfl rfl) (Eq.trans (e_aload_n d_500_84 rfl) (Eq.trans (e_getI d_500_85 fl_5_19 sh_1 rfl) (e_if_ne d_500_88 (by decide))))))
theorem b500_91 {x2 : Int} {σ : SS} : ev 500 91 [qR 1, qR 3, qI x2] [] σ = ev 500 96 [qR 1, qR 3, qI x2] [qI 1] σ :=
  Eq.trans (e_iconst d_500_91 k_1) (e_goto d_500_92 (by decide))
theorem b500_95 {x2 : Int} {σ : SS} : ev 500 95 [qR 1, qR 3, qI x2] [] σ = ev 500 96 [qR 1, qR 3, qI x2] [qI 0] σ :=
  e_iconst d_500_95 k_0
theorem b500_96 {x2 y0 : Int} {σ : SS} (h : y0 = 0 ∨ y0 = 1) : ev 500 96 [qR 1, qR 3, qI x2] [qI y0] σ = some (some (qI y0), σ) :=
  e_iret d_500_96 (q_okrZ rfl h)
theorem b516_0 {σ : SS} : ev 516 0 [qR 1] [] σ = if (σ 1 4) < (σ 1 1) then ev 516 11 [qR 1] [] σ else ev 516 37 [qR 1] [] σ :=
  Eq.trans (e_aload_n d_516_0 rfl) (Eq.trans (e_getI d_516_1 fl_5_22 sh_1 rfl) (Eq.trans (e_aload_n d_516_4 rfl) (Eq.trans (e_getI d_516_5 fl_5_50 sh_1 rfl) (e_icmp_ge d_516_8 (by decide)))))
theorem b516_11 {σ : SS} : ev 516 11 [qR 1] [] σ = (ev 519 0 [qR 1, qI (σ 1 4)] [] σ).bind (fun x => ev 516 19 [qR 1] (q_push x.1 []) x.2) :=
  Eq.trans (e_aload_n d_516_11 rfl) (Eq.trans (e_aload_n d_516_12 rfl) (Eq.trans (e_getI d_516_13 fl_5_22 sh_1 rfl) (e_callV d_516_16 ml_5_39 fit_516_519 par_519 rfl rfl sh_1 (Nat.le_of_ble_eq_true rfl) (Nat.le_of_ble_eq_true rfl) (Nat.le_of_ble_eq_true rfl) rfl (by decide) rfl)))
theorem b516_19 {y0 : Int} {σ : SS} : ev 516 19 [qR 1] [qI y0] σ = if y0 = 32 then ev 516 24 [qR 1] [] σ else ev 516 37 [qR 1] [] σ :=
  Eq.trans (e_bipush d_516_19 kb_32) (e_icmp_ne d_516_21 (by decide))
theorem b516_24 {σ : SS} (h : -2147483648 ≤ ((σ 1 4) + 1) ∧ ((σ 1 4) + 1) ≤ 2147483647) : ev 516 24 [qR 1] [] σ = ev 516 0 [qR 1] [] (q_put σ 1 4 ((σ 1 4) + 1)) :=
  Eq.trans (e_aload_n d_516_24 rfl) (Eq.trans (e_dup d_516_25 rfl) (Eq.trans (e_getI d_516_26 fl_5_22 sh_1 rfl) (Eq.trans (e_iconst d_516_29 k_1) (Eq.trans (e_iadd d_516_30 h) (Eq.trans (e_put d_516_31 fl_5_22 sh_1 rfl rfl rfl) (e_goto d_516_34 (by decide)))))))
theorem b516_37 {σ : SS} : ev 516 37 [qR 1] [] σ = some (none, (q_put σ 1 5 (σ 1 4))) :=
  Eq.trans (e_aload_n d_516_37 rfl) (Eq.trans (e_aload_n d_516_38 rfl) (Eq.trans (e_getI d_516_39 fl_5_22 sh_1 rfl) (Eq.trans (e_put d_516_42 fl_5_165 sh_1 rfl rfl rfl) (e_vret d_516_45 rfl))))
theorem b519_0 {x1 : Int} {σ : SS} : ev 519 0 [qR 1, qI x1] [] σ = if x1 < 0 then ev 519 28 [qR 1, qI x1] [] σ else ev 519 4 [qR 1, qI x1] [] σ :=
  Eq.trans (e_iload_n d_519_0 rfl) (e_if_lt d_519_1 (by decide))
theorem b519_4 {x1 : Int} {σ : SS} : ev 519 4 [qR 1, qI x1] [] σ = if x1 < (σ 1 1) then ev 519 12 [qR 1, qI x1] [] σ else ev 519 28 [qR 1, qI x1] [] σ :=
  Eq.trans (e_iload_n d_519_4 rfl) (Eq.trans (e_aload_n d_519_5 rfl) (Eq.trans (e_getI d_519_6 fl_5_50 sh_1 rfl) (e_icmp_ge d_519_9 (by decide))))
theorem b519_12 {x1 : Int} {σ : SS} : ev 519 12 [qR 1, qI x1] [] σ = if x1 < 300 then ev 519 19 [qR 1, qI x1] [] σ else ev 519 28 [qR 1, qI x1] [] σ :=
  Eq.trans (e_iload_n d_519_12 rfl) (Eq.trans (e_sipush d_519_13 ks_300) (e_icmp_ge d_519_16 (by decide)))
theorem b519_19 {x1 : Int} {σ : SS} (h : 0 ≤ x1 ∧ x1 < 300) : ev 519 19 [qR 1, qI x1] [] σ = ev 519 29 [qR 1, qI x1] [qI (σ 2 x1.toNat)] σ :=
  Eq.trans (e_aload_n d_519_19 rfl) (Eq.trans (e_getR d_519_20 fl_5_9 sh_1 rfl) (Eq.trans (e_iload_n d_519_23 rfl) (Eq.trans (e_iald d_519_24 sh_2 h) (e_goto d_519_25 (by decide)))))
theorem b519_28 {x1 : Int} {σ : SS} : ev 519 28 [qR 1, qI x1] [] σ = ev 519 29 [qR 1, qI x1] [qI (-1)] σ :=
  e_iconst d_519_28 k_m1
theorem b519_29 {x1 y0 : Int} {σ : SS} : ev 519 29 [qR 1, qI x1] [qI y0] σ = some (some (qI y0), σ) :=
  e_iret d_519_29 (q_okrI rfl)
theorem b501_0 {σ : SS} : ev 501 0 [qR 1, qR 3, qU] [] σ = (ev 517 0 [qR 1, qU] [] σ).bind (fun x => ev 501 4 [qR 1, qR 3, qU] (q_push x.1 []) x.2) :=
  Eq.trans (e_aload_n d_501_0 rfl) (e_callV d_501_1 ml_5_53 fit_501_517 par_517 rfl rfl sh_1 (Nat.le_of_ble_eq_true rfl) (Nat.le_of_ble_eq_true rfl) (Nat.le_of_ble_eq_true rfl) rfl (by decide) rfl)
theorem b501_4 {y0 : Int} {σ : SS} : ev 501 4 [qR 1, qR 3, qU] [qI y0] σ = (ev 518 0 [qR 1, qR 100, qI y0, qU] [] σ).bind (fun x => ev 501 12 [qR 1, qR 3, qI y0] (q_push x.1 []) x.2) :=
  Eq.trans (e_istore_n d_501_4 (by decide) (Nat.le_of_ble_eq_true rfl) rfl) (Eq.trans (e_aload_n d_501_5 rfl) (Eq.trans (e_ldcS d_501_6 st_5_57.1 st_5_57.2) (Eq.trans (e_iload_n d_501_8 rfl) (e_callV d_501_9 ml_5_59 fit_501_518 par_518 rfl rfl sh_1 (Nat.le_of_ble_eq_true rfl) (Nat.le_of_ble_eq_true rfl) (Nat.le_of_ble_eq_true rfl) rfl (by decide) rfl))))
theorem b501_12 {x2 y0 : Int} {σ : SS} : ev 501 12 [qR 1, qR 3, qI x2] [qI y0] σ = if y0 = 0 then ev 501 23 [qR 1, qR 3, qI x2] [] σ else ev 501 15 [qR 1, qR 3, qI x2] [] σ :=
  e_if_eq d_501_12 (by decide)
theorem b501_15 {x2 : Int} {σ : SS} : ev 501 15 [qR 1, qR 3, qI x2] [] σ = (ev 502 0 [qR 1, qR 3] [] σ).bind (fun x => ev 501 20 [qR 1, qR 3, qI x2] (q_push x.1 []) x.2) :=
  Eq.trans (e_aload_n d_501_15 rfl) (Eq.trans (e_aload_n d_501_16 rfl) (e_callV d_501_17 ml_5_63 fit_501_502 par_502 rfl rfl sh_1 (Nat.le_of_ble_eq_true rfl) (Nat.le_of_ble_eq_true rfl) (Nat.le_of_ble_eq_true rfl) rfl (by decide) rfl))
theorem b501_20 {x2 : Int} {σ : SS} : ev 501 20 [qR 1, qR 3, qI x2] [] σ = ev 501 136 [qR 1, qR 3, qI x2] [] σ :=
  e_goto d_501_20 (by decide)
theorem b501_23 {x2 : Int} {σ : SS} : ev 501 23 [qR 1, qR 3, qI x2] [] σ = (ev 518 0 [qR 1, qR 101, qI x2, qU] [] σ).bind (fun x => ev 501 30 [qR 1, qR 3, qI x2] (q_push x.1 []) x.2) :=
  Eq.trans (e_aload_n d_501_23 rfl) (Eq.trans (e_ldcS d_501_24 st_5_66.1 st_5_66.2) (Eq.trans (e_iload_n d_501_26 rfl) (e_callV d_501_27 ml_5_59 fit_501_518 par_518 rfl rfl sh_1 (Nat.le_of_ble_eq_true rfl) (Nat.le_of_ble_eq_true rfl) (Nat.le_of_ble_eq_true rfl) rfl (by decide) rfl)))
theorem b501_30 {x2 y0 : Int} {σ : SS} : ev 501 30 [qR 1, qR 3, qI x2] [qI y0] σ = if y0 = 0 then ev 501 41 [qR 1, qR 3, qI x2] [] σ else ev 501 33 [qR 1, qR 3, qI x2] [] σ :=
  e_if_eq d_501_30 (by decide)
theorem b501_33 {x2 : Int} {σ : SS} : ev 501 33 [qR 1, qR 3, qI x2] [] σ = (ev 503 0 [qR 1, qR 3] [] σ).bind (fun x => ev 501 38 [qR 1, qR 3, qI x2] (q_push x.1 []) x.2) :=
  Eq.trans (e_aload_n d_501_33 rfl) (Eq.trans (e_aload_n d_501_34 rfl) (e_callV d_501_35 ml_5_68 fit_501_503 par_503 rfl rfl sh_1 (Nat.le_of_ble_eq_true rfl) (Nat.le_of_ble_eq_true rfl) (Nat.le_of_ble_eq_true rfl) rfl (by decide) rfl))
theorem b501_38 {x2 : Int} {σ : SS} : ev 501 38 [qR 1, qR 3, qI x2] [] σ = ev 501 136 [qR 1, qR 3, qI x2] [] σ :=
  e_goto d_501_38 (by decide)
theorem b501_41 {x2 : Int} {σ : SS} : ev 501 41 [qR 1, qR 3, qI x2] [] σ = (ev 518 0 [qR 1, qR 102, qI x2, qU] [] σ).bind (fun x => ev 501 48 [qR 1, qR 3, qI x2] (q_push x.1 []) x.2) :=
  Eq.trans (e_aload_n d_501_41 rfl) (Eq.trans (e_ldcS d_501_42 st_5_71.1 st_5_71.2) (Eq.trans (e_iload_n d_501_44 rfl) (e_callV d_501_45 ml_5_59 fit_501_518 par_518 rfl rfl sh_1 (Nat.le_of_ble_eq_true rfl) (Nat.le_of_ble_eq_true rfl) (Nat.le_of_ble_eq_true rfl) rfl (by decide) rfl)))
theorem b501_48 {x2 y0 : Int} {σ : SS} : ev 501 48 [qR 1, qR 3, qI x2] [qI y0] σ = if y0 = 0 then ev 501 59 [qR 1, qR 3, qI x2] [] σ else ev 501 51 [qR 1, qR 3, qI x2] [] σ :=
  e_if_eq d_501_48 (by decide)
theorem b501_51 {x2 : Int} {σ : SS} : ev 501 51 [qR 1, qR 3, qI x2] [] σ = (ev 504 0 [qR 1, qR 3, qU] [] σ).bind (fun x => ev 501 56 [qR 1, qR 3, qI x2] (q_push x.1 []) x.2) :=
  Eq.trans (e_aload_n d_501_51 rfl) (Eq.trans (e_aload_n d_501_52 rfl) (e_callV d_501_53 ml_5_73 fit_501_504 par_504 rfl rfl sh_1 (Nat.le_of_ble_eq_true rfl) (Nat.le_of_ble_eq_true rfl) (Nat.le_of_ble_eq_true rfl) rfl (by decide) rfl))
theorem b501_56 {x2 : Int} {σ : SS} : ev 501 56 [qR 1, qR 3, qI x2] [] σ = ev 501 136 [qR 1, qR 3, qI x2] [] σ :=
  e_goto d_501_56 (by decide)
theorem b501_59 {x2 : Int} {σ : SS} : ev 501 59 [qR 1, qR 3, qI x2] [] σ = (ev 518 0 [qR 1, qR 103, qI x2, qU] [] σ).bind (fun x => ev 501 66 [qR 1, qR 3, qI x2] (q_push x.1 []) x.2) :=
  Eq.trans (e_aload_n d_501_59 rfl) (Eq.trans (e_ldcS d_501_60 st_5_76.1 st_5_76.2) (Eq.trans (e_iload_n d_501_62 rfl) (e_callV d_501_63 ml_5_59 fit_501_518 par_518 rfl rfl sh_1 (Nat.le_of_ble_eq_true rfl) (Nat.le_of_ble_eq_true rfl) (Nat.le_of_ble_eq_true rfl) rfl (by decide) rfl)))
theorem b501_66 {x2 y0 : Int} {σ : SS} : ev 501 66 [qR 1, qR 3, qI x2] [qI y0] σ = if y0 = 0 then ev 501 77 [qR 1, qR 3, qI x2] [] σ else ev 501 69 [qR 1, qR 3, qI x2] [] σ :=
  e_if_eq d_501_66 (by decide)
theorem b501_69 {x2 : Int} {σ : SS} : ev 501 69 [qR 1, qR 3, qI x2] [] σ = (ev 505 0 [qR 1, qR 3, qU, qU] [] σ).bind (fun x => ev 501 74 [qR 1, qR 3, qI x2] (q_push x.1 []) x.2) :=
  Eq.trans (e_aload_n d_501_69 rfl) (Eq.trans (e_aload_n d_501_70 rfl) (e_callV d_501_71 ml_5_78 fit_501_505 par_505 rfl rfl sh_1 (Nat.le_of_ble_eq_true rfl) (Nat.le_of_ble_eq_true rfl) (Nat.le_of_ble_eq_true rfl) rfl (by decide) rfl))
theorem b501_74 {x2 : Int} {σ : SS} : ev 501 74 [qR 1, qR 3, qI x2] [] σ = ev 501 136 [qR 1, qR 3, qI x2] [] σ :=
  e_goto d_501_74 (by decide)
theorem b501_77 {x2 : Int} {σ : SS} : ev 501 77 [qR 1, qR 3, qI x2] [] σ = (ev 518 0 [qR 1, qR 104, qI x2, qU] [] σ).bind (fun x => ev 501 84 [qR 1, qR 3, qI x2] (q_push x.1 []) x.2) :=
  Eq.trans (e_aload_n d_501_77 rfl) (Eq.trans (e_ldcS d_501_78 st_5_81.1 st_5_81.2) (Eq.trans (e_iload_n d_501_80 rfl) (e_callV d_501_81 ml_5_59 fit_501_518 par_518 rfl rfl sh_1 (Nat.le_of_ble_eq_true rfl) (Nat.le_of_ble_eq_true rfl) (Nat.le_of_ble_eq_true rfl) rfl (by decide) rfl)))
theorem b501_84 {x2 y0 : Int} {σ : SS} : ev 501 84 [qR 1, qR 3, qI x2] [qI y0] σ = if y0 = 0 then ev 501 95 [qR 1, qR 3, qI x2] [] σ else ev 501 87 [qR 1, qR 3, qI x2] [] σ :=
  e_if_eq d_501_84 (by decide)
theorem b501_87 {x2 : Int} {σ : SS} : ev 501 87 [qR 1, qR 3, qI x2] [] σ = (ev 506 0 [qR 1, qR 3, qU, qU, qU, qU] [] σ).bind (fun x => ev 501 92 [qR 1, qR 3, qI x2] (q_push x.1 []) x.2) :=
  Eq.trans (e_aload_n d_501_87 rfl) (Eq.trans (e_aload_n d_501_88 rfl) (e_callV d_501_89 ml_5_83 fit_501_506 par_506 rfl rfl sh_1 (Nat.le_of_ble_eq_true rfl) (Nat.le_of_ble_eq_true rfl) (Nat.le_of_ble_eq_true rfl) rfl (by decide) rfl))
theorem b501_92 {x2 : Int} {σ : SS} : ev 501 92 [qR 1, qR 3, qI x2] [] σ = ev 501 136 [qR 1, qR 3, qI x2] [] σ :=
  e_goto d_501_92 (by decide)
theorem b501_95 {x2 : Int} {σ : SS} : ev 501 95 [qR 1, qR 3, qI x2] [] σ = (ev 518 0 [qR 1, qR 105, qI x2, qU] [] σ).bind (fun x => ev 501 102 [qR 1, qR 3, qI x2] (q_push x.1 []) x.2) :=
  Eq.trans (e_aload_n d_501_95 rfl) (Eq.trans (e_ldcS d_501_96 st_5_86.1 st_5_86.2) (Eq.trans (e_iload_n d_501_98 rfl) (e_callV d_501_99 ml_5_59 fit_501_518 par_518 rfl rfl sh_1 (Nat.le_of_ble_eq_true rfl) (Nat.le_of_ble_eq_true rfl) (Nat.le_of_ble_eq_true rfl) rfl (by decide) rfl)))
theorem b501_102 {x2 y0 : Int} {σ : SS} : ev 501 102 [qR 1, qR 3, qI x2] [qI y0] σ = if y0 = 0 then ev 501 113 [qR 1, qR 3, qI x2] [] σ else ev 501 105 [qR 1, qR 3, qI x2] [] σ :=
  e_if_eq d_501_102 (by decide)
theorem b501_105 {x2 : Int} {σ : SS} : ev 501 105 [qR 1, qR 3, qI x2] [] σ = (ev 507 0 [qR 1, qR 3, qU] [] σ).bind (fun x => ev 501 110 [qR 1, qR 3, qI x2] (q_push x.1 []) x.2) :=
  Eq.trans (e_aload_n d_501_105 rfl) (Eq.trans (e_aload_n d_501_106 rfl) (e_callV d_501_107 ml_5_88 fit_501_507 par_507 rfl rfl sh_1 (Nat.le_of_ble_eq_true rfl) (Nat.le_of_ble_eq_true rfl) (Nat.le_of_ble_eq_true rfl) rfl (by decide) rfl))
theorem b501_110 {x2 : Int} {σ : SS} : ev 501 110 [qR 1, qR 3, qI x2] [] σ = ev 501 136 [qR 1, qR 3, qI x2] [] σ :=
  e_goto d_501_110 (by decide)
theorem b501_113 {x2 : Int} {σ : SS} : ev 501 113 [qR 1, qR 3, qI x2] [] σ = (ev 518 0 [qR 1, qR 106, qI x2, qU] [] σ).bind (fun x => ev 501 120 [qR 1, qR 3, qI x2] (q_push x.1 []) x.2) :=
  Eq.trans (e_aload_n d_501_113 rfl) (Eq.trans (e_ldcS d_501_114 st_5_91.1 st_5_91.2) (Eq.trans (e_iload_n d_501_116 rfl) (e_callV d_501_117 ml_5_59 fit_501_518 par_518 rfl rfl sh_1 (Nat.le_of_ble_eq_true rfl) (Nat.le_of_ble_eq_true rfl) (Nat.le_of_ble_eq_true rfl) rfl (by decide) rfl)))
theorem b501_120 {x2 y0 : Int} {σ : SS} : ev 501 120 [qR 1, qR 3, qI x2] [qI y0] σ = if y0 = 0 then ev 501 131 [qR 1, qR 3, qI x2] [] σ else ev 501 123 [qR 1, qR 3, qI x2] [] σ :=
  e_if_eq d_501_120 (by decide)
theorem b501_123 {x2 : Int} {σ : SS} : ev 501 123 [qR 1, qR 3, qI x2] [] σ = (ev 508 0 [qR 1, qR 3] [] σ).bind (fun x => ev 501 128 [qR 1, qR 3, qI x2] (q_push x.1 []) x.2) :=
  Eq.trans (e_aload_n d_501_123 rfl) (Eq.trans (e_aload_n d_501_124 rfl) (e_callV d_501_125 ml_5_93 fit_501_508 par_508 rfl rfl sh_1 (Nat.le_of_ble_eq_true rfl) (Nat.le_of_ble_eq_true rfl) (Nat.le_of_ble_eq_true rfl) rfl (by decide) rfl))
theorem b501_128 {x2 : Int} {σ : SS} : ev 501 128 [qR 1, qR 3, qI x2] [] σ = ev 501 136 [qR 1, qR 3, qI x2] [] σ :=
  e_goto d_501_128 (by decide)
theorem b501_131 {x2 : Int} {σ : SS} : ev 501 131 [qR 1, qR 3, qI x2] [] σ = (ev 515 0 [qR 1, qI 1] [] σ).bind (fun x => ev 501 136 [qR 1, qR 3, qI x2] (q_push x.1 []) x.2) :=
  Eq.trans (e_aload_n d_501_131 rfl) (Eq.trans (e_iconst d_501_132 k_1) (e_callV d_501_133 ml_5_96 fit_501_515 par_515 rfl rfl sh_1 (Nat.le_of_ble_eq_true rfl) (Nat.le_of_ble_eq_true rfl) (Nat.le_of_ble_eq_true rfl) rfl (by decide) rfl))
theorem b501_136 {x2 : Int} {σ : SS} : ev 501 136 [qR 1, qR 3, qI x2] [] σ = some (none, σ) :=
  e_vret d_501_136 rfl
theorem b512_0 {σ : SS} : ev 512 0 [qR 1] [] σ = if (σ 1 2) = 0 then ev 512 8 [qR 1] [] σ else ev 512 7 [qR 1] [] σ :=
  Eq.trans (e_aload_n d_512_0 rfl) (Eq.trans (e_getI d_512_1 fl_5_19 sh_1 rfl) (e_if_eq d_512_4 (by decide)))
theorem b512_7 {σ : SS} : ev 512 7 [qR 1] [] σ = some (none, σ) :=
  e_vret d_512_7 rfl
theorem b512_8 {σ : SS} : ev 512 8 [qR 1] [] σ = (ev 516 0 [qR 1] [] σ).bind (fun x => ev 512 12 [qR 1] (q_push x.1 []) x.2) :=
  Eq.trans (e_aload_n d_512_8 rfl) (e_callV d_512_9 ml_5_36 fit_512_516 par_516 rfl rfl sh_1 (Nat.le_of_ble_eq_true rfl) (Nat.le_of_ble_eq_true rfl) (Nat.le_of_ble_eq_true rfl) rfl (by decide) rfl)
theorem b512_12 {σ : SS} : ev 512 12 [qR 1] [] σ = (ev 519 0 [qR 1, qI (σ 1 4)] [] σ).bind (fun x => ev 512 20 [qR 1] (q_push x.1 []) x.2) :=
  Eq.trans (e_aload_n d_512_12 rfl) (Eq.trans (e_aload_n d_512_13 rfl) (Eq.trans (e_getI d_512_14 fl_5_22 sh_1 rfl) (e_callV d_512_17 ml_5_39 fit_512_519 par_519 rfl rfl sh_1 (Nat.le_of_ble_eq_true rfl) (Nat.le_of_ble_eq_true rfl) (Nat.le_of_ble_eq_true rfl) rfl (by decide) rfl)))
theorem b512_20 {y0 : Int} {σ : SS} : ev 512 20 [qR 1] [qI y0] σ = if y0 = 59 then ev 512 30 [qR 1] [] σ else ev 512 25 [qR 1] [] σ :=
  Eq.trans (e_bipush d_512_20 kb_59) (e_icmp_eq d_512_22 (by decide))
theorem b512_25 {σ : SS} : ev 512 25 [qR 1] [] σ = (ev 515 0 [qR 1, qI 1] [] σ).bind (fun x => ev 512 30 [qR 1] (q_push x.1 []) x.2) :=
  Eq.trans (e_aload_n d_512_25 rfl) (Eq.trans (e_iconst d_512_26 k_1) (e_callV d_512_27 ml_5_96 fit_512_515 par_515 rfl rfl sh_1 (Nat.le_of_ble_eq_true rfl) (Nat.le_of_ble_eq_true rfl) (Nat.le_of_ble_eq_true rfl) rfl (by decide) rfl))
theorem b512_30 {σ : SS} (h : -2147483648 ≤ ((σ 1 4) + 1) ∧ ((σ 1 4) + 1) ≤ 2147483647) : ev 512 30 [qR 1] [] σ = some (none, (q_put σ 1 4 ((σ 1 4) + 1))) :=
  Eq.trans (e_aload_n d_512_30 rfl) (Eq.trans (e_dup d_512_31 rfl) (Eq.trans (e_getI d_512_32 fl_5_22 sh_1 rfl) (Eq.trans (e_iconst d_512_35 k_1) (Eq.trans (e_iadd d_512_36 h) (Eq.trans (e_put d_512_37 fl_5_22 sh_1 rfl rfl rfl) (e_vret d_512_40 rfl))))))
theorem b517_0 {σ : SS} : ev 517 0 [qR 1, qU] [] σ = ev 517 5 [qR 1, qI (σ 1 4)] [] σ :=
  Eq.trans (e_aload_n d_517_0 rfl) (Eq.trans (e_getI d_517_1 fl_5_22 sh_1 rfl) (e_istore_n d_517_4 (by decide) (Nat.le_of_ble_eq_true rfl) rfl))
theorem b517_5 {x1 : Int} {σ : SS} : ev 517 5 [qR 1, qI x1] [] σ = if x1 < (σ 1 1) then ev 517 13 [qR 1, qI x1] [] σ else ev 517 30 [qR 1, qI x1] [] σ :=
  Eq.trans (e_iload_n d_517_5 rfl) (Eq.trans (e_aload_n d_517_6 rfl) (Eq.trans (e_getI d_517_7 fl_5_50 sh_1 rfl) (e_icmp_ge d_517_10 (by decide))))
theorem b517_13 {x1 : Int} {σ : SS} : ev 517 13 [qR 1, qI x1] [] σ = (ev 519 0 [qR 1, qI x1] [] σ).bind (fun x => ev 517 18 [qR 1, qI x1] (q_push x.1 []) x.2) :=
  Eq.trans (e_aload_n d_517_13 rfl) (Eq.trans (e_iload_n d_517_14 rfl) (e_callV d_517_15 ml_5_39 fit_517_519 par_519 rfl rfl sh_1 (Nat.le_of_ble_eq_true rfl) (Nat.le_of_ble_eq_true rfl) (Nat.le_of_ble_eq_true rfl) rfl (by decide) rfl))
theorem b517_18 {x1 y0 : Int} {σ : SS} : ev 517 18 [qR 1, qI x1] [qI y0] σ = (ev 520 0 [qI y0] [] σ).bind (fun x => ev 517 21 [qR 1, qI x1] (q_push x.1 []) x.2) :=
  e_callS d_517_18 (by decide) ml_5_168 fit_517_520 par_520 rfl rfl (Nat.le_of_ble_eq_true rfl) (Nat.le_of_ble_eq_true rfl) (Nat.le_of_ble_eq_true rfl) rfl (by decide) rfl
theorem b517_21 {x1 y0 : Int} {σ : SS} : ev 517 21 [qR 1, qI x1] [qI y0] σ = if y0 = 0 then ev 517 30 [qR 1, qI x1] [] σ else ev 517 24 [qR 1, qI x1] [] σ :=
  e_if_eq d_517_21 (by decide)
theorem b517_24 {x1 : Int} {σ : SS} (h : -2147483648 ≤ (x1 + 1) ∧ (x1 + 1) ≤ 2147483647) : ev 517 24 [qR 1, qI x1] [] σ = ev 517 5 [qR 1, qI (x1 + 1)] [] σ :=
  Eq.trans (e_iinc d_517_24 (by decide) rfl h rfl) (e_goto d_517_27 (by decide))
theorem b517_30 {x1 : Int} {σ : SS} : ev 517 30 [qR 1, qI x1] [] σ = some (some (qI x1), σ) :=
  Eq.trans (e_iload_n d_517_30 rfl) (e_iret d_517_31 (q_okrI rfl))
theorem b518_0 {x2 : Int} {k1 : Nat} {σ : SS} (h : (-2147483648 ≤ (x2 - (σ 1 4)) ∧ (x2 - (σ 1 4)) ≤ 2147483647) ∧ (100 ≤ k1 ∧ k1 < 107)) : ev 518 0 [qR 1, qR k1, qI x2, qU] [] σ = if (x2 - (σ 1 4)) = ((q_strs.getD (k1 - 100) []).length : Int) then ev 518 15 [qR 1, qR k1, qI x2, qU] [] σ else ev 518 13 [qR 1, qR k1, qI x2, qU] [] σ :=
  Eq.trans (e_iload_n d_518_0 rfl) (Eq.trans (e_aload_n d_518_1 rfl) (Eq.trans (e_getI d_518_2 fl_5_22 sh_1 rfl) (Eq.trans (e_isub d_518_5 h.1) (Eq.trans (e_aload_n d_518_6 rfl) (Eq.trans (e_slen d_518_7 ml_5_171 fit_518_1000 par_1000 h.2 (Nat.le_of_ble_eq_true rfl)) (e_icmp_eq d_518_10 (by decide)))))))
theorem b518_13 {x2 : Int} {k1 : Nat} {σ : SS} : ev 518 13 [qR 1, qR k1, qI x2, qU] [] σ = some (some (qI 0), σ) :=
  Eq.trans (e_iconst d_518_13 k_0) (e_iret d_518_14 (q_okrZ rfl (by decide)))
theorem b518_15 {x2 : Int} {k1 : Nat} {σ : SS} : ev 518 15 [qR 1, qR k1, qI x2, qU] [] σ = ev 518 17 [qR 1, qR k1, qI x2, qI 0] [] σ :=
  Eq.trans (e_iconst d_518_15 k_0) (e_istore_n d_518_16 (by decide) (Nat.le_of_ble_eq_true rfl) rfl)
theorem b518_17 {x2 x3 : Int} {k1 : Nat} {σ : SS} (h : 100 ≤ k1 ∧ k1 < 107) : ev 518 17 [qR 1, qR k1, qI x2, qI x3] [] σ = if x3 < ((q_strs.getD (k1 - 100) []).length : Int) then ev 518 25 [qR 1, qR k1, qI x2, qI x3] [] σ else ev 518 51 [qR 1, qR k1, qI x2, qI x3] [] σ :=
  Eq.trans (e_iload_n d_518_17 rfl) (Eq.trans (e_aload_n d_518_18 rfl) (Eq.trans (e_slen d_518_19 ml_5_171 fit_518_1000 par_1000 h (Nat.le_of_ble_eq_true rfl)) (e_icmp_ge d_518_22 (by decide))))
theorem b518_25 {x2 x3 : Int} {k1 : Nat} {σ : SS} (h : -2147483648 ≤ ((σ 1 4) + x3) ∧ ((σ 1 4) + x3) ≤ 2147483647) : ev 518 25 [qR 1, qR k1, qI x2, qI x3] [] σ = (ev 519 0 [qR 1, qI ((σ 1 4) + x3)] [] σ).bind (fun x => ev 518 35 [qR 1, qR k1, qI x2, qI x3] (q_push x.1 []) x.2) :=
  Eq.trans (e_aload_n d_518_25 rfl) (Eq.trans (e_aload_n d_518_26 rfl) (Eq.trans (e_getI d_518_27 fl_5_22 sh_1 rfl) (Eq.trans (e_iload_n d_518_30 rfl) (Eq.trans (e_iadd d_518_31 h) (e_callV d_518_32 ml_5_39 fit_518_519 par_519 rfl rfl sh_1 (Nat.le_of_ble_eq_true rfl) (Nat.le_of_ble_eq_true rfl) (Nat.le_of_ble_eq_true rfl) rfl (by decide) rfl)))))
theorem b518_35 {x2 x3 y0 : Int} {k1 : Nat} {σ : SS} (h : 100 ≤ k1 ∧ k1 < 107 ∧ 0 ≤ x3 ∧ x3 < ((q_strs.getD (k1 - 100) []).length : Int)) : ev 518 35 [qR 1, qR k1, qI x2, qI x3] [qI y0] σ = if y0 = ((q_strs.getD (k1 - 100) []).getD x3.toNat 0) then ev 518 45 [qR 1, qR k1, qI x2, qI x3] [] σ else ev 518 43 [qR 1, qR k1, qI x2, qI x3] [] σ :=
  Eq.trans (e_aload_n d_518_35 rfl) (Eq.trans (e_iload_n d_518_36 rfl) (Eq.trans (e_schr d_518_37 ml_5_175 fit_518_1001 par_1001 h (Nat.le_of_ble_eq_true rfl)) (e_icmp_eq d_518_40 (by decide))))
theorem b518_43 {x2 x3 : Int} {k1 : Nat} {σ : SS} : ev 518 43 [qR 1, qR k1, qI x2, qI x3] [] σ = some (some (qI 0), σ) :=
  Eq.trans (e_iconst d_518_43 k_0) (e_iret d_518_44 (q_okrZ rfl (by decide)))
theorem b518_45 {x2 x3 : Int} {k1 : Nat} {σ : SS} (h : -2147483648 ≤ (x3 + 1) ∧ (x3 + 1) ≤ 2147483647) : ev 518 45 [qR 1, qR k1, qI x2, qI x3] [] σ = ev 518 17 [qR 1, qR k1, qI x2, qI (x3 + 1)] [] σ :=
  Eq.trans (e_iinc d_518_45 (by decide) rfl h rfl) (e_goto d_518_48 (by decide))
theorem b518_51 {x2 x3 : Int} {k1 : Nat} {σ : SS} : ev 518 51 [qR 1, qR k1, qI x2, qI x3] [] σ = some (some (qI 1), σ) :=
  Eq.trans (e_iconst d_518_51 k_1) (e_iret d_518_52 (q_okrZ rfl (by decide)))
theorem b502_0 {σ : SS} : ev 502 0 [qR 1, qR 3] [] σ = (ev 513 0 [qR 1, qI 1, qI 4] [] σ).bind (fun x => ev 502 6 [qR 1, qR 3] (q_push x.1 []) x.2) :=
  Eq.trans (e_aload_n d_502_0 rfl) (Eq.trans (e_iconst d_502_1 k_1) (Eq.trans (e_iconst d_502_2 k_4) (e_callV d_502_3 ml_5_100 fit_502_513 par_513 rfl rfl sh_1 (Nat.le_of_ble_eq_true rfl) (Nat.le_of_ble_eq_true rfl) (Nat.le_of_ble_eq_true rfl) rfl (by decide) rfl)))
theorem b502_6 {σ : SS} : ev 502 6 [qR 1, qR 3] [] σ = (ev 511 0 [qR 1, qI 1, qI 99, qU, qU, qU] [] σ).bind (fun x => ev 502 14 [qR 1, qR 3] (q_push x.1 [qR 3]) x.2) :=
  Eq.trans (e_aload_n d_502_6 rfl) (Eq.trans (e_aload_n d_502_7 rfl) (Eq.trans (e_iconst d_502_8 k_1) (Eq.trans (e_bipush d_502_9 kb_99) (e_callV d_502_11 ml_5_104 fit_502_511 par_511 rfl rfl sh_1 (Nat.le_of_ble_eq_true rfl) (Nat.le_of_ble_eq_true rfl) (Nat.le_of_ble_eq_true rfl) rfl (by decide) rfl))))
theorem b502_14 {y0 : Int} {σ : SS} : ev 502 14 [qR 1, qR 3] [qI y0, qR 3] σ = (ev 511 0 [qR 1, qI 0, qI 9, qU, qU, qU] [] (q_put σ 3 11 y0)).bind (fun x => ev 502 25 [qR 1, qR 3] (q_push x.1 [qR 3]) x.2) :=
  Eq.trans (e_put d_502_14 fl_5_108 sh_3 rfl rfl rfl) (Eq.trans (e_aload_n d_502_17 rfl) (Eq.trans (e_aload_n d_502_18 rfl) (Eq.trans (e_iconst d_502_19 k_0) (Eq.trans (e_bipush d_502_20 kb_9) (e_callV d_502_22 ml_5_104 fit_502_511 par_511 rfl rfl sh_1 (Nat.le_of_ble_eq_true rfl) (Nat.le_of_ble_eq_true rfl) (Nat.le_of_ble_eq_true rfl) rfl (by decide) rfl)))))
theorem b502_25 {y0 : Int} {σ : SS} : ev 502 25 [qR 1, qR 3] [qI y0, qR 3] σ = (ev 511 0 [qR 1, qI 0, qI 99, qU, qU, qU] [] (q_put σ 3 12 y0)).bind (fun x => ev 502 36 [qR 1, qR 3] (q_push x.1 [qR 3]) x.2) :=
  Eq.trans (e_put d_502_25 fl_5_110 sh_3 rfl rfl rfl) (Eq.trans (e_aload_n d_502_28 rfl) (Eq.trans (e_aload_n d_502_29 rfl) (Eq.trans (e_iconst d_502_30 k_0) (Eq.trans (e_bipush d_502_31 kb_99) (e_callV d_502_33 ml_5_104 fit_502_511 par_511 rfl rfl sh_1 (Nat.le_of_ble_eq_true rfl) (Nat.le_of_ble_eq_true rfl) (Nat.le_of_ble_eq_true rfl) rfl (by decide) rfl)))))
theorem b502_36 {y0 : Int} {σ : SS} : ev 502 36 [qR 1, qR 3] [qI y0, qR 3] σ = some (none, (q_put σ 3 13 y0)) :=
  Eq.trans (e_put d_502_36 fl_5_113 sh_3 rfl rfl rfl) (e_vret d_502_39 rfl)
theorem b503_0 {σ : SS} : ev 503 0 [qR 1, qR 3] [] σ = (ev 513 0 [qR 1, qI 2, qI 4] [] σ).bind (fun x => ev 503 6 [qR 1, qR 3] (q_push x.1 []) x.2) :=
  Eq.trans (e_aload_n d_503_0 rfl) (Eq.trans (e_iconst d_503_1 k_2) (Eq.trans (e_iconst d_503_2 k_4) (e_callV d_503_3 ml_5_100 fit_503_513 par_513 rfl rfl sh_1 (Nat.le_of_ble_eq_true rfl) (Nat.le_of_ble_eq_true rfl) (Nat.le_of_ble_eq_true rfl) rfl (by decide) rfl)))
theorem b503_6 {σ : SS} : ev 503 6 [qR 1, qR 3] [] σ = (ev 511 0 [qR 1, qI 0, qI 23, qU, qU, qU] [] σ).bind (fun x => ev 503 14 [qR 1, qR 3] (q_push x.1 [qR 3]) x.2) :=
  Eq.trans (e_aload_n d_503_6 rfl) (Eq.trans (e_aload_n d_503_7 rfl) (Eq.trans (e_iconst d_503_8 k_0) (Eq.trans (e_bipush d_503_9 kb_23) (e_callV d_503_11 ml_5_104 fit_503_511 par_511 rfl rfl sh_1 (Nat.le_of_ble_eq_true rfl) (Nat.le_of_ble_eq_true rfl) (Nat.le_of_ble_eq_true rfl) rfl (by decide) rfl))))
theorem b503_14 {y0 : Int} {σ : SS} : ev 503 14 [qR 1, qR 3] [qI y0, qR 3] σ = some (none, (q_put σ 3 14 y0)) :=
  Eq.trans (e_put d_503_14 fl_5_116 sh_3 rfl rfl rfl) (e_vret d_503_17 rfl)
theorem b504_0 {σ : SS} : ev 504 0 [qR 1, qR 3, qU] [] σ = (ev 514 0 [qR 1, qI (σ 3 8), qI 6, qI 5] [] σ).bind (fun x => ev 504 11 [qR 1, qR 3, qU] (q_push x.1 []) x.2) :=
  Eq.trans (e_aload_n d_504_0 rfl) (Eq.trans (e_aload_n d_504_1 rfl) (Eq.trans (e_getI d_504_2 fl_5_118 sh_3 rfl) (Eq.trans (e_bipush d_504_5 kb_6) (Eq.trans (e_iconst d_504_7 k_5) (e_callV d_504_8 ml_5_121 fit_504_514 par_514 rfl rfl sh_1 (Nat.le_of_ble_eq_true rfl) (Nat.le_of_ble_eq_true rfl) (Nat.le_of_ble_eq_true rfl) rfl (by decide) rfl)))))
theorem b504_11 {σ : SS} : ev 504 11 [qR 1, qR 3, qU] [] σ = (ev 511 0 [qR 1, qI 0, qI 9, qU, qU, qU] [] σ).bind (fun x => ev 504 18 [qR 1, qR 3, qU] (q_push x.1 []) x.2) :=
  Eq.trans (e_aload_n d_504_11 rfl) (Eq.trans (e_iconst d_504_12 k_0) (Eq.trans (e_bipush d_504_13 kb_9) (e_callV d_504_15 ml_5_104 fit_504_511 par_511 rfl rfl sh_1 (Nat.le_of_ble_eq_true rfl) (Nat.le_of_ble_eq_true rfl) (Nat.le_of_ble_eq_true rfl) rfl (by decide) rfl)))
theorem b504_18 {y0 : Int} {σ : SS} : ev 504 18 [qR 1, qR 3, qU] [qI y0] σ = if (σ 1 2) = 0 then ev 504 26 [qR 1, qR 3, qI y0] [] σ else ev 504 31 [qR 1, qR 3, qI y0] [] σ :=
  Eq.trans (e_istore_n d_504_18 (by decide) (Nat.le_of_ble_eq_true rfl) rfl) (Eq.trans (e_aload_n d_504_19 rfl) (Eq.trans (e_getI d_504_20 fl_5_19 sh_1 rfl) (e_if_ne d_504_23 (by decide))))
theorem b504_26 {x2 : Int} {σ : SS} : ev 504 26 [qR 1, qR 3, qI x2] [] σ = (ev 604 0 [qR 3, qI x2] [] σ).bind (fun x => ev 504 31 [qR 1, qR 3, qI x2] (q_push x.1 []) x.2) :=
  Eq.trans (e_aload_n d_504_26 rfl) (Eq.trans (e_iload_n d_504_27 rfl) (e_callV d_504_28 ml_5_125 fit_504_604 par_604 rfl rfl sh_3 (Nat.le_of_ble_eq_true rfl) (Nat.le_of_ble_eq_true rfl) (Nat.le_of_ble_eq_true rfl) rfl (by decide) rfl))
theorem b504_31 {x2 : Int} {σ : SS} : ev 504 31 [qR 1, qR 3, qI x2] [] σ = some (none, σ) :=
  e_vret d_504_31 rfl
theorem b505_0 {σ : SS} : ev 505 0 [qR 1, qR 3, qU, qU] [] σ = (ev 514 0 [qR 1, qI (σ 3 9), qI 9, qI 3] [] σ).bind (fun x => ev 505 11 [qR 1, qR 3, qU, qU] (q_push x.1 []) x.2) :=
  Eq.trans (e_aload_n d_505_0 rfl) (Eq.trans (e_aload_n d_505_1 rfl) (Eq.trans (e_getI d_505_2 fl_5_128 sh_3 rfl) (Eq.trans (e_bipush d_505_5 kb_9) (Eq.trans (e_iconst d_505_7 k_3) (e_callV d_505_8 ml_5_121 fit_505_514 par_514 rfl rfl sh_1 (Nat.le_of_ble_eq_true rfl) (Nat.le_of_ble_eq_true rfl) (Nat.le_of_ble_eq_true rfl) rfl (by decide) rfl)))))
theorem b505_11 {σ : SS} (h : -2147483648 ≤ ((σ 3 8) - 1) ∧ ((σ 3 8) - 1) ≤ 2147483647) : ev 505 11 [qR 1, qR 3, qU, qU] [] σ = (ev 511 0 [qR 1, qI 0, qI ((σ 3 8) - 1), qU, qU, qU] [] σ).bind (fun x => ev 505 22 [qR 1, qR 3, qU, qU] (q_push x.1 []) x.2) :=
  Eq.trans (e_aload_n d_505_11 rfl) (Eq.trans (e_iconst d_505_12 k_0) (Eq.trans (e_aload_n d_505_13 rfl) (Eq.trans (e_getI d_505_14 fl_5_118 sh_3 rfl) (Eq.trans (e_iconst d_505_17 k_1) (Eq.trans (e_isub d_505_18 h) (e_callV d_505_19 ml_5_104 fit_505_511 par_511 rfl rfl sh_1 (Nat.le_of_ble_eq_true rfl) (Nat.le_of_ble_eq_true rfl) (Nat.le_of_ble_eq_true rfl) rfl (by decide) rfl))))))
theorem b505_22 {y0 : Int} {σ : SS} (h : -2147483648 ≤ ((σ 3 8) - 1) ∧ ((σ 3 8) - 1) ≤ 2147483647) : ev 505 22 [qR 1, qR 3, qU, qU] [qI y0] σ = (ev 511 0 [qR 1, qI 0, qI ((σ 3 8) - 1), qU, qU, qU] [] σ).bind (fun x => ev 505 34 [qR 1, qR 3, qI y0, qU] (q_push x.1 []) x.2) :=
  Eq.trans (e_istore_n d_505_22 (by decide) (Nat.le_of_ble_eq_true rfl) rfl) (Eq.trans (e_aload_n d_505_23 rfl) (Eq.trans (e_iconst d_505_24 k_0) (Eq.trans (e_aload_n d_505_25 rfl) (Eq.trans (e_getI d_505_26 fl_5_118 sh_3 rfl) (Eq.trans (e_iconst d_505_29 k_1) (Eq.trans (e_isub d_505_30 h) (e_callV d_505_31 ml_5_104 fit_505_511 par_511 rfl rfl sh_1 (Nat.le_of_ble_eq_true rfl) (Nat.le_of_ble_eq_true rfl) (Nat.le_of_ble_eq_true rfl) rfl (by decide) rfl)))))))
theorem b505_34 {x2 y0 : Int} {σ : SS} : ev 505 34 [qR 1, qR 3, qI x2, qU] [qI y0] σ = if (σ 1 2) = 0 then ev 505 42 [qR 1, qR 3, qI x2, qI y0] [] σ else ev 505 64 [qR 1, qR 3, qI x2, qI y0] [] σ :=
  Eq.trans (e_istore_n d_505_34 (by decide) (Nat.le_of_ble_eq_true rfl) rfl) (Eq.trans (e_aload_n d_505_35 rfl) (Eq.trans (e_getI d_505_36 fl_5_19 sh_1 rfl) (e_if_ne d_505_39 (by decide))))
theorem b505_42 {x2 x3 : Int} {σ : SS} : ev 505 42 [qR 1, qR 3, qI x2, qI x3] [] σ = if x2 = x3 then ev 505 59 [qR 1, qR 3, qI x2, qI x3] [] σ else ev 505 47 [qR 1, qR 3, qI x2, qI x3] [] σ :=
  Eq.trans (e_iload_n d_505_42 rfl) (Eq.trans (e_iload_n d_505_43 rfl) (e_icmp_eq d_505_44 (by decide)))
theorem b505_47 {x2 x3 : Int} {σ : SS} : ev 505 47 [qR 1, qR 3, qI x2, qI x3] [] σ = (ev 609 0 [qR 3, qI x2] [] σ).bind (fun x => ev 505 52 [qR 1, qR 3, qI x2, qI x3] (q_push x.1 []) x.2) :=
  Eq.trans (e_aload_n d_505_47 rfl) (Eq.trans (e_iload_n d_505_48 rfl) (e_callV d_505_49 ml_5_131 fit_505_609 par_609 rfl rfl sh_3 (Nat.le_of_ble_eq_true rfl) (Nat.le_of_ble_eq_true rfl) (Nat.le_of_ble_eq_true rfl) rfl (by decide) rfl))
theorem b505_52 {x2 x3 y0 : Int} {σ : SS} : ev 505 52 [qR 1, qR 3, qI x2, qI x3] [qI y0] σ = (ev 848 0 [qI y0, qI x3] [] σ).bind (fun x => ev 505 56 [qR 1, qR 3, qI x2, qI x3] (q_push x.1 []) x.2) :=
  Eq.trans (e_iload_n d_505_52 rfl) (e_callS d_505_53 (by decide) ml_5_134 fit_505_848 par_848 rfl rfl (Nat.le_of_ble_eq_true rfl) (Nat.le_of_ble_eq_true rfl) (Nat.le_of_ble_eq_true rfl) rfl (by decide) rfl)
theorem b505_56 {x2 x3 y0 : Int} {σ : SS} : ev 505 56 [qR 1, qR 3, qI x2, qI x3] [qI y0] σ = if y0 = 0 then ev 505 64 [qR 1, qR 3, qI x2, qI x3] [] σ else ev 505 59 [qR 1, qR 3, qI x2, qI x3] [] σ :=
  e_if_eq d_505_56 (by decide)
theorem b505_59 {x2 x3 : Int} {σ : SS} : ev 505 59 [qR 1, qR 3, qI x2, qI x3] [] σ = (ev 515 0 [qR 1, qI 4] [] σ).bind (fun x => ev 505 64 [qR 1, qR 3, qI x2, qI x3] (q_push x.1 []) x.2) :=
  Eq.trans (e_aload_n d_505_59 rfl) (Eq.trans (e_iconst d_505_60 k_4) (e_callV d_505_61 ml_5_96 fit_505_515 par_515 rfl rfl sh_1 (Nat.le_of_ble_eq_true rfl) (Nat.le_of_ble_eq_true rfl) (Nat.le_of_ble_eq_true rfl) rfl (by decide) rfl))
theorem b505_64 {x2 x3 : Int} {σ : SS} : ev 505 64 [qR 1, qR 3, qI x2, qI x3] [] σ = if (σ 1 2) = 0 then ev 505 71 [qR 1, qR 3, qI x2, qI x3] [] σ else ev 505 77 [qR 1, qR 3, qI x2, qI x3] [] σ :=
  Eq.trans (e_aload_n d_505_64 rfl) (Eq.trans (e_getI d_505_65 fl_5_19 sh_1 rfl) (e_if_ne d_505_68 (by decide)))
theorem b505_71 {x2 x3 : Int} {σ : SS} : ev 505 71 [qR 1, qR 3, qI x2, qI x3] [] σ = (ev 605 0 [qR 3, qI x2, qI x3] [] σ).bind (fun x => ev 505 77 [qR 1, qR 3, qI x2, qI x3] (q_push x.1 []) x.2) :=
  Eq.trans (e_aload_n d_505_71 rfl) (Eq.trans (e_iload_n d_505_72 rfl) (Eq.trans (e_iload_n d_505_73 rfl) (e_callV d_505_74 ml_5_138 fit_505_605 par_605 rfl rfl sh_3 (Nat.le_of_ble_eq_true rfl) (Nat.le_of_ble_eq_true rfl) (Nat.le_of_ble_eq_true rfl) rfl (by decide) rfl)))
theorem b505_77 {x2 x3 : Int} {σ : SS} : ev 505 77 [qR 1, qR 3, qI x2, qI x3] [] σ = some (none, σ) :=
  e_vret d_505_77 rfl
theorem b506_0 {σ : SS} : ev 506 0 [qR 1, qR 3, qU, qU, qU, qU] [] σ = (ev 514 0 [qR 1, qI (σ 3 10), qI 6, qI 4] [] σ).bind (fun x => ev 506 11 [qR 1, qR 3, qU, qU, qU, qU] (q_push x.1 []) x.2) :=
  Eq.trans (e_aload_n d_506_0 rfl) (Eq.trans (e_aload_n d_506_1 rfl) (Eq.trans (e_getI d_506_2 fl_5_141 sh_3 rfl) (Eq.trans (e_bipush d_506_5 kb_6) (Eq.trans (e_iconst d_506_7 k_4) (e_callV d_506_8 ml_5_121 fit_506_514 par_514 rfl rfl sh_1 (Nat.le_of_ble_eq_true rfl) (Nat.le_of_ble_eq_true rfl) (Nat.le_of_ble_eq_true rfl) rfl (by decide) rfl)))))
theorem b506_11 {σ : SS} (h : -2147483648 ≤ ((σ 3 8) - 1) ∧ ((σ 3 8) - 1) ≤ 2147483647) : ev 506 11 [qR 1, qR 3, qU, qU, qU, qU] [] σ = (ev 511 0 [qR 1, qI 0, qI ((σ 3 8) - 1), qU, qU, qU] [] σ).bind (fun x => ev 506 22 [qR 1, qR 3, qU, qU, qU, qU] (q_push x.1 []) x.2) :=
  Eq.trans (e_aload_n d_506_11 rfl) (Eq.trans (e_iconst d_506_12 k_0) (Eq.trans (e_aload_n d_506_13 rfl) (Eq.trans (e_getI d_506_14 fl_5_118 sh_3 rfl) (Eq.trans (e_iconst d_506_17 k_1) (Eq.trans (e_isub d_506_18 h) (e_callV d_506_19 ml_5_104 fit_506_511 par_511 rfl rfl sh_1 (Nat.le_of_ble_eq_true rfl) (Nat.le_of_ble_eq_true rfl) (Nat.le_of_ble_eq_true rfl) rfl (by decide) rfl))))))
theorem b506_22 {y0 : Int} {σ : SS} : ev 506 22 [qR 1, qR 3, qU, qU, qU, qU] [qI y0] σ = (ev 511 0 [qR 1, qI 1, qI 99, qU, qU, qU] [] σ).bind (fun x => ev 506 30 [qR 1, qR 3, qI y0, qU, qU, qU] (q_push x.1 []) x.2) :=
  Eq.trans (e_istore_n d_506_22 (by decide) (Nat.le_of_ble_eq_true rfl) rfl) (Eq.trans (e_aload_n d_506_23 rfl) (Eq.trans (e_iconst d_506_24 k_1) (Eq.trans (e_bipush d_506_25 kb_99) (e_callV d_506_27 ml_5_104 fit_506_511 par_511 rfl rfl sh_1 (Nat.le_of_ble_eq_true rfl) (Nat.le_of_ble_eq_true rfl) (Nat.le_of_ble_eq_true rfl) rfl (by decide) rfl))))
theorem b506_30 {x2 y0 : Int} {σ : SS} : ev 506 30 [qR 1, qR 3, qI x2, qU, qU, qU] [qI y0] σ = (ev 511 0 [qR 1, qI 0, qI 9, qU, qU, qU] [] σ).bind (fun x => ev 506 38 [qR 1, qR 3, qI x2, qI y0, qU, qU] (q_push x.1 []) x.2) :=
  Eq.trans (e_istore_n d_506_30 (by decide) (Nat.le_of_ble_eq_true rfl) rfl) (Eq.trans (e_aload_n d_506_31 rfl) (Eq.trans (e_iconst d_506_32 k_0) (Eq.trans (e_bipush d_506_33 kb_9) (e_callV d_506_35 ml_5_104 fit_506_511 par_511 rfl rfl sh_1 (Nat.le_of_ble_eq_true rfl) (Nat.le_of_ble_eq_true rfl) (Nat.le_of_ble_eq_true rfl) rfl (by decide) rfl))))
theorem b506_38 {x2 x3 y0 : Int} {σ : SS} : ev 506 38 [qR 1, qR 3, qI x2, qI x3, qU, qU] [qI y0] σ = (ev 511 0 [qR 1, qI 0, qI 8, qU, qU, qU] [] σ).bind (fun x => ev 506 47 [qR 1, qR 3, qI x2, qI x3, qI y0, qU] (q_push x.1 []) x.2) :=
  Eq.trans (e_istore d_506_38 (by decide) (Nat.le_of_ble_eq_true rfl) rfl) (Eq.trans (e_aload_n d_506_40 rfl) (Eq.trans (e_iconst d_506_41 k_0) (Eq.trans (e_bipush d_506_42 kb_8) (e_callV d_506_44 ml_5_104 fit_506_511 par_511 rfl rfl sh_1 (Nat.le_of_ble_eq_true rfl) (Nat.le_of_ble_eq_true rfl) (Nat.le_of_ble_eq_true rfl) rfl (by decide) rfl))))
theorem b506_47 {x2 x3 x4 y0 : Int} {σ : SS} : ev 506 47 [qR 1, qR 3, qI x2, qI x3, qI x4, qU] [qI y0] σ = if (σ 1 2) = 0 then ev 506 56 [qR 1, qR 3, qI x2, qI x3, qI x4, qI y0] [] σ else ev 506 66 [qR 1, qR 3, qI x2, qI x3, qI x4, qI y0] [] σ :=
  Eq.trans (e_istore d_506_47 (by decide) (Nat.le_of_ble_eq_true rfl) rfl) (Eq.trans (e_aload_n d_506_49 rfl) (Eq.trans (e_getI d_506_50 fl_5_19 sh_1 rfl) (e_if_ne d_506_53 (by decide))))
theorem b506_56 {x2 x3 x4 x5 : Int} {σ : SS} : ev 506 56 [qR 1, qR 3, qI x2, qI x3, qI x4, qI x5] [] σ = (ev 606 0 [qR 3, qI x2, qI x3, qI x4, qI x5] [] σ).bind (fun x => ev 506 66 [qR 1, qR 3, qI x2, qI x3, qI x4, qI x5] (q_push x.1 []) x.2) :=
  Eq.trans (e_aload_n d_506_56 rfl) (Eq.trans (e_iload_n d_506_57 rfl) (Eq.trans (e_iload_n d_506_58 rfl) (Eq.trans (e_iload d_506_59 rfl) (Eq.trans (e_iload d_506_61 rfl) (e_callV d_506_63 ml_5_144 fit_506_606 par_606 rfl rfl sh_3 (Nat.le_of_ble_eq_true rfl) (Nat.le_of_ble_eq_true rfl) (Nat.le_of_ble_eq_true rfl) rfl (by decide) rfl)))))
theorem b506_66 {x2 x3 x4 x5 : Int} {σ : SS} : ev 506 66 [qR 1, qR 3, qI x2, qI x3, qI x4, qI x5] [] σ = some (none, σ) :=
  e_vret d_506_66 rfl
theorem b507_0 {σ : SS} (h : (-2147483648 ≤ ((σ 1 4) + 4) ∧ ((σ 1 4) + 4) ≤ 2147483647) ∧ (-2147483648 ≤ ((σ 3 10) - 1) ∧ ((σ 3 10) - 1) ≤ 2147483647)) : ev 507 0 [qR 1, qR 3, qU] [] σ = (ev 511 0 [qR 1, qI 0, qI ((σ 3 10) - 1), qU, qU, qU] [] (q_put σ 1 4 ((σ 1 4) + 4))).bind (fun x => ev 507 21 [qR 1, qR 3, qU] (q_push x.1 []) x.2) :=
  Eq.trans (e_aload_n d_507_0 rfl) (Eq.trans (e_dup d_507_1 rfl) (Eq.trans (e_getI d_507_2 fl_5_22 sh_1 rfl) (Eq.trans (e_iconst d_507_5 k_4) (Eq.trans (e_iadd d_507_6 h.1) (Eq.trans (e_put d_507_7 fl_5_22 sh_1 rfl rfl rfl) (Eq.trans (e_aload_n d_507_10 rfl) (Eq.trans (e_iconst d_507_11 k_0) (Eq.trans (e_aload_n d_507_12 rfl) (Eq.trans (e_getI d_507_13 fl_5_141 sh_3 rfl) (Eq.trans (e_iconst d_507_16 k_1) (Eq.trans (e_isub d_507_17 h.2) (e_callV d_507_18 ml_5_104 fit_507_511 par_511 rfl rfl sh_1 (Nat.le_of_ble_eq_true rfl) (Nat.le_of_ble_eq_true rfl) (Nat.le_of_ble_eq_true rfl) rfl (by decide) rfl))))))))))))
theorem b507_21 {y0 : Int} {σ : SS} : ev 507 21 [qR 1, qR 3, qU] [qI y0] σ = if (σ 1 2) = 0 then ev 507 29 [qR 1, qR 3, qI y0] [] σ else ev 507 45 [qR 1, qR 3, qI y0] [] σ :=
  Eq.trans (e_istore_n d_507_21 (by decide) (Nat.le_of_ble_eq_true rfl) rfl) (Eq.trans (e_aload_n d_507_22 rfl) (Eq.trans (e_getI d_507_23 fl_5_19 sh_1 rfl) (e_if_ne d_507_26 (by decide))))
theorem b507_29 {x2 : Int} {σ : SS} : ev 507 29 [qR 1, qR 3, qI x2] [] σ = (ev 848 0 [qI (σ 1 7), qI x2] [] σ).bind (fun x => ev 507 37 [qR 1, qR 3, qI x2] (q_push x.1 []) x.2) :=
  Eq.trans (e_aload_n d_507_29 rfl) (Eq.trans (e_getI d_507_30 fl_5_28 sh_1 rfl) (Eq.trans (e_iload_n d_507_33 rfl) (e_callS d_507_34 (by decide) ml_5_134 fit_507_848 par_848 rfl rfl (Nat.le_of_ble_eq_true rfl) (Nat.le_of_ble_eq_true rfl) (Nat.le_of_ble_eq_true rfl) rfl (by decide) rfl)))
theorem b507_37 {x2 y0 : Int} {σ : SS} : ev 507 37 [qR 1, qR 3, qI x2] [qI y0] σ = if y0 = 0 then ev 507 45 [qR 1, qR 3, qI x2] [] σ else ev 507 40 [qR 1, qR 3, qI x2] [] σ :=
  e_if_eq d_507_37 (by decide)
theorem b507_40 {x2 : Int} {σ : SS} : ev 507 40 [qR 1, qR 3, qI x2] [] σ = (ev 515 0 [qR 1, qI 4] [] σ).bind (fun x => ev 507 45 [qR 1, qR 3, qI x2] (q_push x.1 []) x.2) :=
  Eq.trans (e_aload_n d_507_40 rfl) (Eq.trans (e_iconst d_507_41 k_4) (e_callV d_507_42 ml_5_96 fit_507_515 par_515 rfl rfl sh_1 (Nat.le_of_ble_eq_true rfl) (Nat.le_of_ble_eq_true rfl) (Nat.le_of_ble_eq_true rfl) rfl (by decide) rfl))
theorem b507_45 {x2 : Int} {σ : SS} : ev 507 45 [qR 1, qR 3, qI x2] [] σ = if (σ 1 2) = 0 then ev 507 52 [qR 1, qR 3, qI x2] [] σ else ev 507 70 [qR 1, qR 3, qI x2] [] σ :=
  Eq.trans (e_aload_n d_507_45 rfl) (Eq.trans (e_getI d_507_46 fl_5_19 sh_1 rfl) (e_if_ne d_507_49 (by decide)))
theorem b507_52 {x2 : Int} {σ : SS} : ev 507 52 [qR 1, qR 3, qI x2] [] σ = (ev 509 0 [qR 1, qR 3, qI x2, qU, qU] [] (q_put σ 1 7 (q_or (σ 1 7) (q_shl 1 x2)))).bind (fun x => ev 507 70 [qR 1, qR 3, qI x2] (q_push x.1 []) x.2) :=
  Eq.trans (e_aload_n d_507_52 rfl) (Eq.trans (e_dup d_507_53 rfl) (Eq.trans (e_getI d_507_54 fl_5_28 sh_1 rfl) (Eq.trans (e_iconst d_507_57 k_1) (Eq.trans (e_iload_n d_507_58 rfl) (Eq.trans (e_ishl d_507_59) (Eq.trans (e_ior d_507_60) (Eq.trans (e_put d_507_61 fl_5_28 sh_1 rfl rfl rfl) (Eq.trans (e_aload_n d_507_64 rfl) (Eq.trans (e_aload_n d_507_65 rfl) (Eq.trans (e_iload_n d_507_66 rfl) (e_callV d_507_67 ml_5_148 fit_507_509 par_509 rfl rfl sh_1 (Nat.le_of_ble_eq_true rfl) (Nat.le_of_ble_eq_true rfl) (Nat.le_of_ble_eq_true rfl) rfl (by decide) rfl)))))))))))
theorem b507_70 {x2 : Int} {σ : SS} : ev 507 70 [qR 1, qR 3, qI x2] [] σ = some (none, σ) :=
  e_vret d_507_70 rfl
theorem b508_0 {σ : SS} : ev 508 0 [qR 1, qR 3] [] σ = (ev 513 0 [qR 1, qI 4, qI 3] [] σ).bind (fun x => ev 508 6 [qR 1, qR 3] (q_push x.1 []) x.2) :=
  Eq.trans (e_aload_n d_508_0 rfl) (Eq.trans (e_iconst d_508_1 k_4) (Eq.trans (e_iconst d_508_2 k_3) (e_callV d_508_3 ml_5_100 fit_508_513 par_513 rfl rfl sh_1 (Nat.le_of_ble_eq_true rfl) (Nat.le_of_ble_eq_true rfl) (Nat.le_of_ble_eq_true rfl) rfl (by decide) rfl)))
theorem b508_6 {σ : SS} (h : -2147483648 ≤ ((σ 3 10) - 1) ∧ ((σ 3 10) - 1) ≤ 2147483647) : ev 508 6 [qR 1, qR 3] [] σ = (ev 511 0 [qR 1, qI 0, qI ((σ 3 10) - 1), qU, qU, qU] [] σ).bind (fun x => ev 508 18 [qR 1, qR 3] (q_push x.1 [qR 3]) x.2) :=
  Eq.trans (e_aload_n d_508_6 rfl) (Eq.trans (e_aload_n d_508_7 rfl) (Eq.trans (e_iconst d_508_8 k_0) (Eq.trans (e_aload_n d_508_9 rfl) (Eq.trans (e_getI d_508_10 fl_5_141 sh_3 rfl) (Eq.trans (e_iconst d_508_13 k_1) (Eq.trans (e_isub d_508_14 h) (e_callV d_508_15 ml_5_104 fit_508_511 par_511 rfl rfl sh_1 (Nat.le_of_ble_eq_true rfl) (Nat.le_of_ble_eq_true rfl) (Nat.le_of_ble_eq_true rfl) rfl (by decide) rfl)))))))
theorem b508_18 {y0 : Int} {σ : SS} : ev 508 18 [qR 1, qR 3] [qI y0, qR 3] σ = some (none, (q_put σ 3 15 y0)) :=
  Eq.trans (e_put d_508_18 fl_5_152 sh_3 rfl rfl rfl) (e_vret d_508_21 rfl)
theorem b515_0 {x1 : Int} {σ : SS} : ev 515 0 [qR 1, qI x1] [] σ = some (none, (q_put (q_put σ 1 2 x1) 1 3 (σ 1 5))) :=
  Eq.trans (e_aload_n d_515_0 rfl) (Eq.trans (e_iload_n d_515_1 rfl) (Eq.trans (e_put d_515_2 fl_5_19 sh_1 rfl rfl rfl) (Eq.trans (e_aload_n d_515_5 rfl) (Eq.trans (e_aload_n d_515_6 rfl) (Eq.trans (e_getI d_515_7 fl_5_165 sh_1 rfl) (Eq.trans (e_put d_515_10 fl_5_15 sh_1 rfl rfl rfl) (e_vret d_515_13 rfl)))))))
theorem b520_0 {x0 : Int} {σ : SS} : ev 520 0 [qI x0] [] σ = if x0 < 97 then ev 520 16 [qI x0] [] σ else ev 520 6 [qI x0] [] σ :=
  Eq.trans (e_iload_n d_520_0 rfl) (Eq.trans (e_bipush d_520_1 kb_97) (e_icmp_lt d_520_3 (by decide)))
theorem b520_6 {x0 : Int} {σ : SS} : ev 520 6 [qI x0] [] σ = if 122 < x0 then ev 520 16 [qI x0] [] σ else ev 520 12 [qI x0] [] σ :=
  Eq.trans (e_iload_n d_520_6 rfl) (Eq.trans (e_bipush d_520_7 kb_122) (e_icmp_gt d_520_9 (by decide)))
theorem b520_12 {x0 : Int} {σ : SS} : ev 520 12 [qI x0] [] σ = ev 520 17 [qI x0] [qI 1] σ :=
  Eq.trans (e_iconst d_520_12 k_1) (e_goto d_520_13 (by decide))
theorem b520_16 {x0 : Int} {σ : SS} : ev 520 16 [qI x0] [] σ = ev 520 17 [qI x0] [qI 0] σ :=
  e_iconst d_520_16 k_0
theorem b520_17 {x0 y0 : Int} {σ : SS} (h : y0 = 0 ∨ y0 = 1) : ev 520 17 [qI x0] [qI y0] σ = some (some (qI y0), σ) :=
  e_iret d_520_17 (q_okrZ rfl h)
theorem b513_0 {x1 x2 : Int} {σ : SS} : ev 513 0 [qR 1, qI x1, qI x2] [] σ = if (q_and (σ 1 6) x1) = 0 then ev 513 14 [qR 1, qI x1, qI x2] [] σ else ev 513 9 [qR 1, qI x1, qI x2] [] σ :=
  Eq.trans (e_aload_n d_513_0 rfl) (Eq.trans (e_getI d_513_1 fl_5_25 sh_1 rfl) (Eq.trans (e_iload_n d_513_4 rfl) (Eq.trans (e_iand d_513_5) (e_if_eq d_513_6 (by decide)))))
theorem b513_9 {x1 x2 : Int} {σ : SS} : ev 513 9 [qR 1, qI x1, qI x2] [] σ = (ev 515 0 [qR 1, qI 3] [] σ).bind (fun x => ev 513 14 [qR 1, qI x1, qI x2] (q_push x.1 []) x.2) :=
  Eq.trans (e_aload_n d_513_9 rfl) (Eq.trans (e_iconst d_513_10 k_3) (e_callV d_513_11 ml_5_96 fit_513_515 par_515 rfl rfl sh_1 (Nat.le_of_ble_eq_true rfl) (Nat.le_of_ble_eq_true rfl) (Nat.le_of_ble_eq_true rfl) rfl (by decide) rfl))
theorem b513_14 {x1 x2 : Int} {σ : SS} (h : -2147483648 ≤ ((σ 1 4) + x2) ∧ ((σ 1 4) + x2) ≤ 2147483647) : ev 513 14 [qR 1, qI x1, qI x2] [] σ = some (none, (q_put (q_put σ 1 6 (q_or (σ 1 6) x1)) 1 4 ((σ 1 4) + x2))) :=
  Eq.trans (e_aload_n d_513_14 rfl) (Eq.trans (e_dup d_513_15 rfl) (Eq.trans (e_getI d_513_16 fl_5_25 sh_1 rfl) (Eq.trans (e_iload_n d_513_19 rfl) (Eq.trans (e_ior d_513_20) (Eq.trans (e_put d_513_21 fl_5_25 sh_1 rfl rfl rfl) (Eq.trans (e_aload_n d_513_24 rfl) (Eq.trans (e_dup d_513_25 rfl) (Eq.trans (e_getI d_513_26 fl_5_22 sh_1 rfl) (Eq.trans (e_iload_n d_513_29 rfl) (Eq.trans (e_iadd d_513_30 h) (Eq.trans (e_put d_513_31 fl_5_22 sh_1 rfl rfl rfl) (e_vret d_513_34 rfl))))))))))))
theorem b511_0 {x1 x2 : Int} {σ : SS} : ev 511 0 [qR 1, qI x1, qI x2, qU, qU, qU] [] σ = if (σ 1 2) = 0 then ev 511 9 [qR 1, qI x1, qI x2, qU, qU, qU] [] σ else ev 511 7 [qR 1, qI x1, qI x2, qU, qU, qU] [] σ :=
  Eq.trans (e_aload_n d_511_0 rfl) (Eq.trans (e_getI d_511_1 fl_5_19 sh_1 rfl) (e_if_eq d_511_4 (by decide)))
theorem b511_7 {x1 x2 : Int} {σ : SS} : ev 511 7 [qR 1, qI x1, qI x2, qU, qU, qU] [] σ = some (some (qI 0), σ) :=
  Eq.trans (e_iconst d_511_7 k_0) (e_iret d_511_8 (q_okrI rfl))
theorem b511_9 {x1 x2 : Int} {σ : SS} : ev 511 9 [qR 1, qI x1, qI x2, qU, qU, qU] [] σ = (ev 516 0 [qR 1] [] σ).bind (fun x => ev 511 13 [qR 1, qI x1, qI x2, qU, qU, qU] (q_push x.1 []) x.2) :=
  Eq.trans (e_aload_n d_511_9 rfl) (e_callV d_511_10 ml_5_36 fit_511_516 par_516 rfl rfl sh_1 (Nat.le_of_ble_eq_true rfl) (Nat.le_of_ble_eq_true rfl) (Nat.le_of_ble_eq_true rfl) rfl (by decide) rfl)
theorem b511_13 {x1 x2 : Int} {σ : SS} : ev 511 13 [qR 1, qI x1, qI x2, qU, qU, qU] [] σ = ev 511 24 [qR 1, qI x1, qI x2, qI 0, qI 0, qI (σ 1 4)] [] σ :=
  Eq.trans (e_iconst d_511_13 k_0) (Eq.trans (e_istore_n d_511_14 (by decide) (Nat.le_of_ble_eq_true rfl) rfl) (Eq.trans (e_iconst d_511_15 k_0) (Eq.trans (e_istore d_511_16 (by decide) (Nat.le_of_ble_eq_true rfl) rfl) (Eq.trans (e_aload_n d_511_18 rfl) (Eq.trans (e_getI d_511_19 fl_5_22 sh_1 rfl) (e_istore d_511_22 (by decide) (Nat.le_of_ble_eq_true rfl) rfl))))))
theorem b511_24 {x1 x2 x3 x4 x5 : Int} {σ : SS} : ev 511 24 [qR 1, qI x1, qI x2, qI x3, qI x4, qI x5] [] σ = if x5 < (σ 1 1) then ev 511 33 [qR 1, qI x1, qI x2, qI x3, qI x4, qI x5] [] σ else ev 511 75 [qR 1, qI x1, qI x2, qI x3, qI x4, qI x5] [] σ :=
  Eq.trans (e_iload d_511_24 rfl) (Eq.trans (e_aload_n d_511_26 rfl) (Eq.trans (e_getI d_511_27 fl_5_50 sh_1 rfl) (e_icmp_ge d_511_30 (by decide))))
theorem b511_33 {x1 x2 x3 x4 x5 : Int} {σ : SS} : ev 511 33 [qR 1, qI x1, qI x2, qI x3, qI x4, qI x5] [] σ = (ev 519 0 [qR 1, qI x5] [] σ).bind (fun x => ev 511 39 [qR 1, qI x1, qI x2, qI x3, qI x4, qI x5] (q_push x.1 []) x.2) :=
  Eq.trans (e_aload_n d_511_33 rfl) (Eq.trans (e_iload d_511_34 rfl) (e_callV d_511_36 ml_5_39 fit_511_519 par_519 rfl rfl sh_1 (Nat.le_of_ble_eq_true rfl) (Nat.le_of_ble_eq_true rfl) (Nat.le_of_ble_eq_true rfl) rfl (by decide) rfl))
theorem b511_39 {x1 x2 x3 x4 x5 y0 : Int} {σ : SS} : ev 511 39 [qR 1, qI x1, qI x2, qI x3, qI x4, qI x5] [qI y0] σ = (ev 521 0 [qI y0] [] σ).bind (fun x => ev 511 42 [qR 1, qI x1, qI x2, qI x3, qI x4, qI x5] (q_push x.1 []) x.2) :=
  e_callS d_511_39 (by decide) ml_5_162 fit_511_521 par_521 rfl rfl (Nat.le_of_ble_eq_true rfl) (Nat.le_of_ble_eq_true rfl) (Nat.le_of_ble_eq_true rfl) rfl (by decide) rfl
theorem b511_42 {x1 x2 x3 x4 x5 y0 : Int} {σ : SS} : ev 511 42 [qR 1, qI x1, qI x2, qI x3, qI x4, qI x5] [qI y0] σ = if y0 = 0 then ev 511 75 [qR 1, qI x1, qI x2, qI x3, qI x4, qI x5] [] σ else ev 511 45 [qR 1, qI x1, qI x2, qI x3, qI x4, qI x5] [] σ :=
  e_if_eq d_511_42 (by decide)
theorem b511_45 {x1 x2 x3 x4 x5 : Int} {σ : SS} (h : -2147483648 ≤ (x4 + 1) ∧ (x4 + 1) ≤ 2147483647) : ev 511 45 [qR 1, qI x1, qI x2, qI x3, qI x4, qI x5] [] σ = if 3 < (x4 + 1) then ev 511 69 [qR 1, qI x1, qI x2, qI x3, qI (x4 + 1), qI x5] [] σ else ev 511 54 [qR 1, qI x1, qI x2, qI x3, qI (x4 + 1), qI x5] [] σ :=
  Eq.trans (e_iinc d_511_45 (by decide) rfl h rfl) (Eq.trans (e_iload d_511_48 rfl) (Eq.trans (e_iconst d_511_50 k_3) (e_icmp_gt d_511_51 (by decide))))
theorem b511_54 {x1 x2 x3 x4 x5 : Int} {σ : SS} (h : -2147483648 ≤ (x3 * 10) ∧ (x3 * 10) ≤ 2147483647) : ev 511 54 [qR 1, qI x1, qI x2, qI x3, qI x4, qI x5] [] σ = (ev 519 0 [qR 1, qI x5] [] σ).bind (fun x => ev 511 64 [qR 1, qI x1, qI x2, qI x3, qI x4, qI x5] (q_push x.1 [qI (x3 * 10)]) x.2) :=
  Eq.trans (e_iload_n d_511_54 rfl) (Eq.trans (e_bipush d_511_55 kb_10) (Eq.trans (e_imul d_511_57 h) (Eq.trans (e_aload_n d_511_58 rfl) (Eq.trans (e_iload d_511_59 rfl) (e_callV d_511_61 ml_5_39 fit_511_519 par_519 rfl rfl sh_1 (Nat.le_of_ble_eq_true rfl) (Nat.le_of_ble_eq_true rfl) (Nat.le_of_ble_eq_true rfl) rfl (by decide) rfl)))))
theorem b511_64 {x1 x2 x3 x4 x5 y0 y1 : Int} {σ : SS} (h : (-2147483648 ≤ (y1 + y0) ∧ (y1 + y0) ≤ 2147483647) ∧ (-2147483648 ≤ ((y1 + y0) - 48) ∧ ((y1 + y0) - 48) ≤ 2147483647)) : ev 511 64 [qR 1, qI x1, qI x2, qI x3, qI x4, qI x5] [qI y0, qI y1] σ = ev 511 69 [qR 1, qI x1, qI x2, qI ((y1 + y0) - 48), qI x4, qI x5] [] σ :=
  Eq.trans (e_iadd d_511_64 h.1) (Eq.trans (e_bipush d_511_65 kb_48) (Eq.trans (e_isub d_511_67 h.2) (e_istore_n d_511_68 (by decide) (Nat.le_of_ble_eq_true rfl) rfl)))
theorem b511_69 {x1 x2 x3 x4 x5 : Int} {σ : SS} (h : -2147483648 ≤ (x5 + 1) ∧ (x5 + 1) ≤ 2147483647) : ev 511 69 [qR 1, qI x1, qI x2, qI x3, qI x4, qI x5] [] σ = ev 511 24 [qR 1, qI x1, qI x2, qI x3, qI x4, qI (x5 + 1)] [] σ :=
  Eq.trans (e_iinc d_511_69 (by decide) rfl h rfl) (e_goto d_511_72 (by decide))
theorem b511_75 {x1 x2 x3 x4 x5 : Int} {σ : SS} : ev 511 75 [qR 1, qI x1, qI x2, qI x3, qI x4, qI x5] [] σ = if x4 = 0 then ev 511 80 [qR 1, qI x1, qI x2, qI x3, qI x4, qI x5] [] σ else ev 511 88 [qR 1, qI x1, qI x2, qI x3, qI x4, qI x5] [] σ :=
  Eq.trans (e_iload d_511_75 rfl) (e_if_ne d_511_77 (by decide))
theorem b511_80 {x1 x2 x3 x4 x5 : Int} {σ : SS} : ev 511 80 [qR 1, qI x1, qI x2, qI x3, qI x4, qI x5] [] σ = (ev 515 0 [qR 1, qI 1] [] σ).bind (fun x => ev 511 85 [qR 1, qI x1, qI x2, qI x3, qI x4, qI x5] (q_push x.1 []) x.2) :=
  Eq.trans (e_aload_n d_511_80 rfl) (Eq.trans (e_iconst d_511_81 k_1) (e_callV d_511_82 ml_5_96 fit_511_515 par_515 rfl rfl sh_1 (Nat.le_of_ble_eq_true rfl) (Nat.le_of_ble_eq_true rfl) (Nat.le_of_ble_eq_true rfl) rfl (by decide) rfl))
theorem b511_85 {x1 x2 x3 x4 x5 : Int} {σ : SS} : ev 511 85 [qR 1, qI x1, qI x2, qI x3, qI x4, qI x5] [] σ = ev 511 109 [qR 1, qI x1, qI x2, qI x3, qI x4, qI x5] [] σ :=
  e_goto d_511_85 (by decide)
theorem b511_88 {x1 x2 x3 x4 x5 : Int} {σ : SS} : ev 511 88 [qR 1, qI x1, qI x2, qI x3, qI x4, qI x5] [] σ = if 3 < x4 then ev 511 104 [qR 1, qI x1, qI x2, qI x3, qI x4, qI x5] [] σ else ev 511 94 [qR 1, qI x1, qI x2, qI x3, qI x4, qI x5] [] σ :=
  Eq.trans (e_iload d_511_88 rfl) (Eq.trans (e_iconst d_511_90 k_3) (e_icmp_gt d_511_91 (by decide)))
theorem b511_94 {x1 x2 x3 x4 x5 : Int} {σ : SS} : ev 511 94 [qR 1, qI x1, qI x2, qI x3, qI x4, qI x5] [] σ = if x3 < x1 then ev 511 104 [qR 1, qI x1, qI x2, qI x3, qI x4, qI x5] [] σ else ev 511 99 [qR 1, qI x1, qI x2, qI x3, qI x4, qI x5] [] σ :=
  Eq.trans (e_iload_n d_511_94 rfl) (Eq.trans (e_iload_n d_511_95 rfl) (e_icmp_lt d_511_96 (by decide)))
theorem b511_99 {x1 x2 x3 x4 x5 : Int} {σ : SS} : ev 511 99 [qR 1, qI x1, qI x2, qI x3, qI x4, qI x5] [] σ = if x2 < x3 then ev 511 104 [qR 1, qI x1, qI x2, qI x3, qI x4, qI x5] [] σ else ev 511 109 [qR 1, qI x1, qI x2, qI x3, qI x4, qI x5] [] σ :=
  Eq.trans (e_iload_n d_511_99 rfl) (Eq.trans (e_iload_n d_511_100 rfl) (e_icmp_le d_511_101 (by decide)))
theorem b511_104 {x1 x2 x3 x4 x5 : Int} {σ : SS} : ev 511 104 [qR 1, qI x1, qI x2, qI x3, qI x4, qI x5] [] σ = (ev 515 0 [qR 1, qI 2] [] σ).bind (fun x => ev 511 109 [qR 1, qI x1, qI x2, qI x3, qI x4, qI x5] (q_push x.1 []) x.2) :=
  Eq.trans (e_aload_n d_511_104 rfl) (Eq.trans (e_iconst d_511_105 k_2) (e_callV d_511_106 ml_5_96 fit_511_515 par_515 rfl rfl sh_1 (Nat.le_of_ble_eq_true rfl) (Nat.le_of_ble_eq_true rfl) (Nat.le_of_ble_eq_true rfl) rfl (by decide) rfl))
theorem b511_109 {x1 x2 x3 x4 x5 : Int} {σ : SS} (h : -2147483648 ≤ ((σ 1 4) + x4) ∧ ((σ 1 4) + x4) ≤ 2147483647) : ev 511 109 [qR 1, qI x1, qI x2, qI x3, qI x4, qI x5] [] σ = some (some (qI x3), (q_put σ 1 4 ((σ 1 4) + x4))) :=
  Eq.trans (e_aload_n d_511_109 rfl) (Eq.trans (e_dup d_511_110 rfl) (Eq.trans (e_getI d_511_111 fl_5_22 sh_1 rfl) (Eq.trans (e_iload d_511_114 rfl) (Eq.trans (e_iadd d_511_116 h) (Eq.trans (e_put d_511_117 fl_5_22 sh_1 rfl rfl rfl) (Eq.trans (e_iload_n d_511_120 rfl) (e_iret d_511_121 (q_okrI rfl))))))))
theorem b514_0 {x1 x2 x3 : Int} {σ : SS} : ev 514 0 [qR 1, qI x1, qI x2, qI x3] [] σ = if x1 < x2 then ev 514 10 [qR 1, qI x1, qI x2, qI x3] [] σ else ev 514 5 [qR 1, qI x1, qI x2, qI x3] [] σ :=
  Eq.trans (e_iload_n d_514_0 rfl) (Eq.trans (e_iload_n d_514_1 rfl) (e_icmp_lt d_514_2 (by decide)))
theorem b514_5 {x1 x2 x3 : Int} {σ : SS} : ev 514 5 [qR 1, qI x1, qI x2, qI x3] [] σ = (ev 515 0 [qR 1, qI 3] [] σ).bind (fun x => ev 514 10 [qR 1, qI x1, qI x2, qI x3] (q_push x.1 []) x.2) :=
  Eq.trans (e_aload_n d_514_5 rfl) (Eq.trans (e_iconst d_514_6 k_3) (e_callV d_514_7 ml_5_96 fit_514_515 par_515 rfl rfl sh_1 (Nat.le_of_ble_eq_true rfl) (Nat.le_of_ble_eq_true rfl) (Nat.le_of_ble_eq_true rfl) rfl (by decide) rfl))
theorem b514_10 {x1 x2 x3 : Int} {σ : SS} (h : -2147483648 ≤ ((σ 1 4) + x3) ∧ ((σ 1 4) + x3) ≤ 2147483647) : ev 514 10 [qR 1, qI x1, qI x2, qI x3] [] σ = some (none, (q_put σ 1 4 ((σ 1 4) + x3))) :=
  Eq.trans (e_aload_n d_514_10 rfl) (Eq.trans (e_dup d_514_11 rfl) (Eq.trans (e_getI d_514_12 fl_5_22 sh_1 rfl) (Eq.trans (e_iload_n d_514_15 rfl) (Eq.trans (e_iadd d_514_16 h) (Eq.trans (e_put d_514_17 fl_5_22 sh_1 rfl rfl rfl) (e_vret d_514_20 rfl))))))
theorem b509_0 {x2 : Int} {σ : SS} : ev 509 0 [qR 1, qR 3, qI x2, qU, qU] [] σ = (ev 516 0 [qR 1] [] σ).bind (fun x => ev 509 4 [qR 1, qR 3, qI x2, qU, qU] (q_push x.1 []) x.2) :=
  Eq.trans (e_aload_n d_509_0 rfl) (e_callV d_509_1 ml_5_36 fit_509_516 par_516 rfl rfl sh_1 (Nat.le_of_ble_eq_true rfl) (Nat.le_of_ble_eq_true rfl) (Nat.le_of_ble_eq_true rfl) rfl (by decide) rfl)
theorem b509_4 {x2 : Int} {σ : SS} : ev 509 4 [qR 1, qR 3, qI x2, qU, qU] [] σ = (ev 517 0 [qR 1, qU] [] σ).bind (fun x => ev 509 8 [qR 1, qR 3, qI x2, qU, qU] (q_push x.1 []) x.2) :=
  Eq.trans (e_aload_n d_509_4 rfl) (e_callV d_509_5 ml_5_53 fit_509_517 par_517 rfl rfl sh_1 (Nat.le_of_ble_eq_true rfl) (Nat.le_of_ble_eq_true rfl) (Nat.le_of_ble_eq_true rfl) rfl (by decide) rfl)
theorem b509_8 {x2 y0 : Int} {σ : SS} : ev 509 8 [qR 1, qR 3, qI x2, qU, qU] [qI y0] σ = if y0 = (σ 1 4) then ev 509 17 [qR 1, qR 3, qI x2, qI y0, qU] [] σ else ev 509 25 [qR 1, qR 3, qI x2, qI y0, qU] [] σ :=
  Eq.trans (e_istore_n d_509_8 (by decide) (Nat.le_of_ble_eq_true rfl) rfl) (Eq.trans (e_iload_n d_509_9 rfl) (Eq.trans (e_aload_n d_509_10 rfl) (Eq.trans (e_getI d_509_11 fl_5_22 sh_1 rfl) (e_icmp_ne d_509_14 (by decide)))))
theorem b509_17 {x2 x3 : Int} {σ : SS} : ev 509 17 [qR 1, qR 3, qI x2, qI x3, qU] [] σ = (ev 515 0 [qR 1, qI 1] [] σ).bind (fun x => ev 509 22 [qR 1, qR 3, qI x2, qI x3, qU] (q_push x.1 []) x.2) :=
  Eq.trans (e_aload_n d_509_17 rfl) (Eq.trans (e_iconst d_509_18 k_1) (e_callV d_509_19 ml_5_96 fit_509_515 par_515 rfl rfl sh_1 (Nat.le_of_ble_eq_true rfl) (Nat.le_of_ble_eq_true rfl) (Nat.le_of_ble_eq_true rfl) rfl (by decide) rfl))
theorem b509_22 {x2 x3 : Int} {σ : SS} : ev 509 22 [qR 1, qR 3, qI x2, qI x3, qU] [] σ = ev 509 98 [qR 1, qR 3, qI x2, qI x3, qU] [] σ :=
  e_goto d_509_22 (by decide)
theorem b509_25 {x2 x3 : Int} {σ : SS} (h : -2147483648 ≤ (x3 - (σ 1 4)) ∧ (x3 - (σ 1 4)) ≤ 2147483647) : ev 509 25 [qR 1, qR 3, qI x2, qI x3, qU] [] σ = if 6 < (x3 - (σ 1 4)) then ev 509 44 [qR 1, qR 3, qI x2, qI x3, qU] [] σ else ev 509 36 [qR 1, qR 3, qI x2, qI x3, qU] [] σ :=
  Eq.trans (e_iload_n d_509_25 rfl) (Eq.trans (e_aload_n d_509_26 rfl) (Eq.trans (e_getI d_509_27 fl_5_22 sh_1 rfl) (Eq.trans (e_isub d_509_30 h) (Eq.trans (e_bipush d_509_31 kb_6) (e_icmp_gt d_509_33 (by decide))))))
theorem b509_36 {x2 x3 : Int} {σ : SS} : ev 509 36 [qR 1, qR 3, qI x2, qI x3, qU] [] σ = (ev 510 0 [qR 1, qI x3, qU] [] σ).bind (fun x => ev 509 41 [qR 1, qR 3, qI x2, qI x3, qU] (q_push x.1 []) x.2) :=
  Eq.trans (e_aload_n d_509_36 rfl) (Eq.trans (e_iload_n d_509_37 rfl) (e_callV d_509_38 ml_5_155 fit_509_510 par_510 rfl rfl sh_1 (Nat.le_of_ble_eq_true rfl) (Nat.le_of_ble_eq_true rfl) (Nat.le_of_ble_eq_true rfl) rfl (by decide) rfl))
theorem b509_41 {x2 x3 y0 : Int} {σ : SS} : ev 509 41 [qR 1, qR 3, qI x2, qI x3, qU] [qI y0] σ = if y0 = 0 then ev 509 44 [qR 1, qR 3, qI x2, qI x3, qU] [] σ else ev 509 52 [qR 1, qR 3, qI x2, qI x3, qU] [] σ :=
  e_if_ne d_509_41 (by decide)
theorem b509_44 {x2 x3 : Int} {σ : SS} : ev 509 44 [qR 1, qR 3, qI x2, qI x3, qU] [] σ = (ev 515 0 [qR 1, qI 4] [] σ).bind (fun x => ev 509 49 [qR 1, qR 3, qI x2, qI x3, qU] (q_push x.1 []) x.2) :=
  Eq.trans (e_aload_n d_509_44 rfl) (Eq.trans (e_iconst d_509_45 k_4) (e_callV d_509_46 ml_5_96 fit_509_515 par_515 rfl rfl sh_1 (Nat.le_of_ble_eq_true rfl) (Nat.le_of_ble_eq_true rfl) (Nat.le_of_ble_eq_true rfl) rfl (by decide) rfl))
theorem b509_49 {x2 x3 : Int} {σ : SS} : ev 509 49 [qR 1, qR 3, qI x2, qI x3, qU] [] σ = ev 509 98 [qR 1, qR 3, qI x2, qI x3, qU] [] σ :=
  e_goto d_509_49 (by decide)
theorem b509_52 {x2 x3 : Int} {σ : SS} : ev 509 52 [qR 1, qR 3, qI x2, qI x3, qU] [] σ = ev 509 55 [qR 1, qR 3, qI x2, qI x3, qI 0] [] σ :=
  Eq.trans (e_iconst d_509_52 k_0) (e_istore d_509_53 (by decide) (Nat.le_of_ble_eq_true rfl) rfl)
theorem b509_55 {x2 x3 x4 : Int} {σ : SS} (h : -2147483648 ≤ (x3 - (σ 1 4)) ∧ (x3 - (σ 1 4)) ≤ 2147483647) : ev 509 55 [qR 1, qR 3, qI x2, qI x3, qI x4] [] σ = if x4 < (x3 - (σ 1 4)) then ev 509 66 [qR 1, qR 3, qI x2, qI x3, qI x4] [] σ else ev 509 93 [qR 1, qR 3, qI x2, qI x3, qI x4] [] σ :=
  Eq.trans (e_iload d_509_55 rfl) (Eq.trans (e_iload_n d_509_57 rfl) (Eq.trans (e_aload_n d_509_58 rfl) (Eq.trans (e_getI d_509_59 fl_5_22 sh_1 rfl) (Eq.trans (e_isub d_509_62 h) (e_icmp_ge d_509_63 (by decide))))))
theorem b509_66 {x2 x3 x4 : Int} {σ : SS} (h : -2147483648 ≤ ((σ 1 4) + x4) ∧ ((σ 1 4) + x4) ≤ 2147483647) : ev 509 66 [qR 1, qR 3, qI x2, qI x3, qI x4] [] σ = (ev 519 0 [qR 1, qI ((σ 1 4) + x4)] [] σ).bind (fun x => ev 509 81 [qR 1, qR 3, qI x2, qI x3, qI x4] (q_push x.1 [qI x4, qI x2, qR 3]) x.2) :=
  Eq.trans (e_aload_n d_509_66 rfl) (Eq.trans (e_iload_n d_509_67 rfl) (Eq.trans (e_iload d_509_68 rfl) (Eq.trans (e_aload_n d_509_70 rfl) (Eq.trans (e_aload_n d_509_71 rfl) (Eq.trans (e_getI d_509_72 fl_5_22 sh_1 rfl) (Eq.trans (e_iload d_509_75 rfl) (Eq.trans (e_iadd d_509_77 h) (e_callV d_509_78 ml_5_39 fit_509_519 par_519 rfl rfl sh_1 (Nat.le_of_ble_eq_true rfl) (Nat.le_of_ble_eq_true rfl) (Nat.le_of_ble_eq_true rfl) rfl (by decide) rfl))))))))
theorem b509_81 {x2 x3 x4 y0 y1 y2 : Int} {σ : SS} (h : -2147483648 ≤ (y0 - 97) ∧ (y0 - 97) ≤ 2147483647) : ev 509 81 [qR 1, qR 3, qI x2, qI x3, qI x4] [qI y0, qI y1, qI y2, qR 3] σ = (ev 607 0 [qR 3, qI y2, qI y1, qI (y0 - 97)] [] σ).bind (fun x => ev 509 87 [qR 1, qR 3, qI x2, qI x3, qI x4] (q_push x.1 []) x.2) :=
  Eq.trans (e_bipush d_509_81 kb_97) (Eq.trans (e_isub d_509_83 h) (e_callV d_509_84 ml_5_159 fit_509_607 par_607 rfl rfl sh_3 (Nat.le_of_ble_eq_true rfl) (Nat.le_of_ble_eq_true rfl) (Nat.le_of_ble_eq_true rfl) rfl (by decide) rfl))
theorem b509_87 {x2 x3 x4 : Int} {σ : SS} (h : -2147483648 ≤ (x4 + 1) ∧ (x4 + 1) ≤ 2147483647) : ev 509 87 [qR 1, qR 3, qI x2, qI x3, qI x4] [] σ = ev 509 55 [qR 1, qR 3, qI x2, qI x3, qI (x4 + 1)] [] σ :=
  Eq.trans (e_iinc d_509_87 (by decide) rfl h rfl) (e_goto d_509_90 (by decide))
theorem b509_93 {x2 x3 x4 : Int} {σ : SS} : ev 509 93 [qR 1, qR 3, qI x2, qI x3, qI x4] [] σ = ev 509 98 [qR 1, qR 3, qI x2, qI x3, qI x4] [] (q_put σ 1 4 x3) :=
  Eq.trans (e_aload_n d_509_93 rfl) (Eq.trans (e_iload_n d_509_94 rfl) (e_put d_509_95 fl_5_22 sh_1 rfl rfl rfl))
theorem b509_98 {x2 x3 : Int} {vx4 : AV} {σ : SS} : ev 509 98 [qR 1, qR 3, qI x2, qI x3, vx4] [] σ = some (none, σ) :=
  e_vret d_509_98 rfl
theorem b521_0 {x0 : Int} {σ : SS} : ev 521 0 [qI x0] [] σ = if x0 < 48 then ev 521 16 [qI x0] [] σ else ev 521 6 [qI x0] [] σ :=
  Eq.trans (e_iload_n d_521_0 rfl) (Eq.trans (e_bipush d_521_1 kb_48) (e_icmp_lt d_521_3 (by decide)))
theorem b521_6 {x0 : Int} {σ : SS} : ev 521 6 [qI x0] [] σ = if 57 < x0 then ev 521 16 [qI x0] [] σ else ev 521 12 [qI x0] [] σ :=
  Eq.trans (e_iload_n d_521_6 rfl) (Eq.trans (e_bipush d_521_7 kb_57) (e_icmp_gt d_521_9 (by decide)))
theorem b521_12 {x0 : Int} {σ : SS} : ev 521 12 [qI x0] [] σ = ev 521 17 [qI x0] [qI 1] σ :=
  Eq.trans (e_iconst d_521_12 k_1) (e_goto d_521_13 (by decide))
theorem b521_16 {x0 : Int} {σ : SS} : ev 521 16 [qI x0] [] σ = ev 521 17 [qI x0] [qI 0] σ :=
  e_iconst d_521_16 k_0
theorem b521_17 {x0 y0 : Int} {σ : SS} (h : y0 = 0 ∨ y0 = 1) : ev 521 17 [qI x0] [qI y0] σ = some (some (qI y0), σ) :=
  e_iret d_521_17 (q_okrZ rfl h)
theorem b510_0 {x1 : Int} {σ : SS} : ev 510 0 [qR 1, qI x1, qU] [] σ = ev 510 5 [qR 1, qI x1, qI (σ 1 4)] [] σ :=
  Eq.trans (e_aload_n d_510_0 rfl) (Eq.trans (e_getI d_510_1 fl_5_22 sh_1 rfl) (e_istore_n d_510_4 (by decide) (Nat.le_of_ble_eq_true rfl) rfl))
theorem b510_5 {x1 x2 : Int} {σ : SS} : ev 510 5 [qR 1, qI x1, qI x2] [] σ = if x2 < x1 then ev 510 10 [qR 1, qI x1, qI x2] [] σ else ev 510 38 [qR 1, qI x1, qI x2] [] σ :=
  Eq.trans (e_iload_n d_510_5 rfl) (Eq.trans (e_iload_n d_510_6 rfl) (e_icmp_ge d_510_7 (by decide)))
theorem b510_10 {x1 x2 : Int} {σ : SS} : ev 510 10 [qR 1, qI x1, qI x2] [] σ = (ev 519 0 [qR 1, qI x2] [] σ).bind (fun x => ev 510 15 [qR 1, qI x1, qI x2] (q_push x.1 []) x.2) :=
  Eq.trans (e_aload_n d_510_10 rfl) (Eq.trans (e_iload_n d_510_11 rfl) (e_callV d_510_12 ml_5_39 fit_510_519 par_519 rfl rfl sh_1 (Nat.le_of_ble_eq_true rfl) (Nat.le_of_ble_eq_true rfl) (Nat.le_of_ble_eq_true rfl) rfl (by decide) rfl))
theorem b510_15 {x1 x2 y0 : Int} {σ : SS} : ev 510 15 [qR 1, qI x1, qI x2] [qI y0] σ = if y0 < 97 then ev 510 30 [qR 1, qI x1, qI x2] [] σ else ev 510 20 [qR 1, qI x1, qI x2] [] σ :=
  Eq.trans (e_bipush d_510_15 kb_97) (e_icmp_lt d_510_17 (by decide))
theorem b510_20 {x1 x2 : Int} {σ : SS} : ev 510 20 [qR 1, qI x1, qI x2] [] σ = (ev 519 0 [qR 1, qI x2] [] σ).bind (fun x => ev 510 25 [qR 1, qI x1, qI x2] (q_push x.1 []) x.2) :=
  Eq.trans (e_aload_n d_510_20 rfl) (Eq.trans (e_iload_n d_510_21 rfl) (e_callV d_510_22 ml_5_39 fit_510_519 par_519 rfl rfl sh_1 (Nat.le_of_ble_eq_true rfl) (Nat.le_of_ble_eq_true rfl) (Nat.le_of_ble_eq_true rfl) rfl (by decide) rfl))
theorem b510_25 {x1 x2 y0 : Int} {σ : SS} : ev 510 25 [qR 1, qI x1, qI x2] [qI y0] σ = if 99 < y0 then ev 510 30 [qR 1, qI x1, qI x2] [] σ else ev 510 32 [qR 1, qI x1, qI x2] [] σ :=
  Eq.trans (e_bipush d_510_25 kb_99) (e_icmp_le d_510_27 (by decide))
theorem b510_30 {x1 x2 : Int} {σ : SS} : ev 510 30 [qR 1, qI x1, qI x2] [] σ = some (some (qI 0), σ) :=
  Eq.trans (e_iconst d_510_30 k_0) (e_iret d_510_31 (q_okrZ rfl (by decide)))
theorem b510_32 {x1 x2 : Int} {σ : SS} (h : -2147483648 ≤ (x2 + 1) ∧ (x2 + 1) ≤ 2147483647) : ev 510 32 [qR 1, qI x1, qI x2] [] σ = ev 510 5 [qR 1, qI x1, qI (x2 + 1)] [] σ :=
  Eq.trans (e_iinc d_510_32 (by decide) rfl h rfl) (e_goto d_510_35 (by decide))
theorem b510_38 {x1 x2 : Int} {σ : SS} : ev 510 38 [qR 1, qI x1, qI x2] [] σ = some (some (qI 1), σ) :=
  Eq.trans (e_iconst d_510_38 k_1) (e_iret d_510_39 (q_okrZ rfl (by decide)))
