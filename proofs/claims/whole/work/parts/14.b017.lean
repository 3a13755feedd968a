theorem d_700_0 : decode (mB 700) 0 = .ok (.aload_n 0, 1) := by decide +kernel
theorem d_700_1 : decode (mB 700) 1 = .ok (.getfield 9, 3) := by decide +kernel
theorem d_700_4 : decode (mB 700) 4 = .ok (.getfield 19, 3) := by decide +kernel
theorem d_700_7 : decode (mB 700) 7 = .ok (.astore_n 2, 1) := by decide +kernel
theorem d_700_8 : decode (mB 700) 8 = .ok (.aload_n 0, 1) := by decide +kernel
theorem d_700_9 : decode (mB 700) 9 = .ok (.getfield 9, 3) := by decide +kernel
theorem d_700_12 : decode (mB 700) 12 = .ok (.getfield 25, 3) := by decide +kernel
theorem d_700_15 : decode (mB 700) 15 = .ok (.astore_n 3, 1) := by decide +kernel
theorem d_700_16 : decode (mB 700) 16 = .ok (.aload_n 2, 1) := by decide +kernel
theorem d_700_17 : decode (mB 700) 17 = .ok (.iload_n 1, 1) := by decide +kernel
theorem d_700_18 : decode (mB 700) 18 = .ok (.invokevirtual 29, 3) := by decide +kernel
theorem d_700_21 : decode (mB 700) 21 = .ok (.ifCond .eq 14, 3) := by decide +kernel
theorem d_700_24 : decode (mB 700) 24 = .ok (.aload_n 2, 1) := by decide +kernel
theorem d_700_25 : decode (mB 700) 25 = .ok (.aload_n 3, 1) := by decide +kernel
theorem d_700_26 : decode (mB 700) 26 = .ok (.getfield 35, 3) := by decide +kernel
theorem d_700_29 : decode (mB 700) 29 = .ok (.invokevirtual 41, 3) := by decide +kernel
theorem d_700_32 : decode (mB 700) 32 = .ok (.ifCond .ne 5, 3) := by decide +kernel
theorem d_700_35 : decode (mB 700) 35 = .ok (.iconst (-1), 1) := by decide +kernel
theorem d_700_36 : decode (mB 700) 36 = .ok (.ireturn, 1) := by decide +kernel
theorem d_700_37 : decode (mB 700) 37 = .ok (.aload_n 0, 1) := by decide +kernel
theorem d_700_38 : decode (mB 700) 38 = .ok (.aload_n 3, 1) := by decide +kernel
theorem d_700_39 : decode (mB 700) 39 = .ok (.getfield 44, 3) := by decide +kernel
theorem d_700_42 : decode (mB 700) 42 = .ok (.iload_n 1, 1) := by decide +kernel
theorem d_700_43 : decode (mB 700) 43 = .ok (.iaload, 1) := by decide +kernel
theorem d_700_44 : decode (mB 700) 44 = .ok (.invokevirtual 47, 3) := by decide +kernel
theorem d_700_47 : decode (mB 700) 47 = .ok (.aload_n 0, 1) := by decide +kernel
theorem d_700_48 : decode (mB 700) 48 = .ok (.getfield 15, 3) := by decide +kernel
theorem d_700_51 : decode (mB 700) 51 = .ok (.aload_n 3, 1) := by decide +kernel
theorem d_700_52 : decode (mB 700) 52 = .ok (.getfield 35, 3) := by decide +kernel
theorem d_700_55 : decode (mB 700) 55 = .ok (.iaload, 1) := by decide +kernel
theorem d_700_56 : decode (mB 700) 56 = .ok (.istore 4, 2) := by decide +kernel
theorem d_700_58 : decode (mB 700) 58 = .ok (.iload 4, 2) := by decide +kernel
theorem d_700_60 : decode (mB 700) 60 = .ok (.bipush 48, 2) := by decide +kernel
theorem d_700_62 : decode (mB 700) 62 = .ok (.if_icmp .gt 30, 3) := by decide +kernel
theorem d_700_65 : decode (mB 700) 65 = .ok (.aload_n 0, 1) := by decide +kernel
theorem d_700_66 : decode (mB 700) 66 = .ok (.getfield 9, 3) := by decide +kernel
theorem d_700_69 : decode (mB 700) 69 = .ok (.iload_n 1, 1) := by decide +kernel
theorem d_700_70 : decode (mB 700) 70 = .ok (.aload_n 3, 1) := by decide +kernel
theorem d_700_71 : decode (mB 700) 71 = .ok (.getfield 51, 3) := by decide +kernel
theorem d_700_74 : decode (mB 700) 74 = .ok (.iload 4, 2) := by decide +kernel
theorem d_700_76 : decode (mB 700) 76 = .ok (.iadd, 1) := by decide +kernel
theorem d_700_77 : decode (mB 700) 77 = .ok (.invokevirtual 54, 3) := by decide +kernel
theorem d_700_80 : decode (mB 700) 80 = .ok (.ifCond .eq 6, 3) := by decide +kernel
theorem d_700_83 : decode (mB 700) 83 = .ok (.iload 4, 2) := by decide +kernel
theorem d_700_85 : decode (mB 700) 85 = .ok (.ireturn, 1) := by decide +kernel
theorem d_700_86 : decode (mB 700) 86 = .ok (.iinc 4 1, 3) := by decide +kernel
theorem d_700_89 : decode (mB 700) 89 = .ok (.goto (-31), 3) := by decide +kernel
theorem d_700_92 : decode (mB 700) 92 = .ok (.iconst (-1), 1) := by decide +kernel
theorem d_700_93 : decode (mB 700) 93 = .ok (.ireturn, 1) := by decide +kernel
theorem d_703_0 : decode (mB 703) 0 = .ok (.aload_n 0, 1) := by decide +kernel
theorem d_703_1 : decode (mB 703) 1 = .ok (.getfield 9, 3) := by decide +kernel
theorem d_703_4 : decode (mB 703) 4 = .ok (.getfield 25, 3) := by decide +kernel
theorem d_703_7 : decode (mB 703) 7 = .ok (.getfield 35, 3) := by decide +kernel
theorem d_703_10 : decode (mB 703) 10 = .ok (.istore_n 3, 1) := by decide +kernel
theorem d_703_11 : decode (mB 703) 11 = .ok (.iconst 1, 1) := by decide +kernel
theorem d_703_12 : decode (mB 703) 12 = .ok (.istore 4, 2) := by decide +kernel
theorem d_703_14 : decode (mB 703) 14 = .ok (.iload 4, 2) := by decide +kernel
theorem d_703_16 : decode (mB 703) 16 = .ok (.iload_n 1, 1) := by decide +kernel
theorem d_703_17 : decode (mB 703) 17 = .ok (.if_icmp .gt 26, 3) := by decide +kernel
theorem d_703_20 : decode (mB 703) 20 = .ok (.iload 4, 2) := by decide +kernel
theorem d_703_22 : decode (mB 703) 22 = .ok (.bipush 48, 2) := by decide +kernel
theorem d_703_24 : decode (mB 703) 24 = .ok (.if_icmp .gt 19, 3) := by decide +kernel
theorem d_703_27 : decode (mB 703) 27 = .ok (.aload_n 0, 1) := by decide +kernel
theorem d_703_28 : decode (mB 703) 28 = .ok (.iload_n 3, 1) := by decide +kernel
theorem d_703_29 : decode (mB 703) 29 = .ok (.iload_n 2, 1) := by decide +kernel
theorem d_703_30 : decode (mB 703) 30 = .ok (.iload 4, 2) := by decide +kernel
theorem d_703_32 : decode (mB 703) 32 = .ok (.isub, 1) := by decide +kernel
theorem d_703_33 : decode (mB 703) 33 = .ok (.invokevirtual 68, 3) := by decide +kernel
theorem d_703_36 : decode (mB 703) 36 = .ok (.istore_n 3, 1) := by decide +kernel
theorem d_703_37 : decode (mB 703) 37 = .ok (.iinc 4 1, 3) := by decide +kernel
theorem d_703_40 : decode (mB 703) 40 = .ok (.goto (-26), 3) := by decide +kernel
theorem d_703_43 : decode (mB 703) 43 = .ok (.iload_n 3, 1) := by decide +kernel
theorem d_703_44 : decode (mB 703) 44 = .ok (.ireturn, 1) := by decide +kernel
theorem d_100_0 : decode (mB 100) 0 = .ok (.aload_n 0, 1) := by decide +kernel
theorem d_100_1 : decode (mB 100) 1 = .ok (.invokevirtual 22, 3) := by decide +kernel
theorem d_100_4 : decode (mB 100) 4 = .ok (.sipush 216, 3) := by decide +kernel
theorem d_100_7 : decode (mB 100) 7 = .ok (.istore_n 2, 1) := by decide +kernel
theorem d_100_8 : decode (mB 100) 8 = .ok (.iconst 0, 1) := by decide +kernel
theorem d_100_9 : decode (mB 100) 9 = .ok (.istore_n 3, 1) := by decide +kernel
theorem d_100_10 : decode (mB 100) 10 = .ok (.iload_n 3, 1) := by decide +kernel
theorem d_100_11 : decode (mB 100) 11 = .ok (.iload_n 2, 1) := by decide +kernel
theorem d_100_12 : decode (mB 100) 12 = .ok (.if_icmp .gt 33, 3) := by decide +kernel
theorem d_100_15 : decode (mB 100) 15 = .ok (.aload_n 0, 1) := by decide +kernel
theorem d_100_16 : decode (mB 100) 16 = .ok (.iload_n 1, 1) := by decide +kernel
theorem d_100_17 : decode (mB 100) 17 = .ok (.invokevirtual 25, 3) := by decide +kernel
theorem d_100_20 : decode (mB 100) 20 = .ok (.ifCond .eq 5, 3) := by decide +kernel
theorem d_100_23 : decode (mB 100) 23 = .ok (.iload_n 3, 1) := by decide +kernel
theorem d_100_24 : decode (mB 100) 24 = .ok (.ireturn, 1) := by decide +kernel
theorem d_100_25 : decode (mB 100) 25 = .ok (.aload_n 0, 1) := by decide +kernel
theorem d_100_26 : decode (mB 100) 26 = .ok (.invokevirtual 29, 3) := by decide +kernel
theorem d_100_29 : decode (mB 100) 29 = .ok (.aload_n 0, 1) := by decide +kernel
theorem d_100_30 : decode (mB 100) 30 = .ok (.iload_n 1, 1) := by decide +kernel
theorem d_100_31 : decode (mB 100) 31 = .ok (.invokevirtual 32, 3) := by decide +kernel
theorem d_100_34 : decode (mB 100) 34 = .ok (.ifCond .ne 5, 3) := by decide +kernel
theorem d_100_37 : decode (mB 100) 37 = .ok (.iconst (-1), 1) := by decide +kernel
theorem d_100_38 : decode (mB 100) 38 = .ok (.ireturn, 1) := by decide +kernel
theorem d_100_39 : decode (mB 100) 39 = .ok (.iinc 3 1, 3) := by decide +kernel
theorem d_100_42 : decode (mB 100) 42 = .ok (.goto (-32), 3) := by decide +kernel
theorem d_100_45 : decode (mB 100) 45 = .ok (.iconst (-1), 1) := by decide +kernel
theorem d_100_46 : decode (mB 100) 46 = .ok (.ireturn, 1) := by decide +kernel
theorem d_0_0 : decode (mB 0) 0 = .ok (.iconst 0, 1) := by decide +kernel
theorem d_0_1 : decode (mB 0) 1 = .ok (.istore_n 1, 1) := by decide +kernel
theorem d_0_2 : decode (mB 0) 2 = .ok (.iload_n 1, 1) := by decide +kernel
theorem d_0_3 : decode (mB 0) 3 = .ok (.aload_n 0, 1) := by decide +kernel
theorem d_0_4 : decode (mB 0) 4 = .ok (.getfield 9, 3) := by decide +kernel
theorem d_0_7 : decode (mB 0) 7 = .ok (.getfield 22, 3) := by decide +kernel
theorem d_0_10 : decode (mB 0) 10 = .ok (.getfield 28, 3) := by decide +kernel
theorem d_0_13 : decode (mB 0) 13 = .ok (.if_icmp .ge 30, 3) := by decide +kernel
theorem d_0_16 : decode (mB 0) 16 = .ok (.aload_n 0, 1) := by decide +kernel
theorem d_0_17 : decode (mB 0) 17 = .ok (.getfield 15, 3) := by decide +kernel
theorem d_0_20 : decode (mB 0) 20 = .ok (.iload_n 1, 1) := by decide +kernel
theorem d_0_21 : decode (mB 0) 21 = .ok (.iconst 0, 1) := by decide +kernel
theorem d_0_22 : decode (mB 0) 22 = .ok (.iastore, 1) := by decide +kernel
theorem d_0_23 : decode (mB 0) 23 = .ok (.aload_n 0, 1) := by decide +kernel
theorem d_0_24 : decode (mB 0) 24 = .ok (.getfield 19, 3) := by decide +kernel
theorem d_0_27 : decode (mB 0) 27 = .ok (.iload_n 1, 1) := by decide +kernel
theorem d_0_28 : decode (mB 0) 28 = .ok (.aload_n 0, 1) := by decide +kernel
theorem d_0_29 : decode (mB 0) 29 = .ok (.getfield 9, 3) := by decide +kernel
theorem d_0_32 : decode (mB 0) 32 = .ok (.iload_n 1, 1) := by decide +kernel
theorem d_0_33 : decode (mB 0) 33 = .ok (.invokevirtual 34, 3) := by decide +kernel
theorem d_0_36 : decode (mB 0) 36 = .ok (.iastore, 1) := by decide +kernel
theorem d_0_37 : decode (mB 0) 37 = .ok (.iinc 1 1, 3) := by decide +kernel
theorem d_0_40 : decode (mB 0) 40 = .ok (.goto (-38), 3) := by decide +kernel
theorem d_0_43 : decode (mB 0) 43 = .ok (.iconst 0, 1) := by decide +kernel
theorem d_0_44 : decode (mB 0) 44 = .ok (.istore_n 1, 1) := by decide +kernel
theorem d_0_45 : decode (mB 0) 45 = .ok (.iload_n 1, 1) := by decide +kernel
theorem d_0_46 : decode (mB 0) 46 = .ok (.bipush 30, 2) := by decide +kernel
theorem d_0_48 : decode (mB 0) 48 = .ok (.if_icmp .ge 18, 3) := by decide +kernel
theorem d_0_51 : decode (mB 0) 51 = .ok (.aload_n 0, 1) := by decide +kernel
theorem d_0_52 : decode (mB 0) 52 = .ok (.invokevirtual 38, 3) := by decide +kernel
theorem d_0_55 : decode (mB 0) 55 = .ok (.ifCond .ne 5, 3) := by decide +kernel
theorem d_0_58 : decode (mB 0) 58 = .ok (.iload_n 1, 1) := by decide +kernel
theorem d_0_59 : decode (mB 0) 59 = .ok (.ireturn, 1) := by decide +kernel
theorem d_0_60 : decode (mB 0) 60 = .ok (.iinc 1 1, 3) := by decide +kernel
theorem d_0_63 : decode (mB 0) 63 = .ok (.goto (-18), 3) := by decide +kernel
theorem d_0_66 : decode (mB 0) 66 = .ok (.bipush 30, 2) := by decide +kernel
theorem d_0_68 : decode (mB 0) 68 = .ok (.ireturn, 1) := by decide +kernel
theorem d_3_0 : decode (mB 3) 0 = .ok (.iconst (-1), 1) := by decide +kernel
theorem d_3_1 : decode (mB 3) 1 = .ok (.istore_n 1, 1) := by decide +kernel
theorem d_3_2 : decode (mB 3) 2 = .ok (.iconst 0, 1) := by decide +kernel
theorem d_3_3 : decode (mB 3) 3 = .ok (.istore_n 2, 1) := by decide +kernel
theorem d_3_4 : decode (mB 3) 4 = .ok (.iload_n 2, 1) := by decide +kernel
theorem d_3_5 : decode (mB 3) 5 = .ok (.aload_n 0, 1) := by decide +kernel
theorem d_3_6 : decode (mB 3) 6 = .ok (.getfield 9, 3) := by decide +kernel
theorem d_3_9 : decode (mB 3) 9 = .ok (.getfield 22, 3) := by decide +kernel
theorem d_3_12 : decode (mB 3) 12 = .ok (.getfield 28, 3) := by decide +kernel
theorem d_3_15 : decode (mB 3) 15 = .ok (.if_icmp .ge 59, 3) := by decide +kernel
theorem d_3_18 : decode (mB 3) 18 = .ok (.iload_n 1, 1) := by decide +kernel
theorem d_3_19 : decode (mB 3) 19 = .ok (.iconst (-1), 1) := by decide +kernel
theorem d_3_20 : decode (mB 3) 20 = .ok (.if_icmp .eq 18, 3) := by decide +kernel
theorem d_3_23 : decode (mB 3) 23 = .ok (.aload_n 0, 1) := by decide +kernel
theorem d_3_24 : decode (mB 3) 24 = .ok (.getfield 15, 3) := by decide +kernel
theorem d_3_27 : decode (mB 3) 27 = .ok (.iload_n 2, 1) := by decide +kernel
theorem d_3_28 : decode (mB 3) 28 = .ok (.iaload, 1) := by decide +kernel
theorem d_3_29 : decode (mB 3) 29 = .ok (.aload_n 0, 1) := by decide +kernel
theorem d_3_30 : decode (mB 3) 30 = .ok (.getfield 15, 3) := by decide +kernel
theorem d_3_33 : decode (mB 3) 33 = .ok (.iload_n 1, 1) := by decide +kernel
theorem d_3_34 : decode (mB 3) 34 = .ok (.iaload, 1) := by decide +kernel
theorem d_3_35 : decode (mB 3) 35 = .ok (.if_icmp .ge 7, 3) := by decide +kernel
theorem d_3_38 : decode (mB 3) 38 = .ok (.iconst 1, 1) := by decide +kernel
theorem d_3_39 : decode (mB 3) 39 = .ok (.goto 4, 3) := by decide +kernel
theorem d_3_42 : decode (mB 3) 42 = .ok (.iconst 0, 1) := by decide +kernel
theorem d_3_43 : decode (mB 3) 43 = .ok (.istore_n 3, 1) := by decide +kernel
theorem d_3_44 : decode (mB 3) 44 = .ok (.iload_n 3, 1) := by decide +kernel
theorem d_3_45 : decode (mB 3) 45 = .ok (.ifCond .eq 23, 3) := by decide +kernel
theorem d_3_48 : decode (mB 3) 48 = .ok (.aload_n 0, 1) := by decide +kernel
theorem d_3_49 : decode (mB 3) 49 = .ok (.getfield 19, 3) := by decide +kernel
theorem d_3_52 : decode (mB 3) 52 = .ok (.iload_n 2, 1) := by decide +kernel
theorem d_3_53 : decode (mB 3) 53 = .ok (.iaload, 1) := by decide +kernel
theorem d_3_54 : decode (mB 3) 54 = .ok (.aload_n 0, 1) := by decide +kernel
theorem d_3_55 : decode (mB 3) 55 = .ok (.getfield 15, 3) := by decide +kernel
theorem d_3_58 : decode (mB 3) 58 = .ok (.iload_n 2, 1) := by decide +kernel
theorem d_3_59 : decode (mB 3) 59 = .ok (.iaload, 1) := by decide +kernel
theorem d_3_60 : decode (mB 3) 60 = .ok (.invokestatic 50, 3) := by decide +kernel
theorem d_3_63 : decode (mB 3) 63 = .ok (.ifCond .eq 5, 3) := by decide +kernel
theorem d_3_66 : decode (mB 3) 66 = .ok (.iload_n 2, 1) := by decide +kernel
theorem d_3_67 : decode (mB 3) 67 = .ok (.istore_n 1, 1) := by decide +kernel
theorem d_3_68 : decode (mB 3) 68 = .ok (.iinc 2 1, 3) := by decide +kernel
theorem d_3_71 : decode (mB 3) 71 = .ok (.goto (-67), 3) := by decide +kernel
theorem d_3_74 : decode (mB 3) 74 = .ok (.iload_n 1, 1) := by decide +kernel
theorem d_3_75 : decode (mB 3) 75 = .ok (.ireturn, 1) := by decide +kernel
theorem d_701_0 : decode (mB 701) 0 = .ok (.iconst 1, 1) := by decide +kernel
theorem d_701_1 : decode (mB 701) 1 = .ok (.iload_n 1, 1) := by decide +kernel
theorem d_701_2 : decode (mB 701) 2 = .ok (.ishl, 1) := by decide +kernel
theorem d_701_3 : decode (mB 701) 3 = .ok (.istore_n 2, 1) := by decide +kernel
theorem d_701_4 : decode (mB 701) 4 = .ok (.iconst 0, 1) := by decide +kernel
theorem d_701_5 : decode (mB 701) 5 = .ok (.istore_n 3, 1) := by decide +kernel
theorem d_701_6 : decode (mB 701) 6 = .ok (.iload_n 3, 1) := by decide +kernel
theorem d_701_7 : decode (mB 701) 7 = .ok (.bipush 6, 2) := by decide +kernel
theorem d_701_9 : decode (mB 701) 9 = .ok (.if_icmp .ge 26, 3) := by decide +kernel
theorem d_701_12 : decode (mB 701) 12 = .ok (.aload_n 0, 1) := by decide +kernel
theorem d_701_13 : decode (mB 701) 13 = .ok (.getfield 15, 3) := by decide +kernel
theorem d_701_16 : decode (mB 701) 16 = .ok (.iload_n 3, 1) := by decide +kernel
theorem d_701_17 : decode (mB 701) 17 = .ok (.iload_n 3, 1) := by decide +kernel
theorem d_701_18 : decode (mB 701) 18 = .ok (.iload_n 1, 1) := by decide +kernel
theorem d_701_19 : decode (mB 701) 19 = .ok (.if_icmp .ne 7, 3) := by decide +kernel
theorem d_701_22 : decode (mB 701) 22 = .ok (.iconst 0, 1) := by decide +kernel
theorem d_701_23 : decode (mB 701) 23 = .ok (.goto 5, 3) := by decide +kernel
theorem d_701_26 : decode (mB 701) 26 = .ok (.bipush 49, 2) := by decide +kernel
theorem d_701_28 : decode (mB 701) 28 = .ok (.iastore, 1) := by decide +kernel
theorem d_701_29 : decode (mB 701) 29 = .ok (.iinc 3 1, 3) := by decide +kernel
theorem d_701_32 : decode (mB 701) 32 = .ok (.goto (-26), 3) := by decide +kernel
theorem d_701_35 : decode (mB 701) 35 = .ok (.iconst 1, 1) := by decide +kernel
theorem d_701_36 : decode (mB 701) 36 = .ok (.istore_n 3, 1) := by decide +kernel
theorem d_701_37 : decode (mB 701) 37 = .ok (.iload_n 3, 1) := by decide +kernel
theorem d_701_38 : decode (mB 701) 38 = .ok (.bipush 6, 2) := by decide +kernel
theorem d_701_40 : decode (mB 701) 40 = .ok (.if_icmp .ge 59, 3) := by decide +kernel
theorem d_701_43 : decode (mB 701) 43 = .ok (.aload_n 0, 1) := by decide +kernel
theorem d_701_44 : decode (mB 701) 44 = .ok (.iload_n 2, 1) := by decide +kernel
theorem d_701_45 : decode (mB 701) 45 = .ok (.invokevirtual 58, 3) := by decide +kernel
theorem d_701_48 : decode (mB 701) 48 = .ok (.iload_n 2, 1) := by decide +kernel
theorem d_701_49 : decode (mB 701) 49 = .ok (.iconst (-1), 1) := by decide +kernel
theorem d_701_50 : decode (mB 701) 50 = .ok (.ixor, 1) := by decide +kernel
theorem d_701_51 : decode (mB 701) 51 = .ok (.iand, 1) := by decide +kernel
theorem d_701_52 : decode (mB 701) 52 = .ok (.istore 4, 2) := by decide +kernel
theorem d_701_54 : decode (mB 701) 54 = .ok (.iconst 0, 1) := by decide +kernel
theorem d_701_55 : decode (mB 701) 55 = .ok (.istore 5, 2) := by decide +kernel
theorem d_701_57 : decode (mB 701) 57 = .ok (.iload 5, 2) := by decide +kernel
theorem d_701_59 : decode (mB 701) 59 = .ok (.bipush 6, 2) := by decide +kernel
theorem d_701_61 : decode (mB 701) 61 = .ok (.if_icmp .ge 27, 3) := by decide +kernel
theorem d_701_64 : decode (mB 701) 64 = .ok (.iload 4, 2) := by decide +kernel
theorem d_701_66 : decode (mB 701) 66 = .ok (.iload 5, 2) := by decide +kernel
theorem d_701_68 : decode (mB 701) 68 = .ok (.invokestatic 62, 3) := by decide +kernel
theorem d_701_71 : decode (mB 701) 71 = .ok (.ifCond .eq 11, 3) := by decide +kernel
theorem d_701_74 : decode (mB 701) 74 = .ok (.aload_n 0, 1) := by decide +kernel
theorem d_701_75 : decode (mB 701) 75 = .ok (.getfield 15, 3) := by decide +kernel
theorem d_701_78 : decode (mB 701) 78 = .ok (.iload 5, 2) := by decide +kernel
theorem d_701_80 : decode (mB 701) 80 = .ok (.iload_n 3, 1) := by decide +kernel
theorem d_701_81 : decode (mB 701) 81 = .ok (.iastore, 1) := by decide +kernel
theorem d_701_82 : decode (mB 701) 82 = .ok (.iinc 5 1, 3) := by decide +kernel
theorem d_701_85 : decode (mB 701) 85 = .ok (.goto (-28), 3) := by decide +kernel
theorem d_701_88 : decode (mB 701) 88 = .ok (.iload_n 2, 1) := by decide +kernel
theorem d_701_89 : decode (mB 701) 89 = .ok (.iload 4, 2) := by decide +kernel
theorem d_701_91 : decode (mB 701) 91 = .ok (.ior, 1) := by decide +kernel
theorem d_701_92 : decode (mB 701) 92 = .ok (.istore_n 2, 1) := by decide +kernel
theorem d_701_93 : decode (mB 701) 93 = .ok (.iinc 3 1, 3) := by decide +kernel
theorem d_701_96 : decode (mB 701) 96 = .ok (.goto (-59), 3) := by decide +kernel
theorem d_701_99 : decode (mB 701) 99 = .ok (.return_, 1) := by decide +kernel
theorem d_704_0 : decode (mB 704) 0 = .ok (.aload_n 0, 1) := by decide +kernel
theorem d_704_1 : decode (mB 704) 1 = .ok (.getfield 9, 3) := by decide +kernel
theorem d_704_4 : decode (mB 704) 4 = .ok (.getfield 19, 3) := by decide +kernel
theorem d_704_7 : decode (mB 704) 7 = .ok (.iload_n 1, 1) := by decide +kernel
theorem d_704_8 : decode (mB 704) 8 = .ok (.invokevirtual 72, 3) := by decide +kernel
theorem d_704_11 : decode (mB 704) 11 = .ok (.istore_n 3, 1) := by decide +kernel
theorem d_704_12 : decode (mB 704) 12 = .ok (.iconst 0, 1) := by decide +kernel
theorem d_704_13 : decode (mB 704) 13 = .ok (.istore 4, 2) := by decide +kernel
theorem d_704_15 : decode (mB 704) 15 = .ok (.iload 4, 2) := by decide +kernel
theorem d_704_17 : decode (mB 704) 17 = .ok (.bipush 6, 2) := by decide +kernel
theorem d_704_19 : decode (mB 704) 19 = .ok (.if_icmp .ge 32, 3) := by decide +kernel
theorem d_704_22 : decode (mB 704) 22 = .ok (.iload_n 3, 1) := by decide +kernel
theorem d_704_23 : decode (mB 704) 23 = .ok (.iload 4, 2) := by decide +kernel
theorem d_704_25 : decode (mB 704) 25 = .ok (.invokestatic 62, 3) := by decide +kernel
theorem d_704_28 : decode (mB 704) 28 = .ok (.ifCond .eq 17, 3) := by decide +kernel
theorem d_704_31 : decode (mB 704) 31 = .ok (.aload_n 0, 1) := by decide +kernel
theorem d_704_32 : decode (mB 704) 32 = .ok (.getfield 15, 3) := by decide +kernel
theorem d_704_35 : decode (mB 704) 35 = .ok (.iload 4, 2) := by decide +kernel
theorem d_704_37 : decode (mB 704) 37 = .ok (.iaload, 1) := by decide +kernel
theorem d_704_38 : decode (mB 704) 38 = .ok (.iload_n 2, 1) := by decide +kernel
theorem d_704_39 : decode (mB 704) 39 = .ok (.if_icmp .gt 6, 3) := by decide +kernel
theorem d_704_42 : decode (mB 704) 42 = .ok (.iload 4, 2) := by decide +kernel
theorem d_704_44 : decode (mB 704) 44 = .ok (.ireturn, 1) := by decide +kernel
theorem d_704_45 : decode (mB 704) 45 = .ok (.iinc 4 1, 3) := by decide +kernel
theorem d_704_48 : decode (mB 704) 48 = .ok (.goto (-33), 3) := by decide +kernel
theorem d_704_51 : decode (mB 704) 51 = .ok (.iload_n 1, 1) := by decide +kernel
theorem d_704_52 : decode (mB 704) 52 = .ok (.ireturn, 1) := by decide +kernel
theorem d_101_0 : decode (mB 101) 0 = .ok (.iconst 0, 1) := by decide +kernel
theorem d_101_1 : decode (mB 101) 1 = .ok (.istore_n 1, 1) := by decide +kernel
theorem d_101_2 : decode (mB 101) 2 = .ok (.iload_n 1, 1) := by decide +kernel
theorem d_101_3 : decode (mB 101) 3 = .ok (.bipush 6, 2) := by decide +kernel
theorem d_101_5 : decode (mB 101) 5 = .ok (.if_icmp .ge 41, 3) := by decide +kernel
theorem d_101_8 : decode (mB 101) 8 = .ok (.iconst 0, 1) := by decide +kernel
theorem d_101_9 : decode (mB 101) 9 = .ok (.istore_n 2, 1) := by decide +kernel
theorem d_101_10 : decode (mB 101) 10 = .ok (.iload_n 2, 1) := by decide +kernel
theorem d_101_11 : decode (mB 101) 11 = .ok (.bipush 6, 2) := by decide +kernel
theorem d_101_13 : decode (mB 101) 13 = .ok (.if_icmp .ge 27, 3) := by decide +kernel
theorem d_101_16 : decode (mB 101) 16 = .ok (.aload_n 0, 1) := by decide +kernel
theorem d_101_17 : decode (mB 101) 17 = .ok (.getfield 15, 3) := by decide +kernel
theorem d_101_20 : decode (mB 101) 20 = .ok (.iload_n 1, 1) := by decide +kernel
theorem d_101_21 : decode (mB 101) 21 = .ok (.bipush 6, 2) := by decide +kernel
theorem d_101_23 : decode (mB 101) 23 = .ok (.imul, 1) := by decide +kernel
theorem d_101_24 : decode (mB 101) 24 = .ok (.iload_n 2, 1) := by decide +kernel
theorem d_101_25 : decode (mB 101) 25 = .ok (.iadd, 1) := by decide +kernel
theorem d_101_26 : decode (mB 101) 26 = .ok (.iconst 1, 1) := by decide +kernel
theorem d_101_27 : decode (mB 101) 27 = .ok (.iload_n 1, 1) := by decide +kernel
theorem d_101_28 : decode (mB 101) 28 = .ok (.ishl, 1) := by decide +kernel
theorem d_101_29 : decode (mB 101) 29 = .ok (.iconst 1, 1) := by decide +kernel
theorem d_101_30 : decode (mB 101) 30 = .ok (.iload_n 2, 1) := by decide +kernel
theorem d_101_31 : decode (mB 101) 31 = .ok (.ishl, 1) := by decide +kernel
theorem d_101_32 : decode (mB 101) 32 = .ok (.ior, 1) := by decide +kernel
theorem d_101_33 : decode (mB 101) 33 = .ok (.iastore, 1) := by decide +kernel
theorem d_101_34 : decode (mB 101) 34 = .ok (.iinc 2 1, 3) := by decide +kernel
theorem d_101_37 : decode (mB 101) 37 = .ok (.goto (-27), 3) := by decide +kernel
theorem d_101_40 : decode (mB 101) 40 = .ok (.iinc 1 1, 3) := by decide +kernel
theorem d_101_43 : decode (mB 101) 43 = .ok (.goto (-41), 3) := by decide +kernel
theorem d_101_46 : decode (mB 101) 46 = .ok (.return_, 1) := by decide +kernel
theorem d_102_0 : decode (mB 102) 0 = .ok (.iconst 1, 1) := by decide +kernel
theorem d_102_1 : decode (mB 102) 1 = .ok (.aload_n 0, 1) := by decide +kernel
theorem d_102_2 : decode (mB 102) 2 = .ok (.getfield 9, 3) := by decide +kernel
theorem d_102_5 : decode (mB 102) 5 = .ok (.getfield 35, 3) := by decide +kernel
theorem d_102_8 : decode (mB 102) 8 = .ok (.ishl, 1) := by decide +kernel
theorem d_102_9 : decode (mB 102) 9 = .ok (.iconst 1, 1) := by decide +kernel
theorem d_102_10 : decode (mB 102) 10 = .ok (.isub, 1) := by decide +kernel
theorem d_102_11 : decode (mB 102) 11 = .ok (.istore_n 2, 1) := by decide +kernel
theorem d_102_12 : decode (mB 102) 12 = .ok (.iconst 0, 1) := by decide +kernel
theorem d_102_13 : decode (mB 102) 13 = .ok (.istore_n 3, 1) := by decide +kernel
theorem d_102_14 : decode (mB 102) 14 = .ok (.iload_n 3, 1) := by decide +kernel
theorem d_102_15 : decode (mB 102) 15 = .ok (.aload_n 0, 1) := by decide +kernel
theorem d_102_16 : decode (mB 102) 16 = .ok (.getfield 9, 3) := by decide +kernel
theorem d_102_19 : decode (mB 102) 19 = .ok (.getfield 35, 3) := by decide +kernel
theorem d_102_22 : decode (mB 102) 22 = .ok (.if_icmp .ge 70, 3) := by decide +kernel
theorem d_102_25 : decode (mB 102) 25 = .ok (.iconst 0, 1) := by decide +kernel
theorem d_102_26 : decode (mB 102) 26 = .ok (.istore 4, 2) := by decide +kernel
theorem d_102_28 : decode (mB 102) 28 = .ok (.iload 4, 2) := by decide +kernel
theorem d_102_30 : decode (mB 102) 30 = .ok (.aload_n 0, 1) := by decide +kernel
theorem d_102_31 : decode (mB 102) 31 = .ok (.getfield 9, 3) := by decide +kernel
theorem d_102_34 : decode (mB 102) 34 = .ok (.getfield 35, 3) := by decide +kernel
theorem d_102_37 : decode (mB 102) 37 = .ok (.if_icmp .ge 49, 3) := by decide +kernel
theorem d_102_40 : decode (mB 102) 40 = .ok (.iload_n 1, 1) := by decide +kernel
theorem d_102_41 : decode (mB 102) 41 = .ok (.ifCond .eq 9, 3) := by decide +kernel
theorem d_102_44 : decode (mB 102) 44 = .ok (.iload_n 3, 1) := by decide +kernel
theorem d_102_45 : decode (mB 102) 45 = .ok (.iload 4, 2) := by decide +kernel
theorem d_102_47 : decode (mB 102) 47 = .ok (.if_icmp .ne 7, 3) := by decide +kernel
theorem d_102_50 : decode (mB 102) 50 = .ok (.iconst 1, 1) := by decide +kernel
theorem d_102_51 : decode (mB 102) 51 = .ok (.goto 4, 3) := by decide +kernel
theorem d_102_54 : decode (mB 102) 54 = .ok (.iconst 0, 1) := by decide +kernel
theorem d_102_55 : decode (mB 102) 55 = .ok (.istore 5, 2) := by decide +kernel
theorem d_102_57 : decode (mB 102) 57 = .ok (.iload 5, 2) := by decide +kernel
theorem d_102_59 : decode (mB 102) 59 = .ok (.ifCond .eq 21, 3) := by decide +kernel
theorem d_102_62 : decode (mB 102) 62 = .ok (.aload_n 0, 1) := by decide +kernel
theorem d_102_63 : decode (mB 102) 63 = .ok (.getfield 15, 3) := by decide +kernel
theorem d_102_66 : decode (mB 102) 66 = .ok (.iload_n 3, 1) := by decide +kernel
theorem d_102_67 : decode (mB 102) 67 = .ok (.bipush 6, 2) := by decide +kernel
theorem d_102_69 : decode (mB 102) 69 = .ok (.imul, 1) := by decide +kernel
theorem d_102_70 : decode (mB 102) 70 = .ok (.iload 4, 2) := by decide +kernel
theorem d_102_72 : decode (mB 102) 72 = .ok (.iadd, 1) := by decide +kernel
theorem d_102_73 : decode (mB 102) 73 = .ok (.iaload, 1) := by decide +kernel
theorem d_102_74 : decode (mB 102) 74 = .ok (.iload_n 2, 1) := by decide +kernel
theorem d_102_75 : decode (mB 102) 75 = .ok (.if_icmp .ne 5, 3) := by decide +kernel
theorem d_102_78 : decode (mB 102) 78 = .ok (.iconst 1, 1) := by decide +kernel
theorem d_102_79 : decode (mB 102) 79 = .ok (.ireturn, 1) := by decide +kernel
theorem d_102_80 : decode (mB 102) 80 = .ok (.iinc 4 1, 3) := by decide +kernel
theorem d_102_83 : decode (mB 102) 83 = .ok (.goto (-55), 3) := by decide +kernel
theorem d_102_86 : decode (mB 102) 86 = .ok (.iinc 3 1, 3) := by decide +kernel
theorem d_102_89 : decode (mB 102) 89 = .ok (.goto (-75), 3) := by decide +kernel
theorem d_102_92 : decode (mB 102) 92 = .ok (.iconst 0, 1) := by decide +kernel
theorem d_102_93 : decode (mB 102) 93 = .ok (.ireturn, 1) := by decide +kernel
theorem d_103_0 : decode (mB 103) 0 = .ok (.iconst 0, 1) := by decide +kernel
theorem d_103_1 : decode (mB 103) 1 = .ok (.istore_n 1, 1) := by decide +kernel
theorem d_103_2 : decode (mB 103) 2 = .ok (.iload_n 1, 1) := by decide +kernel
theorem d_103_3 : decode (mB 103) 3 = .ok (.aload_n 0, 1) := by decide +kernel
theorem d_103_4 : decode (mB 103) 4 = .ok (.getfield 9, 3) := by decide +kernel
theorem d_103_7 : decode (mB 103) 7 = .ok (.getfield 35, 3) := by decide +kernel
theorem d_103_10 : decode (mB 103) 10 = .ok (.if_icmp .ge 59, 3) := by decide +kernel
theorem d_103_13 : decode (mB 103) 13 = .ok (.iconst 0, 1) := by decide +kernel
theorem d_103_14 : decode (mB 103) 14 = .ok (.istore_n 2, 1) := by decide +kernel
theorem d_103_15 : decode (mB 103) 15 = .ok (.iload_n 2, 1) := by decide +kernel
theorem d_103_16 : decode (mB 103) 16 = .ok (.aload_n 0, 1) := by decide +kernel
theorem d_103_17 : decode (mB 103) 17 = .ok (.getfield 9, 3) := by decide +kernel
theorem d_103_20 : decode (mB 103) 20 = .ok (.getfield 35, 3) := by decide +kernel
theorem d_103_23 : decode (mB 103) 23 = .ok (.if_icmp .ge 40, 3) := by decide +kernel
theorem d_103_26 : decode (mB 103) 26 = .ok (.iload_n 1, 1) := by decide +kernel
theorem d_103_27 : decode (mB 103) 27 = .ok (.bipush 6, 2) := by decide +kernel
theorem d_103_29 : decode (mB 103) 29 = .ok (.imul, 1) := by decide +kernel
theorem d_103_30 : decode (mB 103) 30 = .ok (.iload_n 2, 1) := by decide +kernel
theorem d_103_31 : decode (mB 103) 31 = .ok (.iadd, 1) := by decide +kernel
theorem d_103_32 : decode (mB 103) 32 = .ok (.istore_n 3, 1) := by decide +kernel
theorem d_103_33 : decode (mB 103) 33 = .ok (.aload_n 0, 1) := by decide +kernel
theorem d_103_34 : decode (mB 103) 34 = .ok (.getfield 19, 3) := by decide +kernel
theorem d_103_37 : decode (mB 103) 37 = .ok (.iload_n 3, 1) := by decide +kernel
theorem d_103_38 : decode (mB 103) 38 = .ok (.iconst 1, 1) := by decide +kernel
theorem d_103_39 : decode (mB 103) 39 = .ok (.iload_n 1, 1) := by decide +kernel
theorem d_103_40 : decode (mB 103) 40 = .ok (.ishl, 1) := by decide +kernel
theorem d_103_41 : decode (mB 103) 41 = .ok (.iconst 1, 1) := by decide +kernel
theorem d_103_42 : decode (mB 103) 42 = .ok (.iload_n 2, 1) := by decide +kernel
theorem d_103_43 : decode (mB 103) 43 = .ok (.ishl, 1) := by decide +kernel
theorem d_103_44 : decode (mB 103) 44 = .ok (.ior, 1) := by decide +kernel
theorem d_103_45 : decode (mB 103) 45 = .ok (.aload_n 0, 1) := by decide +kernel
theorem d_103_46 : decode (mB 103) 46 = .ok (.aload_n 0, 1) := by decide +kernel
theorem d_103_47 : decode (mB 103) 47 = .ok (.getfield 15, 3) := by decide +kernel
theorem d_103_50 : decode (mB 103) 50 = .ok (.iload_n 3, 1) := by decide +kernel
theorem d_103_51 : decode (mB 103) 51 = .ok (.iaload, 1) := by decide +kernel
theorem d_103_52 : decode (mB 103) 52 = .ok (.invokevirtual 41, 3) := by decide +kernel
theorem d_103_55 : decode (mB 103) 55 = .ok (.ior, 1) := by decide +kernel
theorem d_103_56 : decode (mB 103) 56 = .ok (.iastore, 1) := by decide +kernel
theorem d_103_57 : decode (mB 103) 57 = .ok (.iinc 2 1, 3) := by decide +kernel
theorem d_103_60 : decode (mB 103) 60 = .ok (.goto (-45), 3) := by decide +kernel
theorem d_103_63 : decode (mB 103) 63 = .ok (.iinc 1 1, 3) := by decide +kernel
theorem d_103_66 : decode (mB 103) 66 = .ok (.goto (-64), 3) := by decide +kernel
theorem d_103_69 : decode (mB 103) 69 = .ok (.return_, 1) := by decide +kernel
theorem d_105_0 : decode (mB 105) 0 = .ok (.iconst 0, 1) := by decide +kernel
theorem d_105_1 : decode (mB 105) 1 = .ok (.istore_n 2, 1) := by decide +kernel
theorem d_105_2 : decode (mB 105) 2 = .ok (.iconst 0, 1) := by decide +kernel
theorem d_105_3 : decode (mB 105) 3 = .ok (.istore_n 3, 1) := by decide +kernel
theorem d_105_4 : decode (mB 105) 4 = .ok (.iload_n 3, 1) := by decide +kernel
theorem d_105_5 : decode (mB 105) 5 = .ok (.aload_n 0, 1) := by decide +kernel
theorem d_105_6 : decode (mB 105) 6 = .ok (.getfield 9, 3) := by decide +kernel
theorem d_105_9 : decode (mB 105) 9 = .ok (.getfield 35, 3) := by decide +kernel
theorem d_105_12 : decode (mB 105) 12 = .ok (.if_icmp .ge 101, 3) := by decide +kernel
theorem d_105_15 : decode (mB 105) 15 = .ok (.iconst 0, 1) := by decide +kernel
theorem d_105_16 : decode (mB 105) 16 = .ok (.istore 4, 2) := by decide +kernel
theorem d_105_18 : decode (mB 105) 18 = .ok (.iload 4, 2) := by decide +kernel
theorem d_105_20 : decode (mB 105) 20 = .ok (.aload_n 0, 1) := by decide +kernel
theorem d_105_21 : decode (mB 105) 21 = .ok (.getfield 9, 3) := by decide +kernel
theorem d_105_24 : decode (mB 105) 24 = .ok (.getfield 35, 3) := by decide +kernel
theorem d_105_27 : decode (mB 105) 27 = .ok (.if_icmp .ge 80, 3) := by decide +kernel
theorem d_105_30 : decode (mB 105) 30 = .ok (.iload_n 1, 1) := by decide +kernel
theorem d_105_31 : decode (mB 105) 31 = .ok (.ifCond .eq 12, 3) := by decide +kernel
theorem d_105_34 : decode (mB 105) 34 = .ok (.iload_n 3, 1) := by decide +kernel
theorem d_105_35 : decode (mB 105) 35 = .ok (.iload 4, 2) := by decide +kernel
theorem d_105_37 : decode (mB 105) 37 = .ok (.if_icmp .eq 6, 3) := by decide +kernel
theorem d_105_40 : decode (mB 105) 40 = .ok (.goto 61, 3) := by decide +kernel
theorem d_105_43 : decode (mB 105) 43 = .ok (.iload_n 3, 1) := by decide +kernel
theorem d_105_44 : decode (mB 105) 44 = .ok (.bipush 6, 2) := by decide +kernel
theorem d_105_46 : decode (mB 105) 46 = .ok (.imul, 1) := by decide +kernel
theorem d_105_47 : decode (mB 105) 47 = .ok (.iload 4, 2) := by decide +kernel
theorem d_105_49 : decode (mB 105) 49 = .ok (.iadd, 1) := by decide +kernel
theorem d_105_50 : decode (mB 105) 50 = .ok (.istore 5, 2) := by decide +kernel
theorem d_105_52 : decode (mB 105) 52 = .ok (.aload_n 0, 1) := by decide +kernel
theorem d_105_53 : decode (mB 105) 53 = .ok (.getfield 15, 3) := by decide +kernel
theorem d_105_56 : decode (mB 105) 56 = .ok (.iload 5, 2) := by decide +kernel
theorem d_105_58 : decode (mB 105) 58 = .ok (.iaload, 1) := by decide +kernel
theorem d_105_59 : decode (mB 105) 59 = .ok (.aload_n 0, 1) := by decide +kernel
theorem d_105_60 : decode (mB 105) 60 = .ok (.iload_n 3, 1) := by decide +kernel
theorem d_105_61 : decode (mB 105) 61 = .ok (.iload 4, 2) := by decide +kernel
theorem d_105_63 : decode (mB 105) 63 = .ok (.iload_n 1, 1) := by decide +kernel
theorem d_105_64 : decode (mB 105) 64 = .ok (.invokevirtual 48, 3) := by decide +kernel
theorem d_105_67 : decode (mB 105) 67 = .ok (.ior, 1) := by decide +kernel
theorem d_105_68 : decode (mB 105) 68 = .ok (.istore 6, 2) := by decide +kernel
theorem d_105_70 : decode (mB 105) 70 = .ok (.iload_n 2, 1) := by decide +kernel
theorem d_105_71 : decode (mB 105) 71 = .ok (.ifCond .ne 15, 3) := by decide +kernel
theorem d_105_74 : decode (mB 105) 74 = .ok (.iload 6, 2) := by decide +kernel
theorem d_105_76 : decode (mB 105) 76 = .ok (.aload_n 0, 1) := by decide +kernel
theorem d_105_77 : decode (mB 105) 77 = .ok (.getfield 15, 3) := by decide +kernel
theorem d_105_80 : decode (mB 105) 80 = .ok (.iload 5, 2) := by decide +kernel
theorem d_105_82 : decode (mB 105) 82 = .ok (.iaload, 1) := by decide +kernel
theorem d_105_83 : decode (mB 105) 83 = .ok (.if_icmp .eq 7, 3) := by decide +kernel
theorem d_105_86 : decode (mB 105) 86 = .ok (.iconst 1, 1) := by decide +kernel
theorem d_105_87 : decode (mB 105) 87 = .ok (.goto 4, 3) := by decide +kernel
theorem d_105_90 : decode (mB 105) 90 = .ok (.iconst 0, 1) := by decide +kernel
theorem d_105_91 : decode (mB 105) 91 = .ok (.istore_n 2, 1) := by decide +kernel
theorem d_105_92 : decode (mB 105) 92 = .ok (.aload_n 0, 1) := by decide +kernel
theorem d_105_93 : decode (mB 105) 93 = .ok (.getfield 15, 3) := by decide +kernel
theorem d_105_96 : decode (mB 105) 96 = .ok (.iload 5, 2) := by decide +kernel
theorem d_105_98 : decode (mB 105) 98 = .ok (.iload 6, 2) := by decide +kernel
theorem d_105_100 : decode (mB 105) 100 = .ok (.iastore, 1) := by decide +kernel
theorem d_105_101 : decode (mB 105) 101 = .ok (.iinc 4 1, 3) := by decide +kernel
theorem d_105_104 : decode (mB 105) 104 = .ok (.goto (-86), 3) := by decide +kernel
theorem d_105_107 : decode (mB 105) 107 = .ok (.iinc 3 1, 3) := by decide +kernel
theorem d_105_110 : decode (mB 105) 110 = .ok (.goto (-106), 3) := by decide +kernel
theorem d_105_113 : decode (mB 105) 113 = .ok (.iload_n 2, 1) := by decide +kernel
theorem d_105_114 : decode (mB 105) 114 = .ok (.ireturn, 1) := by decide +kernel
theorem d_1_0 : decode (mB 1) 0 = .ok (.iconst 0, 1) := by decide +kernel
theorem d_1_1 : decode (mB 1) 1 = .ok (.istore_n 1, 1) := by decide +kernel
theorem d_1_2 : decode (mB 1) 2 = .ok (.iconst 0, 1) := by decide +kernel
theorem d_1_3 : decode (mB 1) 3 = .ok (.istore_n 2, 1) := by decide +kernel
theorem d_1_4 : decode (mB 1) 4 = .ok (.iload_n 2, 1) := by decide +kernel
theorem d_1_5 : decode (mB 1) 5 = .ok (.aload_n 0, 1) := by decide +kernel
theorem d_1_6 : decode (mB 1) 6 = .ok (.getfield 9, 3) := by decide +kernel
theorem d_1_9 : decode (mB 1) 9 = .ok (.getfield 22, 3) := by decide +kernel
theorem d_1_12 : decode (mB 1) 12 = .ok (.getfield 28, 3) := by decide +kernel
theorem d_1_15 : decode (mB 1) 15 = .ok (.if_icmp .ge 35, 3) := by decide +kernel
theorem d_1_18 : decode (mB 1) 18 = .ok (.aload_n 0, 1) := by decide +kernel
theorem d_1_19 : decode (mB 1) 19 = .ok (.invokevirtual 42, 3) := by decide +kernel
theorem d_1_22 : decode (mB 1) 22 = .ok (.iload_n 2, 1) := by decide +kernel
theorem d_1_23 : decode (mB 1) 23 = .ok (.if_icmp .eq 11, 3) := by decide +kernel
theorem d_1_26 : decode (mB 1) 26 = .ok (.aload_n 0, 1) := by decide +kernel
theorem d_1_27 : decode (mB 1) 27 = .ok (.iload_n 2, 1) := by decide +kernel
theorem d_1_28 : decode (mB 1) 28 = .ok (.invokevirtual 46, 3) := by decide +kernel
theorem d_1_31 : decode (mB 1) 31 = .ok (.ifCond .ne 7, 3) := by decide +kernel
theorem d_1_34 : decode (mB 1) 34 = .ok (.iload_n 1, 1) := by decide +kernel
theorem d_1_35 : decode (mB 1) 35 = .ok (.ifCond .eq 7, 3) := by decide +kernel
theorem d_1_38 : decode (mB 1) 38 = .ok (.iconst 1, 1) := by decide +kernel
theorem d_1_39 : decode (mB 1) 39 = .ok (.goto 4, 3) := by decide +kernel
theorem d_1_42 : decode (mB 1) 42 = .ok (.iconst 0, 1) := by decide +kernel
theorem d_1_43 : decode (mB 1) 43 = .ok (.istore_n 1, 1) := by decide +kernel
theorem d_1_44 : decode (mB 1) 44 = .ok (.iinc 2 1, 3) := by decide +kernel
theorem d_1_47 : decode (mB 1) 47 = .ok (.goto (-43), 3) := by decide +kernel
theorem d_1_50 : decode (mB 1) 50 = .ok (.iload_n 1, 1) := by decide +kernel
theorem d_1_51 : decode (mB 1) 51 = .ok (.ireturn, 1) := by decide +kernel
theorem d_702_0 : decode (mB 702) 0 = .ok (.iconst 0, 1) := by decide +kernel
theorem d_702_1 : decode (mB 702) 1 = .ok (.istore_n 2, 1) := by decide +kernel
theorem d_702_2 : decode (mB 702) 2 = .ok (.iconst 0, 1) := by decide +kernel
theorem d_702_3 : decode (mB 702) 3 = .ok (.istore_n 3, 1) := by decide +kernel
theorem d_702_4 : decode (mB 702) 4 = .ok (.iload_n 3, 1) := by decide +kernel
theorem d_702_5 : decode (mB 702) 5 = .ok (.bipush 6, 2) := by decide +kernel
theorem d_702_7 : decode (mB 702) 7 = .ok (.if_icmp .ge 31, 3) := by decide +kernel
theorem d_702_10 : decode (mB 702) 10 = .ok (.iload_n 1, 1) := by decide +kernel
theorem d_702_11 : decode (mB 702) 11 = .ok (.iload_n 3, 1) := by decide +kernel
theorem d_702_12 : decode (mB 702) 12 = .ok (.invokestatic 62, 3) := by decide +kernel
theorem d_702_15 : decode (mB 702) 15 = .ok (.ifCond .eq 17, 3) := by decide +kernel
theorem d_702_18 : decode (mB 702) 18 = .ok (.iload_n 2, 1) := by decide +kernel
theorem d_702_19 : decode (mB 702) 19 = .ok (.aload_n 0, 1) := by decide +kernel
theorem d_702_20 : decode (mB 702) 20 = .ok (.getfield 9, 3) := by decide +kernel
theorem d_702_23 : decode (mB 702) 23 = .ok (.getfield 19, 3) := by decide +kernel
theorem d_702_26 : decode (mB 702) 26 = .ok (.iload_n 3, 1) := by decide +kernel
theorem d_702_27 : decode (mB 702) 27 = .ok (.invokevirtual 65, 3) := by decide +kernel
theorem d_702_30 : decode (mB 702) 30 = .ok (.ior, 1) := by decide +kernel
theorem d_702_31 : decode (mB 702) 31 = .ok (.istore_n 2, 1) := by decide +kernel
theorem d_702_32 : decode (mB 702) 32 = .ok (.iinc 3 1, 3) := by decide +kernel
theorem d_702_35 : decode (mB 702) 35 = .ok (.goto (-31), 3) := by decide +kernel
theorem d_702_38 : decode (mB 702) 38 = .ok (.iload_n 2, 1) := by decide +kernel
theorem d_702_39 : decode (mB 702) 39 = .ok (.ireturn, 1) := by decide +kernel
theorem d_104_0 : decode (mB 104) 0 = .ok (.iconst 0, 1) := by decide +kernel
theorem d_104_1 : decode (mB 104) 1 = .ok (.istore_n 2, 1) := by decide +kernel
theorem d_104_2 : decode (mB 104) 2 = .ok (.iconst 0, 1) := by decide +kernel
theorem d_104_3 : decode (mB 104) 3 = .ok (.istore_n 3, 1) := by decide +kernel
theorem d_104_4 : decode (mB 104) 4 = .ok (.iload_n 3, 1) := by decide +kernel
theorem d_104_5 : decode (mB 104) 5 = .ok (.aload_n 0, 1) := by decide +kernel
theorem d_104_6 : decode (mB 104) 6 = .ok (.getfield 9, 3) := by decide +kernel
theorem d_104_9 : decode (mB 104) 9 = .ok (.getfield 35, 3) := by decide +kernel
theorem d_104_12 : decode (mB 104) 12 = .ok (.if_icmp .ge 30, 3) := by decide +kernel
theorem d_104_15 : decode (mB 104) 15 = .ok (.aload_n 0, 1) := by decide +kernel
theorem d_104_16 : decode (mB 104) 16 = .ok (.getfield 9, 3) := by decide +kernel
theorem d_104_19 : decode (mB 104) 19 = .ok (.iload_n 3, 1) := by decide +kernel
theorem d_104_20 : decode (mB 104) 20 = .ok (.invokevirtual 45, 3) := by decide +kernel
theorem d_104_23 : decode (mB 104) 23 = .ok (.iload_n 1, 1) := by decide +kernel
theorem d_104_24 : decode (mB 104) 24 = .ok (.iconst (-1), 1) := by decide +kernel
theorem d_104_25 : decode (mB 104) 25 = .ok (.ixor, 1) := by decide +kernel
theorem d_104_26 : decode (mB 104) 26 = .ok (.iand, 1) := by decide +kernel
theorem d_104_27 : decode (mB 104) 27 = .ok (.ifCond .ne 9, 3) := by decide +kernel
theorem d_104_30 : decode (mB 104) 30 = .ok (.iload_n 2, 1) := by decide +kernel
theorem d_104_31 : decode (mB 104) 31 = .ok (.iconst 1, 1) := by decide +kernel
theorem d_104_32 : decode (mB 104) 32 = .ok (.iload_n 3, 1) := by decide +kernel
theorem d_104_33 : decode (mB 104) 33 = .ok (.ishl, 1) := by decide +kernel
theorem d_104_34 : decode (mB 104) 34 = .ok (.ior, 1) := by decide +kernel
theorem d_104_35 : decode (mB 104) 35 = .ok (.istore_n 2, 1) := by decide +kernel
theorem d_104_36 : decode (mB 104) 36 = .ok (.iinc 3 1, 3) := by decide +kernel
theorem d_104_39 : decode (mB 104) 39 = .ok (.goto (-35), 3) := by decide +kernel
theorem d_104_42 : decode (mB 104) 42 = .ok (.iload_n 2, 1) := by decide +kernel
theorem d_104_43 : decode (mB 104) 43 = .ok (.ireturn, 1) := by decide +kernel
theorem d_106_0 : decode (mB 106) 0 = .ok (.iconst 0, 1) := by decide +kernel
theorem d_106_1 : decode (mB 106) 1 = .ok (.istore 4, 2) := by decide +kernel
theorem d_106_3 : decode (mB 106) 3 = .ok (.iconst 0, 1) := by decide +kernel
theorem d_106_4 : decode (mB 106) 4 = .ok (.istore 5, 2) := by decide +kernel
theorem d_106_6 : decode (mB 106) 6 = .ok (.iload 5, 2) := by decide +kernel
theorem d_106_8 : decode (mB 106) 8 = .ok (.aload_n 0, 1) := by decide +kernel
theorem d_106_9 : decode (mB 106) 9 = .ok (.getfield 9, 3) := by decide +kernel
theorem d_106_12 : decode (mB 106) 12 = .ok (.getfield 35, 3) := by decide +kernel
theorem d_106_15 : decode (mB 106) 15 = .ok (.if_icmp .ge 57, 3) := by decide +kernel
theorem d_106_18 : decode (mB 106) 18 = .ok (.aload_n 0, 1) := by decide +kernel
theorem d_106_19 : decode (mB 106) 19 = .ok (.getfield 9, 3) := by decide +kernel
theorem d_106_22 : decode (mB 106) 22 = .ok (.iload_n 1, 1) := by decide +kernel
theorem d_106_23 : decode (mB 106) 23 = .ok (.invokevirtual 45, 3) := by decide +kernel
theorem d_106_26 : decode (mB 106) 26 = .ok (.iload 5, 2) := by decide +kernel
theorem d_106_28 : decode (mB 106) 28 = .ok (.invokestatic 52, 3) := by decide +kernel
theorem d_106_31 : decode (mB 106) 31 = .ok (.ifCond .eq 35, 3) := by decide +kernel
theorem d_106_34 : decode (mB 106) 34 = .ok (.iload 4, 2) := by decide +kernel
theorem d_106_36 : decode (mB 106) 36 = .ok (.iload_n 3, 1) := by decide +kernel
theorem d_106_37 : decode (mB 106) 37 = .ok (.ifCond .eq 19, 3) := by decide +kernel
theorem d_106_40 : decode (mB 106) 40 = .ok (.aload_n 0, 1) := by decide +kernel
theorem d_106_41 : decode (mB 106) 41 = .ok (.getfield 19, 3) := by decide +kernel
theorem d_106_44 : decode (mB 106) 44 = .ok (.iload 5, 2) := by decide +kernel
theorem d_106_46 : decode (mB 106) 46 = .ok (.bipush 6, 2) := by decide +kernel
theorem d_106_48 : decode (mB 106) 48 = .ok (.imul, 1) := by decide +kernel
theorem d_106_49 : decode (mB 106) 49 = .ok (.iload 5, 2) := by decide +kernel
theorem d_106_51 : decode (mB 106) 51 = .ok (.iadd, 1) := by decide +kernel
theorem d_106_52 : decode (mB 106) 52 = .ok (.iaload, 1) := by decide +kernel
theorem d_106_53 : decode (mB 106) 53 = .ok (.goto 10, 3) := by decide +kernel
theorem d_106_56 : decode (mB 106) 56 = .ok (.aload_n 0, 1) := by decide +kernel
theorem d_106_57 : decode (mB 106) 57 = .ok (.iload 5, 2) := by decide +kernel
theorem d_106_59 : decode (mB 106) 59 = .ok (.iload_n 2, 1) := by decide +kernel
theorem d_106_60 : decode (mB 106) 60 = .ok (.invokevirtual 56, 3) := by decide +kernel
theorem d_106_63 : decode (mB 106) 63 = .ok (.ior, 1) := by decide +kernel
theorem d_106_64 : decode (mB 106) 64 = .ok (.istore 4, 2) := by decide +kernel
theorem d_106_66 : decode (mB 106) 66 = .ok (.iinc 5 1, 3) := by decide +kernel
theorem d_106_69 : decode (mB 106) 69 = .ok (.goto (-63), 3) := by decide +kernel
theorem d_106_72 : decode (mB 106) 72 = .ok (.iload 4, 2) := by decide +kernel
theorem d_106_74 : decode (mB 106) 74 = .ok (.ireturn, 1) := by decide +kernel
theorem d_2_0 : decode (mB 2) 0 = .ok (.aload_n 0, 1) := by decide +kernel
theorem d_2_1 : decode (mB 2) 1 = .ok (.getfield 15, 3) := by decide +kernel
theorem d_2_4 : decode (mB 2) 4 = .ok (.iload_n 1, 1) := by decide +kernel
theorem d_2_5 : decode (mB 2) 5 = .ok (.iaload, 1) := by decide +kernel
theorem d_2_6 : decode (mB 2) 6 = .ok (.istore_n 2, 1) := by decide +kernel
theorem d_2_7 : decode (mB 2) 7 = .ok (.iconst 0, 1) := by decide +kernel
theorem d_2_8 : decode (mB 2) 8 = .ok (.istore_n 3, 1) := by decide +kernel
theorem d_2_9 : decode (mB 2) 9 = .ok (.iload_n 3, 1) := by decide +kernel
theorem d_2_10 : decode (mB 2) 10 = .ok (.bipush 24, 2) := by decide +kernel
theorem d_2_12 : decode (mB 2) 12 = .ok (.if_icmp .ge 26, 3) := by decide +kernel
theorem d_2_15 : decode (mB 2) 15 = .ok (.aload_n 0, 1) := by decide +kernel
theorem d_2_16 : decode (mB 2) 16 = .ok (.getfield 15, 3) := by decide +kernel
theorem d_2_19 : decode (mB 2) 19 = .ok (.iload_n 1, 1) := by decide +kernel
theorem d_2_20 : decode (mB 2) 20 = .ok (.iload_n 3, 1) := by decide +kernel
theorem d_2_21 : decode (mB 2) 21 = .ok (.iastore, 1) := by decide +kernel
theorem d_2_22 : decode (mB 2) 22 = .ok (.aload_n 0, 1) := by decide +kernel
theorem d_2_23 : decode (mB 2) 23 = .ok (.invokevirtual 42, 3) := by decide +kernel
theorem d_2_26 : decode (mB 2) 26 = .ok (.iload_n 1, 1) := by decide +kernel
theorem d_2_27 : decode (mB 2) 27 = .ok (.if_icmp .ne 5, 3) := by decide +kernel
theorem d_2_30 : decode (mB 2) 30 = .ok (.iconst 1, 1) := by decide +kernel
theorem d_2_31 : decode (mB 2) 31 = .ok (.ireturn, 1) := by decide +kernel
theorem d_2_32 : decode (mB 2) 32 = .ok (.iinc 3 1, 3) := by decide +kernel
theorem d_2_35 : decode (mB 2) 35 = .ok (.goto (-26), 3) := by decide +kernel
theorem d_2_38 : decode (mB 2) 38 = .ok (.aload_n 0, 1) := by decide +kernel
theorem d_2_39 : decode (mB 2) 39 = .ok (.getfield 15, 3) := by decide +kernel
theorem d_2_42 : decode (mB 2) 42 = .ok (.iload_n 1, 1) := by decide +kernel
theorem d_2_43 : decode (mB 2) 43 = .ok (.iload_n 2, 1) := by decide +kernel
theorem d_2_44 : decode (mB 2) 44 = .ok (.iastore, 1) := by decide +kernel
theorem d_2_45 : decode (mB 2) 45 = .ok (.iconst 0, 1) := by decide +kernel
theorem d_2_46 : decode (mB 2) 46 = .ok (.ireturn, 1) := by decide +kernel
theorem d_107_0 : decode (mB 107) 0 = .ok (.aload_n 0, 1) := by decide +kernel
theorem d_107_1 : decode (mB 107) 1 = .ok (.getfield 9, 3) := by decide +kernel
theorem d_107_4 : decode (mB 107) 4 = .ok (.iload_n 2, 1) := by decide +kernel
theorem d_107_5 : decode (mB 107) 5 = .ok (.invokevirtual 45, 3) := by decide +kernel
theorem d_107_8 : decode (mB 107) 8 = .ok (.istore_n 3, 1) := by decide +kernel
theorem d_107_9 : decode (mB 107) 9 = .ok (.iconst 0, 1) := by decide +kernel
theorem d_107_10 : decode (mB 107) 10 = .ok (.istore 4, 2) := by decide +kernel
theorem d_107_12 : decode (mB 107) 12 = .ok (.iconst 0, 1) := by decide +kernel
theorem d_107_13 : decode (mB 107) 13 = .ok (.istore 5, 2) := by decide +kernel
theorem d_107_15 : decode (mB 107) 15 = .ok (.iload 5, 2) := by decide +kernel
theorem d_107_17 : decode (mB 107) 17 = .ok (.aload_n 0, 1) := by decide +kernel
theorem d_107_18 : decode (mB 107) 18 = .ok (.getfield 9, 3) := by decide +kernel
theorem d_107_21 : decode (mB 107) 21 = .ok (.getfield 35, 3) := by decide +kernel
theorem d_107_24 : decode (mB 107) 24 = .ok (.if_icmp .ge 35, 3) := by decide +kernel
theorem d_107_27 : decode (mB 107) 27 = .ok (.iload_n 3, 1) := by decide +kernel
theorem d_107_28 : decode (mB 107) 28 = .ok (.iload 5, 2) := by decide +kernel
theorem d_107_30 : decode (mB 107) 30 = .ok (.invokestatic 52, 3) := by decide +kernel
theorem d_107_33 : decode (mB 107) 33 = .ok (.ifCond .eq 20, 3) := by decide +kernel
theorem d_107_36 : decode (mB 107) 36 = .ok (.iload 4, 2) := by decide +kernel
theorem d_107_38 : decode (mB 107) 38 = .ok (.aload_n 0, 1) := by decide +kernel
theorem d_107_39 : decode (mB 107) 39 = .ok (.getfield 19, 3) := by decide +kernel
theorem d_107_42 : decode (mB 107) 42 = .ok (.iload_n 1, 1) := by decide +kernel
theorem d_107_43 : decode (mB 107) 43 = .ok (.bipush 6, 2) := by decide +kernel
theorem d_107_45 : decode (mB 107) 45 = .ok (.imul, 1) := by decide +kernel
theorem d_107_46 : decode (mB 107) 46 = .ok (.iload 5, 2) := by decide +kernel
theorem d_107_48 : decode (mB 107) 48 = .ok (.iadd, 1) := by decide +kernel
theorem d_107_49 : decode (mB 107) 49 = .ok (.iaload, 1) := by decide +kernel
theorem d_107_50 : decode (mB 107) 50 = .ok (.ior, 1) := by decide +kernel
theorem d_107_51 : decode (mB 107) 51 = .ok (.istore 4, 2) := by decide +kernel
theorem d_107_53 : decode (mB 107) 53 = .ok (.iinc 5 1, 3) := by decide +kernel
theorem d_107_56 : decode (mB 107) 56 = .ok (.goto (-41), 3) := by decide +kernel
theorem d_107_59 : decode (mB 107) 59 = .ok (.iload 4, 2) := by decide +kernel
theorem d_107_61 : decode (mB 107) 61 = .ok (.ireturn, 1) := by decide +kernel
theorem b700_0 {x1 : Int} {σ : SS} : ev 700 0 [qR 42, qI x1, qU, qU, qU] [] σ = (ev 603 0 [qR 12, qI x1] [] σ).bind (fun x => ev 700 21 [qR 42, qI x1, qR 12, qR 21, qU] (q_push x.1 []) x.2) :=
  Eq.trans (e_aload_n d_700_0 rfl) (Eq.trans (e_getR d_700_1 fl_7_9 sh_42 rfl) (Eq.trans (e_getR d_700_4 fl_7_19 sh_34 rfl) (Eq.trans (e_astore_n d_700_7 (by decide) (Nat.le_of_ble_eq_true rfl) rfl) (Eq.trans (e_aload_n d_700_8 rfl) (Eq.trans (e_getR d_700_9 fl_7_9 sh_42 rfl) (Eq.trans (e_getR d_700_12 fl_7_25 sh_34 rfl) (Eq.trans (e_astore_n d_700_15 (by decide) (Nat.le_of_ble_eq_true rfl) rfl) (Eq.trans (e_aload_n d_700_16 rfl) (Eq.trans (e_iload_n d_700_17 rfl) (e_callV d_700_18 ml_7_29 fit_700_603 par_603 rfl rfl sh_12 (Nat.le_of_ble_eq_true rfl) (Nat.le_of_ble_eq_true rfl) (Nat.le_of_ble_eq_true rfl) rfl (by decide) rfl))))))))))
theorem b700_21 {x1 y0 : Int} {σ : SS} : ev 700 21 [qR 42, qI x1, qR 12, qR 21, qU] [qI y0] σ = if y0 = 0 then ev 700 35 [qR 42, qI x1, qR 12, qR 21, qU] [] σ else ev 700 24 [qR 42, qI x1, qR 12, qR 21, qU] [] σ :=
  e_if_eq d_700_21 (by decide)
theorem b700_24 {x1 : Int} {σ : SS} : ev 700 24 [qR 42, qI x1, qR 12, qR 21, qU] [] σ = (ev 602 0 [qR 12, qI (σ 21 4)] [] σ).bind (fun x => ev 700 32 [qR 42, qI x1, qR 12, qR 21, qU] (q_push x.1 []) x.2) :=
  Eq.trans (e_aload_n d_700_24 rfl) (Eq.trans (e_aload_n d_700_25 rfl) (Eq.trans (e_getI d_700_26 fl_7_35 sh_21 rfl) (e_callV d_700_29 ml_7_41 fit_700_602 par_602 rfl rfl sh_12 (Nat.le_of_ble_eq_true rfl) (Nat.le_of_ble_eq_true rfl) (Nat.le_of_ble_eq_true rfl) rfl (by decide) rfl)))
theorem b700_32 {x1 y0 : Int} {σ : SS} : ev 700 32 [qR 42, qI x1, qR 12, qR 21, qU] [qI y0] σ = if y0 = 0 then ev 700 35 [qR 42, qI x1, qR 12, qR 21, qU] [] σ else ev 700 37 [qR 42, qI x1, qR 12, qR 21, qU] [] σ :=
  e_if_ne d_700_32 (by decide)
theorem b700_35 {x1 : Int} {σ : SS} : ev 700 35 [qR 42, qI x1, qR 12, qR 21, qU] [] σ = some (some (qI (-1)), σ) :=
  Eq.trans (e_iconst d_700_35 k_m1) (e_iret d_700_36 (q_okrI rfl))
theorem b700_37 {x1 : Int} {σ : SS} (h : 0 ≤ x1 ∧ x1 < 6) : ev 700 37 [qR 42, qI x1, qR 12, qR 21, qU] [] σ = (ev 701 0 [qR 42, qI (σ 22 x1.toNat), qU, qU, qU, qU] [] σ).bind (fun x => ev 700 47 [qR 42, qI x1, qR 12, qR 21, qU] (q_push x.1 []) x.2) :=
  Eq.trans (e_aload_n d_700_37 rfl) (Eq.trans (e_aload_n d_700_38 rfl) (Eq.trans (e_getR d_700_39 fl_7_44 sh_21 rfl) (Eq.trans (e_iload_n d_700_42 rfl) (Eq.trans (e_iald d_700_43 sh_22 h) (e_callV d_700_44 ml_7_47 fit_700_701 par_701 rfl rfl sh_42 (Nat.le_of_ble_eq_true rfl) (Nat.le_of_ble_eq_true rfl) (Nat.le_of_ble_eq_true rfl) rfl (by decide) rfl)))))
theorem b700_47 {x1 : Int} {σ : SS} (h : 0 ≤ (σ 21 4) ∧ (σ 21 4) < 6) : ev 700 47 [qR 42, qI x1, qR 12, qR 21, qU] [] σ = ev 700 58 [qR 42, qI x1, qR 12, qR 21, qI (σ 43 (σ 21 4).toNat)] [] σ :=
  Eq.trans (e_aload_n d_700_47 rfl) (Eq.trans (e_getR d_700_48 fl_7_15 sh_42 rfl) (Eq.trans (e_aload_n d_700_51 rfl) (Eq.trans (e_getI d_700_52 fl_7_35 sh_21 rfl) (Eq.trans (e_iald d_700_55 sh_43 h) (e_istore d_700_56 (by decide) (Nat.le_of_ble_eq_true rfl) rfl)))))
theorem b700_58 {x1 x4 : Int} {σ : SS} : ev 700 58 [qR 42, qI x1, qR 12, qR 21, qI x4] [] σ = if 48 < x4 then ev 700 92 [qR 42, qI x1, qR 12, qR 21, qI x4] [] σ else ev 700 65 [qR 42, qI x1, qR 12, qR 21, qI x4] [] σ :=
  Eq.trans (e_iload d_700_58 rfl) (Eq.trans (e_bipush d_700_60 kb_48) (e_icmp_gt d_700_62 (by decide)))
theorem b700_65 {x1 x4 : Int} {σ : SS} (h : -2147483648 ≤ ((σ 21 3) + x4) ∧ ((σ 21 3) + x4) ≤ 2147483647) : ev 700 65 [qR 42, qI x1, qR 12, qR 21, qI x4] [] σ = (ev 208 0 [qR 34, qI x1, qI ((σ 21 3) + x4)] [] σ).bind (fun x => ev 700 80 [qR 42, qI x1, qR 12, qR 21, qI x4] (q_push x.1 []) x.2) :=
  Eq.trans (e_aload_n d_700_65 rfl) (Eq.trans (e_getR d_700_66 fl_7_9 sh_42 rfl) (Eq.trans (e_iload_n d_700_69 rfl) (Eq.trans (e_aload_n d_700_70 rfl) (Eq.trans (e_getI d_700_71 fl_7_51 sh_21 rfl) (Eq.trans (e_iload d_700_74 rfl) (Eq.trans (e_iadd d_700_76 h) (e_callV d_700_77 ml_7_54 fit_700_208 par_208 rfl rfl sh_34 (Nat.le_of_ble_eq_true rfl) (Nat.le_of_ble_eq_true rfl) (Nat.le_of_ble_eq_true rfl) rfl (by decide) rfl)))))))
theorem b700_80 {x1 x4 y0 : Int} {σ : SS} : ev 700 80 [qR 42, qI x1, qR 12, qR 21, qI x4] [qI y0] σ = if y0 = 0 then ev 700 86 [qR 42, qI x1, qR 12, qR 21, qI x4] [] σ else ev 700 83 [qR 42, qI x1, qR 12, qR 21, qI x4] [] σ :=
  e_if_eq d_700_80 (by decide)
theorem b700_83 {x1 x4 : Int} {σ : SS} : ev 700 83 [qR 42, qI x1, qR 12, qR 21, qI x4] [] σ = some (some (qI x4), σ) :=
  Eq.trans (e_iload d_700_83 rfl) (e_iret d_700_85 (q_okrI rfl))
theorem b700_86 {x1 x4 : Int} {σ : SS} (h : -2147483648 ≤ (x4 + 1) ∧ (x4 + 1) ≤ 2147483647) : ev 700 86 [qR 42, qI x1, qR 12, qR 21, qI x4] [] σ = ev 700 58 [qR 42, qI x1, qR 12, qR 21, qI (x4 + 1)] [] σ :=
  Eq.trans (e_iinc d_700_86 (by decide) rfl h rfl) (e_goto d_700_89 (by decide))
theorem b700_92 {x1 x4 : Int} {σ : SS} : ev 700 92 [qR 42, qI x1, qR 12, qR 21, qI x4] [] σ = some (some (qI (-1)), σ) :=
  Eq.trans (e_iconst d_700_92 k_m1) (e_iret d_700_93 (q_okrI rfl))
theorem b703_0 {x1 x2 : Int} {σ : SS} : ev 703 0 [qR 42, qI x1, qI x2, qU, qU] [] σ = ev 703 14 [qR 42, qI x1, qI x2, qI (σ 21 4), qI 1] [] σ :=
  Eq.trans (e_aload_n d_703_0 rfl) (Eq.trans (e_getR d_703_1 fl_7_9 sh_42 rfl) (Eq.trans (e_getR d_703_4 fl_7_25 sh_34 rfl) (Eq.trans (e_getI d_703_7 fl_7_35 sh_21 rfl) (Eq.trans (e_istore_n d_703_10 (by decide) (Nat.le_of_ble_eq_true rfl) rfl) (Eq.trans (e_iconst d_703_11 k_1) (e_istore d_703_12 (by decide) (Nat.le_of_ble_eq_true rfl) rfl))))))
theorem b703_14 {x1 x2 x3 x4 : Int} {σ : SS} : ev 703 14 [qR 42, qI x1, qI x2, qI x3, qI x4] [] σ = if x1 < x4 then ev 703 43 [qR 42, qI x1, qI x2, qI x3, qI x4] [] σ else ev 703 20 [qR 42, qI x1, qI x2, qI x3, qI x4] [] σ :=
  Eq.trans (e_iload d_703_14 rfl) (Eq.trans (e_iload_n d_703_16 rfl) (e_icmp_gt d_703_17 (by decide)))
theorem b703_20 {x1 x2 x3 x4 : Int} {σ : SS} : ev 703 20 [qR 42, qI x1, qI x2, qI x3, qI x4] [] σ = if 48 < x4 then ev 703 43 [qR 42, qI x1, qI x2, qI x3, qI x4] [] σ else ev 703 27 [qR 42, qI x1, qI x2, qI x3, qI x4] [] σ :=
  Eq.trans (e_iload d_703_20 rfl) (Eq.trans (e_bipush d_703_22 kb_48) (e_icmp_gt d_703_24 (by decide)))
theorem b703_27 {x1 x2 x3 x4 : Int} {σ : SS} (h : -2147483648 ≤ (x2 - x4) ∧ (x2 - x4) ≤ 2147483647) : ev 703 27 [qR 42, qI x1, qI x2, qI x3, qI x4] [] σ = (ev 704 0 [qR 42, qI x3, qI (x2 - x4), qU, qU] [] σ).bind (fun x => ev 703 36 [qR 42, qI x1, qI x2, qI x3, qI x4] (q_push x.1 []) x.2) :=
  Eq.trans (e_aload_n d_703_27 rfl) (Eq.trans (e_iload_n d_703_28 rfl) (Eq.trans (e_iload_n d_703_29 rfl) (Eq.trans (e_iload d_703_30 rfl) (Eq.trans (e_isub d_703_32 h) (e_callV d_703_33 ml_7_68 fit_703_704 par_704 rfl rfl sh_42 (Nat.le_of_ble_eq_true rfl) (Nat.le_of_ble_eq_true rfl) (Nat.le_of_ble_eq_true rfl) rfl (by decide) rfl)))))
theorem b703_36 {x1 x2 x3 x4 y0 : Int} {σ : SS} (h : -2147483648 ≤ (x4 + 1) ∧ (x4 + 1) ≤ 2147483647) : ev 703 36 [qR 42, qI x1, qI x2, qI x3, qI x4] [qI y0] σ = ev 703 14 [qR 42, qI x1, qI x2, qI y0, qI (x4 + 1)] [] σ :=
  Eq.trans (e_istore_n d_703_36 (by decide) (Nat.le_of_ble_eq_true rfl) rfl) (Eq.trans (e_iinc d_703_37 (by decide) rfl h rfl) (e_goto d_703_40 (by decide)))
theorem b703_43 {x1 x2 x3 x4 : Int} {σ : SS} : ev 703 43 [qR 42, qI x1, qI x2, qI x3, qI x4] [] σ = some (some (qI x3), σ) :=
  Eq.trans (e_iload_n d_703_43 rfl) (e_iret d_703_44 (q_okrI rfl))
theorem b100_0 {x1 : Int} {σ : SS} : ev 100 0 [qR 44, qI x1, qU, qU] [] σ = (ev 101 0 [qR 44, qU, qU] [] σ).bind (fun x => ev 100 4 [qR 44, qI x1, qU, qU] (q_push x.1 []) x.2) :=
  Eq.trans (e_aload_n d_100_0 rfl) (e_callV d_100_1 ml_1_22 fit_100_101 par_101 rfl rfl sh_44 (Nat.le_of_ble_eq_true rfl) (Nat.le_of_ble_eq_true rfl) (Nat.le_of_ble_eq_true rfl) rfl (by decide) rfl)
theorem b100_4 {x1 : Int} {σ : SS} : ev 100 4 [qR 44, qI x1, qU, qU] [] σ = ev 100 10 [qR 44, qI x1, qI 216, qI 0] [] σ :=
  Eq.trans (e_sipush d_100_4 ks_216) (Eq.trans (e_istore_n d_100_7 (by decide) (Nat.le_of_ble_eq_true rfl) rfl) (Eq.trans (e_iconst d_100_8 k_0) (e_istore_n d_100_9 (by decide) (Nat.le_of_ble_eq_true rfl) rfl)))
theorem b100_10 {x1 x2 x3 : Int} {σ : SS} : ev 100 10 [qR 44, qI x1, qI x2, qI x3] [] σ = if x2 < x3 then ev 100 45 [qR 44, qI x1, qI x2, qI x3] [] σ else ev 100 15 [qR 44, qI x1, qI x2, qI x3] [] σ :=
  Eq.trans (e_iload_n d_100_10 rfl) (Eq.trans (e_iload_n d_100_11 rfl) (e_icmp_gt d_100_12 (by decide)))
theorem b100_15 {x1 x2 x3 : Int} {σ : SS} : ev 100 15 [qR 44, qI x1, qI x2, qI x3] [] σ = (ev 102 0 [qR 44, qI x1, qU, qU, qU, qU] [] σ).bind (fun x => ev 100 20 [qR 44, qI x1, qI x2, qI x3] (q_push x.1 []) x.2) :=
  Eq.trans (e_aload_n d_100_15 rfl) (Eq.trans (e_iload_n d_100_16 rfl) (e_callV d_100_17 ml_1_25 fit_100_102 par_102 rfl rfl sh_44 (Nat.le_of_ble_eq_true rfl) (Nat.le_of_ble_eq_true rfl) (Nat.le_of_ble_eq_true rfl) rfl (by decide) rfl))
theorem b100_20 {x1 x2 x3 y0 : Int} {σ : SS} : ev 100 20 [qR 44, qI x1, qI x2, qI x3] [qI y0] σ = if y0 = 0 then ev 100 25 [qR 44, qI x1, qI x2, qI x3] [] σ else ev 100 23 [qR 44, qI x1, qI x2, qI x3] [] σ :=
  e_if_eq d_100_20 (by decide)
theorem b100_23 {x1 x2 x3 : Int} {σ : SS} : ev 100 23 [qR 44, qI x1, qI x2, qI x3] [] σ = some (some (qI x3), σ) :=
  Eq.trans (e_iload_n d_100_23 rfl) (e_iret d_100_24 (q_okrI rfl))
theorem b100_25 {x1 x2 x3 : Int} {σ : SS} : ev 100 25 [qR 44, qI x1, qI x2, qI x3] [] σ = (ev 103 0 [qR 44, qU, qU, qU] [] σ).bind (fun x => ev 100 29 [qR 44, qI x1, qI x2, qI x3] (q_push x.1 []) x.2) :=
  Eq.trans (e_aload_n d_100_25 rfl) (e_callV d_100_26 ml_1_29 fit_100_103 par_103 rfl rfl sh_44 (Nat.le_of_ble_eq_true rfl) (Nat.le_of_ble_eq_true rfl) (Nat.le_of_ble_eq_true rfl) rfl (by decide) rfl)
theorem b100_29 {x1 x2 x3 : Int} {σ : SS} : ev 100 29 [qR 44, qI x1, qI x2, qI x3] [] σ = (ev 105 0 [qR 44, qI x1, qU, qU, qU, qU, qU] [] σ).bind (fun x => ev 100 34 [qR 44, qI x1, qI x2, qI x3] (q_push x.1 []) x.2) :=
  Eq.trans (e_aload_n d_100_29 rfl) (Eq.trans (e_iload_n d_100_30 rfl) (e_callV d_100_31 ml_1_32 fit_100_105 par_105 rfl rfl sh_44 (Nat.le_of_ble_eq_true rfl) (Nat.le_of_ble_eq_true rfl) (Nat.le_of_ble_eq_true rfl) rfl (by decide) rfl))
theorem b100_34 {x1 x2 x3 y0 : Int} {σ : SS} : ev 100 34 [qR 44, qI x1, qI x2, qI x3] [qI y0] σ = if y0 = 0 then ev 100 37 [qR 44, qI x1, qI x2, qI x3] [] σ else ev 100 39 [qR 44, qI x1, qI x2, qI x3] [] σ :=
  e_if_ne d_100_34 (by decide)
theorem b100_37 {x1 x2 x3 : Int} {σ : SS} : ev 100 37 [qR 44, qI x1, qI x2, qI x3] [] σ = some (some (qI (-1)), σ) :=
  Eq.trans (e_iconst d_100_37 k_m1) (e_iret d_100_38 (q_okrI rfl))
theorem b100_39 {x1 x2 x3 : Int} {σ : SS} (h : -2147483648 ≤ (x3 + 1) ∧ (x3 + 1) ≤ 2147483647) : ev 100 39 [qR 44, qI x1, qI x2, qI x3] [] σ = ev 100 10 [qR 44, qI x1, qI x2, qI (x3 + 1)] [] σ :=
  Eq.trans (e_iinc d_100_39 (by decide) rfl h rfl) (e_goto d_100_42 (by decide))
theorem b100_45 {x1 x2 x3 : Int} {σ : SS} : ev 100 45 [qR 44, qI x1, qI x2, qI x3] [] σ = some (some (qI (-1)), σ) :=
  Eq.trans (e_iconst d_100_45 k_m1) (e_iret d_100_46 (q_okrI rfl))
theorem b0_0 {σ : SS} : ev 0 0 [qR 47, qU] [] σ = ev 0 2 [qR 47, qI 0] [] σ :=
  Eq.trans (e_iconst d_0_0 k_0) (e_istore_n d_0_1 (by decide) (Nat.le_of_ble_eq_true rfl) rfl)
theorem b0_2 {x1 : Int} {σ : SS} : ev 0 2 [qR 47, qI x1] [] σ = if x1 < (σ 12 10) then ev 0 16 [qR 47, qI x1] [] σ else ev 0 43 [qR 47, qI x1] [] σ :=
  Eq.trans (e_iload_n d_0_2 rfl) (Eq.trans (e_aload_n d_0_3 rfl) (Eq.trans (e_getR d_0_4 fl_0_9 sh_47 rfl) (Eq.trans (e_getR d_0_7 fl_0_22 sh_34 rfl) (Eq.trans (e_getI d_0_10 fl_0_28 sh_12 rfl) (e_icmp_ge d_0_13 (by decide))))))
theorem b0_16 {x1 : Int} {σ : SS} (h : 0 ≤ x1 ∧ x1 < 6) : ev 0 16 [qR 47, qI x1] [] σ = (ev 209 0 [qR 34, qI x1, qU, qU, qU] [] (q_put σ 48 x1.toNat 0)).bind (fun x => ev 0 36 [qR 47, qI x1] (q_push x.1 [qI x1, qR 49]) x.2) :=
  Eq.trans (e_aload_n d_0_16 rfl) (Eq.trans (e_getR d_0_17 fl_0_15 sh_47 rfl) (Eq.trans (e_iload_n d_0_20 rfl) (Eq.trans (e_iconst d_0_21 k_0) (Eq.trans (e_iast d_0_22 sh_48 h) (Eq.trans (e_aload_n d_0_23 rfl) (Eq.trans (e_getR d_0_24 fl_0_19 sh_47 rfl) (Eq.trans (e_iload_n d_0_27 rfl) (Eq.trans (e_aload_n d_0_28 rfl) (Eq.trans (e_getR d_0_29 fl_0_9 sh_47 rfl) (Eq.trans (e_iload_n d_0_32 rfl) (e_callV d_0_33 ml_0_34 fit_0_209 par_209 rfl rfl sh_34 (Nat.le_of_ble_eq_true rfl) (Nat.le_of_ble_eq_true rfl) (Nat.le_of_ble_eq_true rfl) rfl (by decide) rfl)))))))))))
theorem b0_36 {x1 y0 y1 : Int} {σ : SS} (h : (0 ≤ y1 ∧ y1 < 6) ∧ (-2147483648 ≤ (x1 + 1) ∧ (x1 + 1) ≤ 2147483647)) : ev 0 36 [qR 47, qI x1] [qI y0, qI y1, qR 49] σ = ev 0 2 [qR 47, qI (x1 + 1)] [] (q_put σ 49 y1.toNat y0) :=
  Eq.trans (e_iast d_0_36 sh_49 h.1) (Eq.trans (e_iinc d_0_37 (by decide) rfl h.2 rfl) (e_goto d_0_40 (by decide)))
theorem b0_43 {x1 : Int} {σ : SS} : ev 0 43 [qR 47, qI x1] [] σ = ev 0 45 [qR 47, qI 0] [] σ :=
  Eq.trans (e_iconst d_0_43 k_0) (e_istore_n d_0_44 (by decide) (Nat.le_of_ble_eq_true rfl) rfl)
theorem b0_45 {x1 : Int} {σ : SS} : ev 0 45 [qR 47, qI x1] [] σ = if x1 < 30 then ev 0 51 [qR 47, qI x1] [] σ else ev 0 66 [qR 47, qI x1] [] σ :=
  Eq.trans (e_iload_n d_0_45 rfl) (Eq.trans (e_bipush d_0_46 kb_30) (e_icmp_ge d_0_48 (by decide)))
theorem b0_51 {x1 : Int} {σ : SS} : ev 0 51 [qR 47, qI x1] [] σ = (ev 1 0 [qR 47, qU, qU] [] σ).bind (fun x => ev 0 55 [qR 47, qI x1] (q_push x.1 []) x.2) :=
  Eq.trans (e_aload_n d_0_51 rfl) (e_callV d_0_52 ml_0_38 fit_0_1 par_1 rfl rfl sh_47 (Nat.le_of_ble_eq_true rfl) (Nat.le_of_ble_eq_true rfl) (Nat.le_of_ble_eq_true rfl) rfl (by decide) rfl)
theorem b0_55 {x1 y0 : Int} {σ : SS} : ev 0 55 [qR 47, qI x1] [qI y0] σ = if y0 = 0 then ev 0 58 [qR 47, qI x1] [] σ else ev 0 60 [qR 47, qI x1] [] σ :=
  e_if_ne d_0_55 (by decide)
theorem b0_58 {x1 : Int} {σ : SS} : ev 0 58 [qR 47, qI x1] [] σ = some (some (qI x1), σ) :=
  Eq.trans (e_iload_n d_0_58 rfl) (e_iret d_0_59 (q_okrI rfl))
theorem b0_60 {x1 : Int} {σ : SS} (h : -2147483648 ≤ (x1 + 1) ∧ (x1 + 1) ≤ 2147483647) : ev 0 60 [qR 47, qI x1] [] σ = ev 0 45 [qR 47, qI (x1 + 1)] [] σ :=
  Eq.trans (e_iinc d_0_60 (by decide) rfl h rfl) (e_goto d_0_63 (by decide))
theorem b0_66 {x1 : Int} {σ : SS} : ev 0 66 [qR 47, qI x1] [] σ = some (some (qI 30), σ) :=
  Eq.trans (e_bipush d_0_66 kb_30) (e_iret d_0_68 (q_okrI rfl))
theorem b3_0 {σ : SS} : ev 3 0 [qR 47, qU, qU, qU] [] σ = ev 3 4 [qR 47, qI (-1), qI 0, qU] [] σ :=
  Eq.trans (e_iconst d_3_0 k_m1) (Eq.trans (e_istore_n d_3_1 (by decide) (Nat.le_of_ble_eq_true rfl) rfl) (Eq.trans (e_iconst d_3_2 k_0) (e_istore_n d_3_3 (by decide) (Nat.le_of_ble_eq_true rfl) rfl)))
theorem b3_4 {x1 x2 : Int} {vx3 : AV} {σ : SS} : ev 3 4 [qR 47, qI x1, qI x2, vx3] [] σ = if x2 < (σ 12 10) then ev 3 18 [qR 47, qI x1, qI x2, vx3] [] σ else ev 3 74 [qR 47, qI x1, qI x2, vx3] [] σ :=
  Eq.trans (e_iload_n d_3_4 rfl) (Eq.trans (e_aload_n d_3_5 rfl) (Eq.trans (e_getR d_3_6 fl_0_9 sh_47 rfl) (Eq.trans (e_getR d_3_9 fl_0_22 sh_34 rfl) (Eq.trans (e_getI d_3_12 fl_0_28 sh_12 rfl) (e_icmp_ge d_3_15 (by decide))))))
theorem b3_18 {x1 x2 : Int} {vx3 : AV} {σ : SS} : ev 3 18 [qR 47, qI x1, qI x2, vx3] [] σ = if x1 = (-1) then ev 3 38 [qR 47, qI x1, qI x2, vx3] [] σ else ev 3 23 [qR 47, qI x1, qI x2, vx3] [] σ :=
  Eq.trans (e_iload_n d_3_18 rfl) (Eq.trans (e_iconst d_3_19 k_m1) (e_icmp_eq d_3_20 (by decide)))
theorem b3_23 {x1 x2 : Int} {vx3 : AV} {σ : SS} (h : (0 ≤ x2 ∧ x2 < 6) ∧ (0 ≤ x1 ∧ x1 < 6)) : ev 3 23 [qR 47, qI x1, qI x2, vx3] [] σ = if (σ 48 x2.toNat) < (σ 48 x1.toNat) then ev 3 38 [qR 47, qI x1, qI x2, vx3] [] σ else ev 3 42 [qR 47, qI x1, qI x2, vx3] [] σ :=
  Eq.trans (e_aload_n d_3_23 rfl) (Eq.trans (e_getR d_3_24 fl_0_15 sh_47 rfl) (Eq.trans (e_iload_n d_3_27 rfl) (Eq.trans (e_iald d_3_28 sh_48 h.1) (Eq.trans (e_aload_n d_3_29 rfl) (Eq.trans (e_getR d_3_30 fl_0_15 sh_47 rfl) (Eq.trans (e_iload_n d_3_33 rfl) (Eq.trans (e_iald d_3_34 sh_48 h.2) (e_icmp_ge d_3_35 (by decide)))))))))
theorem b3_38 {x1 x2 : Int} {vx3 : AV} {σ : SS} : ev 3 38 [qR 47, qI x1, qI x2, vx3] [] σ = ev 3 43 [qR 47, qI x1, qI x2, vx3] [qI 1] σ :=
  Eq.trans (e_iconst d_3_38 k_1) (e_goto d_3_39 (by decide))
theorem b3_42 {x1 x2 : Int} {vx3 : AV} {σ : SS} : ev 3 42 [qR 47, qI x1, qI x2, vx3] [] σ = ev 3 43 [qR 47, qI x1, qI x2, vx3] [qI 0] σ :=
  e_iconst d_3_42 k_0
theorem b3_43 {x1 x2 y0 : Int} {vx3 : AV} {σ : SS} : ev 3 43 [qR 47, qI x1, qI x2, vx3] [qI y0] σ = if y0 = 0 then ev 3 68 [qR 47, qI x1, qI x2, qI y0] [] σ else ev 3 48 [qR 47, qI x1, qI x2, qI y0] [] σ :=
  Eq.trans (e_istore_n d_3_43 (by decide) (Nat.le_of_ble_eq_true rfl) rfl) (Eq.trans (e_iload_n d_3_44 rfl) (e_if_eq d_3_45 (by decide)))
theorem b3_48 {x1 x2 x3 : Int} {σ : SS} (h : 0 ≤ x2 ∧ x2 < 6) : ev 3 48 [qR 47, qI x1, qI x2, qI x3] [] σ = (ev 848 0 [qI (σ 49 x2.toNat), qI (σ 48 x2.toNat)] [] σ).bind (fun x => ev 3 63 [qR 47, qI x1, qI x2, qI x3] (q_push x.1 []) x.2) :=
  Eq.trans (e_aload_n d_3_48 rfl) (Eq.trans (e_getR d_3_49 fl_0_19 sh_47 rfl) (Eq.trans (e_iload_n d_3_52 rfl) (Eq.trans (e_iald d_3_53 sh_49 h) (Eq.trans (e_aload_n d_3_54 rfl) (Eq.trans (e_getR d_3_55 fl_0_15 sh_47 rfl) (Eq.trans (e_iload_n d_3_58 rfl) (Eq.trans (e_iald d_3_59 sh_48 h) (e_callS d_3_60 (by decide) ml_0_50 fit_3_848 par_848 rfl rfl (Nat.le_of_ble_eq_true rfl) (Nat.le_of_ble_eq_true rfl) (Nat.le_of_ble_eq_true rfl) rfl (by decide) rfl))))))))
theorem b3_63 {x1 x2 x3 y0 : Int} {σ : SS} : ev 3 63 [qR 47, qI x1, qI x2, qI x3] [qI y0] σ = if y0 = 0 then ev 3 68 [qR 47, qI x1, qI x2, qI x3] [] σ else ev 3 66 [qR 47, qI x1, qI x2, qI x3] [] σ :=
  e_if_eq d_3_63 (by decide)
theorem b3_66 {x1 x2 x3 : Int} {σ : SS} : ev 3 66 [qR 47, qI x1, qI x2, qI x3] [] σ = ev 3 68 [qR 47, qI x2, qI x2, qI x3] [] σ :=
  Eq.trans (e_iload_n d_3_66 rfl) (e_istore_n d_3_67 (by decide) (Nat.le_of_ble_eq_true rfl) rfl)
theorem b3_68 {x1 x2 x3 : Int} {σ : SS} (h : -2147483648 ≤ (x2 + 1) ∧ (x2 + 1) ≤ 2147483647) : ev 3 68 [qR 47, qI x1, qI x2, qI x3] [] σ = ev 3 4 [qR 47, qI x1, qI (x2 + 1), qI x3] [] σ :=
  Eq.trans (e_iinc d_3_68 (by decide) rfl h rfl) (e_goto d_3_71 (by decide))
theorem b3_74 {x1 x2 : Int} {vx3 : AV} {σ : SS} : ev 3 74 [qR 47, qI x1, qI x2, vx3] [] σ = some (some (qI x1), σ) :=
  Eq.trans (e_iload_n d_3_74 rfl) (e_iret d_3_75 (q_okrI rfl))
theorem b701_0 {x1 : Int} {σ : SS} : ev 701 0 [qR 42, qI x1, qU, qU, qU, qU] [] σ = ev 701 6 [qR 42, qI x1, qI (q_shl 1 x1), qI 0, qU, qU] [] σ :=
  Eq.trans (e_iconst d_701_0 k_1) (Eq.trans (e_iload_n d_701_1 rfl) (Eq.trans (e_ishl d_701_2) (Eq.trans (e_istore_n d_701_3 (by decide) (Nat.le_of_ble_eq_true rfl) rfl) (Eq.trans (e_iconst d_701_4 k_0) (e_istore_n d_701_5 (by decide) (Nat.le_of_ble_eq_true rfl) rfl)))))
theorem b701_6 {x1 x2 x3 : Int} {σ : SS} : ev 701 6 [qR 42, qI x1, qI x2, qI x3, qU, qU] [] σ = if x3 < 6 then ev 701 12 [qR 42, qI x1, qI x2, qI x3, qU, qU] [] σ else ev 701 35 [qR 42, qI x1, qI x2, qI x3, qU, qU] [] σ :=
  Eq.trans (e_iload_n d_701_6 rfl) (Eq.trans (e_bipush d_701_7 kb_6) (e_icmp_ge d_701_9 (by decide)))
theorem b701_12 {x1 x2 x3 : Int} {σ : SS} : ev 701 12 [qR 42, qI x1, qI x2, qI x3, qU, qU] [] σ = if x3 = x1 then ev 701 22 [qR 42, qI x1, qI x2, qI x3, qU, qU] [qI x3, qR 43] σ else ev 701 26 [qR 42, qI x1, qI x2, qI x3, qU, qU] [qI x3, qR 43] σ :=
  Eq.trans (e_aload_n d_701_12 rfl) (Eq.trans (e_getR d_701_13 fl_7_15 sh_42 rfl) (Eq.trans (e_iload_n d_701_16 rfl) (Eq.trans (e_iload_n d_701_17 rfl) (Eq.trans (e_iload_n d_701_18 rfl) (e_icmp_ne d_701_19 (by decide))))))
theorem b701_22 {x1 x2 x3 y0 : Int} {σ : SS} : ev 701 22 [qR 42, qI x1, qI x2, qI x3, qU, qU] [qI y0, qR 43] σ = ev 701 28 [qR 42, qI x1, qI x2, qI x3, qU, qU] [qI 0, qI y0, qR 43] σ :=
  Eq.trans (e_iconst d_701_22 k_0) (e_goto d_701_23 (by decide))
theorem b701_26 {x1 x2 x3 y0 : Int} {σ : SS} : ev 701 26 [qR 42, qI x1, qI x2, qI x3, qU, qU] [qI y0, qR 43] σ = ev 701 28 [qR 42, qI x1, qI x2, qI x3, qU, qU] [qI 49, qI y0, qR 43] σ :=
  e_bipush d_701_26 kb_49
theorem b701_28 {x1 x2 x3 y0 y1 : Int} {σ : SS} (h : (0 ≤ y1 ∧ y1 < 6) ∧ (-2147483648 ≤ (x3 + 1) ∧ (x3 + 1) ≤ 2147483647)) : ev 701 28 [qR 42, qI x1, qI x2, qI x3, qU, qU] [qI y0, qI y1, qR 43] σ = ev 701 6 [qR 42, qI x1, qI x2, qI (x3 + 1), qU, qU] [] (q_put σ 43 y1.toNat y0) :=
  Eq.trans (e_iast d_701_28 sh_43 h.1) (Eq.trans (e_iinc d_701_29 (by decide) rfl h.2 rfl) (e_goto d_701_32 (by decide)))
theorem b701_35 {x1 x2 x3 : Int} {σ : SS} : ev 701 35 [qR 42, qI x1, qI x2, qI x3, qU, qU] [] σ = ev 701 37 [qR 42, qI x1, qI x2, qI 1, qU, qU] [] σ :=
  Eq.trans (e_iconst d_701_35 k_1) (e_istore_n d_701_36 (by decide) (Nat.le_of_ble_eq_true rfl) rfl)
theorem b701_37 {x1 x2 x3 : Int} {vx4 vx5 : AV} {σ : SS} : ev 701 37 [qR 42, qI x1, qI x2, qI x3, vx4, vx5] [] σ = if x3 < 6 then ev 701 43 [qR 42, qI x1, qI x2, qI x3, vx4, vx5] [] σ else ev 701 99 [qR 42, qI x1, qI x2, qI x3, vx4, vx5] [] σ :=
  Eq.trans (e_iload_n d_701_37 rfl) (Eq.trans (e_bipush d_701_38 kb_6) (e_icmp_ge d_701_40 (by decide)))
theorem b701_43 {x1 x2 x3 : Int} {vx4 vx5 : AV} {σ : SS} : ev 701 43 [qR 42, qI x1, qI x2, qI x3, vx4, vx5] [] σ = (ev 702 0 [qR 42, qI x2, qU, qU] [] σ).bind (fun x => ev 701 48 [qR 42, qI x1, qI x2, qI x3, vx4, vx5] (q_push x.1 []) x.2) :=
  Eq.trans (e_aload_n d_701_43 rfl) (Eq.trans (e_iload_n d_701_44 rfl) (e_callV d_701_45 ml_7_58 fit_701_702 par_702 rfl rfl sh_42 (Nat.le_of_ble_eq_true rfl) (Nat.le_of_ble_eq_true rfl) (Nat.le_of_ble_eq_true rfl) rfl (by decide) rfl))
theorem b701_48 {x1 x2 x3 y0 : Int} {vx4 vx5 : AV} {σ : SS} : ev 701 48 [qR 42, qI x1, qI x2, qI x3, vx4, vx5] [qI y0] σ = ev 701 57 [qR 42, qI x1, qI x2, qI x3, qI (q_and y0 (q_xor x2 (-1))), qI 0] [] σ :=
  Eq.trans (e_iload_n d_701_48 rfl) (Eq.trans (e_iconst d_701_49 k_m1) (Eq.trans (e_ixor d_701_50) (Eq.trans (e_iand d_701_51) (Eq.trans (e_istore d_701_52 (by decide) (Nat.le_of_ble_eq_true rfl) rfl) (Eq.trans (e_iconst d_701_54 k_0) (e_istore d_701_55 (by decide) (Nat.le_of_ble_eq_true rfl) rfl))))))
theorem b701_57 {x1 x2 x3 x4 x5 : Int} {σ : SS} : ev 701 57 [qR 42, qI x1, qI x2, qI x3, qI x4, qI x5] [] σ = if x5 < 6 then ev 701 64 [qR 42, qI x1, qI x2, qI x3, qI x4, qI x5] [] σ else ev 701 88 [qR 42, qI x1, qI x2, qI x3, qI x4, qI x5] [] σ :=
  Eq.trans (e_iload d_701_57 rfl) (Eq.trans (e_bipush d_701_59 kb_6) (e_icmp_ge d_701_61 (by decide)))
theorem b701_64 {x1 x2 x3 x4 x5 : Int} {σ : SS} : ev 701 64 [qR 42, qI x1, qI x2, qI x3, qI x4, qI x5] [] σ = (ev 848 0 [qI x4, qI x5] [] σ).bind (fun x => ev 701 71 [qR 42, qI x1, qI x2, qI x3, qI x4, qI x5] (q_push x.1 []) x.2) :=
  Eq.trans (e_iload d_701_64 rfl) (Eq.trans (e_iload d_701_66 rfl) (e_callS d_701_68 (by decide) ml_7_62 fit_701_848 par_848 rfl rfl (Nat.le_of_ble_eq_true rfl) (Nat.le_of_ble_eq_true rfl) (Nat.le_of_ble_eq_true rfl) rfl (by decide) rfl))
theorem b701_71 {x1 x2 x3 x4 x5 y0 : Int} {σ : SS} : ev 701 71 [qR 42, qI x1, qI x2, qI x3, qI x4, qI x5] [qI y0] σ = if y0 = 0 then ev 701 82 [qR 42, qI x1, qI x2, qI x3, qI x4, qI x5] [] σ else ev 701 74 [qR 42, qI x1, qI x2, qI x3, qI x4, qI x5] [] σ :=
  e_if_eq d_701_71 (by decide)
theorem b701_74 {x1 x2 x3 x4 x5 : Int} {σ : SS} (h : 0 ≤ x5 ∧ x5 < 6) : ev 701 74 [qR 42, qI x1, qI x2, qI x3, qI x4, qI x5] [] σ = ev 701 82 [qR 42, qI x1, qI x2, qI x3, qI x4, qI x5] [] (q_put σ 43 x5.toNat x3) :=
  Eq.trans (e_aload_n d_701_74 rfl) (Eq.trans (e_getR d_701_75 fl_7_15 sh_42 rfl) (Eq.trans (e_iload d_701_78 rfl) (Eq.trans (e_iload_n d_701_80 rfl) (e_iast d_701_81 sh_43 h))))
theorem b701_82 {x1 x2 x3 x4 x5 : Int} {σ : SS} (h : -2147483648 ≤ (x5 + 1) ∧ (x5 + 1) ≤ 2147483647) : ev 701 82 [qR 42, qI x1, qI x2, qI x3, qI x4, qI x5] [] σ = ev 701 57 [qR 42, qI x1, qI x2, qI x3, qI x4, qI (x5 + 1)] [] σ :=
  Eq.trans (e_iinc d_701_82 (by decide) rfl h rfl) (e_goto d_701_85 (by decide))
theorem b701_88 {x1 x2 x3 x4 x5 : Int} {σ : SS} (h : -2147483648 ≤ (x3 + 1) ∧ (x3 + 1) ≤ 2147483647) : ev 701 88 [qR 42, qI x1, qI x2, qI x3, qI x4, qI x5] [] σ = ev 701 37 [qR 42, qI x1, qI (q_or x2 x4), qI (x3 + 1), qI x4, qI x5] [] σ :=
  Eq.trans (e_iload_n d_701_88 rfl) (Eq.trans (e_iload d_701_89 rfl) (Eq.trans (e_ior d_701_91) (Eq.trans (e_istore_n d_701_92 (by decide) (Nat.le_of_ble_eq_true rfl) rfl) (Eq.trans (e_iinc d_701_93 (by decide) rfl h rfl) (e_goto d_701_96 (by decide))))))
theorem b701_99 {x1 x2 x3 : Int} {vx4 vx5 : AV} {σ : SS} : ev 701 99 [qR 42, qI x1, qI x2, qI x3, vx4, vx5] [] σ = some (none, σ) :=
  e_vret d_701_99 rfl
theorem b704_0 {x1 x2 : Int} {σ : SS} : ev 704 0 [qR 42, qI x1, qI x2, qU, qU] [] σ = (ev 610 0 [qR 12, qI x1] [] σ).bind (fun x => ev 704 11 [qR 42, qI x1, qI x2, qU, qU] (q_push x.1 []) x.2) :=
  Eq.trans (e_aload_n d_704_0 rfl) (Eq.trans (e_getR d_704_1 fl_7_9 sh_42 rfl) (Eq.trans (e_getR d_704_4 fl_7_19 sh_34 rfl) (Eq.trans (e_iload_n d_704_7 rfl) (e_callV d_704_8 ml_7_72 fit_704_610 par_610 rfl rfl sh_12 (Nat.le_of_ble_eq_true rfl) (Nat.le_of_ble_eq_true rfl) (Nat.le_of_ble_eq_true rfl) rfl (by decide) rfl))))
theorem b704_11 {x1 x2 y0 : Int} {σ : SS} : ev 704 11 [qR 42, qI x1, qI x2, qU, qU] [qI y0] σ = ev 704 15 [qR 42, qI x1, qI x2, qI y0, qI 0] [] σ :=
  Eq.trans (e_istore_n d_704_11 (by decide) (Nat.le_of_ble_eq_true rfl) rfl) (Eq.trans (e_iconst d_704_12 k_0) (e_istore d_704_13 (by decide) (Nat.le_of_ble_eq_true rfl) rfl))
theorem b704_15 {x1 x2 x3 x4 : Int} {σ : SS} : ev 704 15 [qR 42, qI x1, qI x2, qI x3, qI x4] [] σ = if x4 < 6 then ev 704 22 [qR 42, qI x1, qI x2, qI x3, qI x4] [] σ else ev 704 51 [qR 42, qI x1, qI x2, qI x3, qI x4] [] σ :=
  Eq.trans (e_iload d_704_15 rfl) (Eq.trans (e_bipush d_704_17 kb_6) (e_icmp_ge d_704_19 (by decide)))
theorem b704_22 {x1 x2 x3 x4 : Int} {σ : SS} : ev 704 22 [qR 42, qI x1, qI x2, qI x3, qI x4] [] σ = (ev 848 0 [qI x3, qI x4] [] σ).bind (fun x => ev 704 28 [qR 42, qI x1, qI x2, qI x3, qI x4] (q_push x.1 []) x.2) :=
  Eq.trans (e_iload_n d_704_22 rfl) (Eq.trans (e_iload d_704_23 rfl) (e_callS d_704_25 (by decide) ml_7_62 fit_704_848 par_848 rfl rfl (Nat.le_of_ble_eq_true rfl) (Nat.le_of_ble_eq_true rfl) (Nat.le_of_ble_eq_true rfl) rfl (by decide) rfl))
theorem b704_28 {x1 x2 x3 x4 y0 : Int} {σ : SS} : ev 704 28 [qR 42, qI x1, qI x2, qI x3, qI x4] [qI y0] σ = if y0 = 0 then ev 704 45 [qR 42, qI x1, qI x2, qI x3, qI x4] [] σ else ev 704 31 [qR 42, qI x1, qI x2, qI x3, qI x4] [] σ :=
  e_if_eq d_704_28 (by decide)
theorem b704_31 {x1 x2 x3 x4 : Int} {σ : SS} (h : 0 ≤ x4 ∧ x4 < 6) : ev 704 31 [qR 42, qI x1, qI x2, qI x3, qI x4] [] σ = if x2 < (σ 43 x4.toNat) then ev 704 45 [qR 42, qI x1, qI x2, qI x3, qI x4] [] σ else ev 704 42 [qR 42, qI x1, qI x2, qI x3, qI x4] [] σ :=
  Eq.trans (e_aload_n d_704_31 rfl) (Eq.trans (e_getR d_704_32 fl_7_15 sh_42 rfl) (Eq.trans (e_iload d_704_35 rfl) (Eq.trans (e_iald d_704_37 sh_43 h) (Eq.trans (e_iload_n d_704_38 rfl) (e_icmp_gt d_704_39 (by decide))))))
theorem b704_42 {x1 x2 x3 x4 : Int} {σ : SS} : ev 704 42 [qR 42, qI x1, qI x2, qI x3, qI x4] [] σ = some (some (qI x4), σ) :=
  Eq.trans (e_iload d_704_42 rfl) (e_iret d_704_44 (q_okrI rfl))
theorem b704_45 {x1 x2 x3 x4 : Int} {σ : SS} (h : -2147483648 ≤ (x4 + 1) ∧ (x4 + 1) ≤ 2147483647) : ev 704 45 [qR 42, qI x1, qI x2, qI x3, qI x4] [] σ = ev 704 15 [qR 42, qI x1, qI x2, qI x3, qI (x4 + 1)] [] σ :=
  Eq.trans (e_iinc d_704_45 (by decide) rfl h rfl) (e_goto d_704_48 (by decide))
theorem b704_51 {x1 x2 x3 x4 : Int} {σ : SS} : ev 704 51 [qR 42, qI x1, qI x2, qI x3, qI x4] [] σ = some (some (qI x1), σ) :=
  Eq.trans (e_iload_n d_704_51 rfl) (e_iret d_704_52 (q_okrI rfl))
theorem b101_0 {σ : SS} : ev 101 0 [qR 44, qU, qU] [] σ = ev 101 2 [qR 44, qI 0, qU] [] σ :=
  Eq.trans (e_iconst d_101_0 k_0) (e_istore_n d_101_1 (by decide) (Nat.le_of_ble_eq_true rfl) rfl)
theorem b101_2 {x1 : Int} {vx2 : AV} {σ : SS} : ev 101 2 [qR 44, qI x1, vx2] [] σ = if x1 < 6 then ev 101 8 [qR 44, qI x1, vx2] [] σ else ev 101 46 [qR 44, qI x1, vx2] [] σ :=
  Eq.trans (e_iload_n d_101_2 rfl) (Eq.trans (e_bipush d_101_3 kb_6) (e_icmp_ge d_101_5 (by decide)))
theorem b101_8 {x1 : Int} {vx2 : AV} {σ : SS} : ev 101 8 [qR 44, qI x1, vx2] [] σ = ev 101 10 [qR 44, qI x1, qI 0] [] σ :=
  Eq.trans (e_iconst d_101_8 k_0) (e_istore_n d_101_9 (by decide) (Nat.le_of_ble_eq_true rfl) rfl)
theorem b101_10 {x1 x2 : Int} {σ : SS} : ev 101 10 [qR 44, qI x1, qI x2] [] σ = if x2 < 6 then ev 101 16 [qR 44, qI x1, qI x2] [] σ else ev 101 40 [qR 44, qI x1, qI x2] [] σ :=
  Eq.trans (e_iload_n d_101_10 rfl) (Eq.trans (e_bipush d_101_11 kb_6) (e_icmp_ge d_101_13 (by decide)))
theorem b101_16 {x1 x2 : Int} {σ : SS} (h : (-2147483648 ≤ (x1 * 6) ∧ (x1 * 6) ≤ 2147483647) ∧ (-2147483648 ≤ ((x1 * 6) + x2) ∧ ((x1 * 6) + x2) ≤ 2147483647) ∧ (0 ≤ ((x1 * 6) + x2) ∧ ((x1 * 6) + x2) < 36) ∧ (-2147483648 ≤ (x2 + 1) ∧ (x2 + 1) ≤ 2147483647)) : ev 101 16 [qR 44, qI x1, qI x2] [] σ = ev 101 10 [qR 44, qI x1, qI (x2 + 1)] [] (q_put σ 45 ((x1 * 6) + x2).toNat (q_or (q_shl 1 x1) (q_shl 1 x2))) :=
  Eq.trans (e_aload_n d_101_16 rfl) (Eq.trans (e_getR d_101_17 fl_1_15 sh_44 rfl) (Eq.trans (e_iload_n d_101_20 rfl) (Eq.trans (e_bipush d_101_21 kb_6) (Eq.trans (e_imul d_101_23 h.1) (Eq.trans (e_iload_n d_101_24 rfl) (Eq.trans (e_iadd d_101_25 h.2.1) (Eq.trans (e_iconst d_101_26 k_1) (Eq.trans (e_iload_n d_101_27 rfl) (Eq.trans (e_ishl d_101_28) (Eq.trans (e_iconst d_101_29 k_1) (Eq.trans (e_iload_n d_101_30 rfl) (Eq.trans (e_ishl d_101_31) (Eq.trans (e_ior d_101_32) (Eq.trans (e_iast d_101_33 sh_45 h.2.2.1) (Eq.trans (e_iinc d_101_34 (by decide) rfl h.2.2.2 rfl) (e_goto d_101_37 (by decide)))))))))))))))))
theorem b101_40 {x1 x2 : Int} {σ : SS} (h : -2147483648 ≤ (x1 + 1) ∧ (x1 + 1) ≤ 2147483647) : ev 101 40 [qR 44, qI x1, qI x2] [] σ = ev 101 2 [qR 44, qI (x1 + 1), qI x2] [] σ :=
  Eq.trans (e_iinc d_101_40 (by decide) rfl h rfl) (e_goto d_101_43 (by decide))
theorem b101_46 {x1 : Int} {vx2 : AV} {σ : SS} : ev 101 46 [qR 44, qI x1, vx2] [] σ = some (none, σ) :=
  e_vret d_101_46 rfl
theorem b102_0 {x1 : Int} {σ : SS} (h : -2147483648 ≤ ((q_shl 1 (σ 12 8)) - 1) ∧ ((q_shl 1 (σ 12 8)) - 1) ≤ 2147483647) : ev 102 0 [qR 44, qI x1, qU, qU, qU, qU] [] σ = ev 102 14 [qR 44, qI x1, qI ((q_shl 1 (σ 12 8)) - 1), qI 0, qU, qU] [] σ :=
  Eq.trans (e_iconst d_102_0 k_1) (Eq.trans (e_aload_n d_102_1 rfl) (Eq.trans (e_getR d_102_2 fl_1_9 sh_44 rfl) (Eq.trans (e_getI d_102_5 fl_1_35 sh_12 rfl) (Eq.trans (e_ishl d_102_8) (Eq.trans (e_iconst d_102_9 k_1) (Eq.trans (e_isub d_102_10 h) (Eq.trans (e_istore_n d_102_11 (by decide) (Nat.le_of_ble_eq_true rfl) rfl) (Eq.trans (e_iconst d_102_12 k_0) (e_istore_n d_102_13 (by decide) (Nat.le_of_ble_eq_true rfl) rfl)))))))))
theorem b102_14 {x1 x2 x3 : Int} {vx4 vx5 : AV} {σ : SS} : ev 102 14 [qR 44, qI x1, qI x2, qI x3, vx4, vx5] [] σ = if x3 < (σ 12 8) then ev 102 25 [qR 44, qI x1, qI x2, qI x3, vx4, vx5] [] σ else ev 102 92 [qR 44, qI x1, qI x2, qI x3, vx4, vx5] [] σ :=
  Eq.trans (e_iload_n d_102_14 rfl) (Eq.trans (e_aload_n d_102_15 rfl) (Eq.trans (e_getR d_102_16 fl_1_9 sh_44 rfl) (Eq.trans (e_getI d_102_19 fl_1_35 sh_12 rfl) (e_icmp_ge d_102_22 (by decide)))))
theorem b102_25 {x1 x2 x3 : Int} {vx4 vx5 : AV} {σ : SS} : ev 102 25 [qR 44, qI x1, qI x2, qI x3, vx4, vx5] [] σ = ev 102 28 [qR 44, qI x1, qI x2, qI x3, qI 0, vx5] [] σ :=
  Eq.trans (e_iconst d_102_25 k_0) (e_istore d_102_26 (by decide) (Nat.le_of_ble_eq_true rfl) rfl)
theorem b102_28 {x1 x2 x3 x4 : Int} {vx5 : AV} {σ : SS} : ev 102 28 [qR 44, qI x1, qI x2, qI x3, qI x4, vx5] [] σ = if x4 < (σ 12 8) then ev 102 40 [qR 44, qI x1, qI x2, qI x3, qI x4, vx5] [] σ else ev 102 86 [qR 44, qI x1, qI x2, qI x3, qI x4, vx5] [] σ :=
  Eq.trans (e_iload d_102_28 rfl) (Eq.trans (e_aload_n d_102_30 rfl) (Eq.trans (e_getR d_102_31 fl_1_9 sh_44 rfl) (Eq.trans (e_getI d_102_34 fl_1_35 sh_12 rfl) (e_icmp_ge d_102_37 (by decide)))))
theorem b102_40 {x1 x2 x3 x4 : Int} {vx5 : AV} {σ : SS} : ev 102 40 [qR 44, qI x1, qI x2, qI x3, qI x4, vx5] [] σ = if x1 = 0 then ev 102 50 [qR 44, qI x1, qI x2, qI x3, qI x4, vx5] [] σ else ev 102 44 [qR 44, qI x1, qI x2, qI x3, qI x4, vx5] [] σ :=
  Eq.trans (e_iload_n d_102_40 rfl) (e_if_eq d_102_41 (by decide))
theorem b102_44 {x1 x2 x3 x4 : Int} {vx5 : AV} {σ : SS} : ev 102 44 [qR 44, qI x1, qI x2, qI x3, qI x4, vx5] [] σ = if x3 = x4 then ev 102 50 [qR 44, qI x1, qI x2, qI x3, qI x4, vx5] [] σ else ev 102 54 [qR 44, qI x1, qI x2, qI x3, qI x4, vx5] [] σ :=
  Eq.trans (e_iload_n d_102_44 rfl) (Eq.trans (e_iload d_102_45 rfl) (e_icmp_ne d_102_47 (by decide)))
theorem b102_50 {x1 x2 x3 x4 : Int} {vx5 : AV} {σ : SS} : ev 102 50 [qR 44, qI x1, qI x2, qI x3, qI x4, vx5] [] σ = ev 102 55 [qR 44, qI x1, qI x2, qI x3, qI x4, vx5] [qI 1] σ :=
  Eq.trans (e_iconst d_102_50 k_1) (e_goto d_102_51 (by decide))
theorem b102_54 {x1 x2 x3 x4 : Int} {vx5 : AV} {σ : SS} : ev 102 54 [qR 44, qI x1, qI x2, qI x3, qI x4, vx5] [] σ = ev 102 55 [qR 44, qI x1, qI x2, qI x3, qI x4, vx5] [qI 0] σ :=
  e_iconst d_102_54 k_0
theorem b102_55 {x1 x2 x3 x4 y0 : Int} {vx5 : AV} {σ : SS} : ev 102 55 [qR 44, qI x1, qI x2, qI x3, qI x4, vx5] [qI y0] σ = if y0 = 0 then ev 102 80 [qR 44, qI x1, qI x2, qI x3, qI x4, qI y0] [] σ else ev 102 62 [qR 44, qI x1, qI x2, qI x3, qI x4, qI y0] [] σ :=
  Eq.trans (e_istore d_102_55 (by decide) (Nat.le_of_ble_eq_true rfl) rfl) (Eq.trans (e_iload d_102_57 rfl) (e_if_eq d_102_59 (by decide)))
theorem b102_62 {x1 x2 x3 x4 x5 : Int} {σ : SS} (h : (-2147483648 ≤ (x3 * 6) ∧ (x3 * 6) ≤ 2147483647) ∧ (-2147483648 ≤ ((x3 * 6) + x4) ∧ ((x3 * 6) + x4) ≤ 2147483647) ∧ (0 ≤ ((x3 * 6) + x4) ∧ ((x3 * 6) + x4) < 36)) : ev 102 62 [qR 44, qI x1, qI x2, qI x3, qI x4, qI x5] [] σ = if (σ 45 ((x3 * 6) + x4).toNat) = x2 then ev 102 78 [qR 44, qI x1, qI x2, qI x3, qI x4, qI x5] [] σ else ev 102 80 [qR 44, qI x1, qI x2, qI x3, qI x4, qI x5] [] σ :=
  Eq.trans (e_aload_n d_102_62 rfl) (Eq.trans (e_getR d_102_63 fl_1_15 sh_44 rfl) (Eq.trans (e_iload_n d_102_66 rfl) (Eq.trans (e_bipush d_102_67 kb_6) (Eq.trans (e_imul d_102_69 h.1) (Eq.trans (e_iload d_102_70 rfl) (Eq.trans (e_iadd d_102_72 h.2.1) (Eq.trans (e_iald d_102_73 sh_45 h.2.2) (Eq.trans (e_iload_n d_102_74 rfl) (e_icmp_ne d_102_75 (by decide))))))))))
theorem b102_78 {x1 x2 x3 x4 x5 : Int} {σ : SS} : ev 102 78 [qR 44, qI x1, qI x2, qI x3, qI x4, qI x5] [] σ = some (some (qI 1), σ) :=
  Eq.trans (e_iconst d_102_78 k_1) (e_iret d_102_79 (q_okrZ rfl (by decide)))
theorem b102_80 {x1 x2 x3 x4 x5 : Int} {σ : SS} (h : -2147483648 ≤ (x4 + 1) ∧ (x4 + 1) ≤ 2147483647) : ev 102 80 [qR 44, qI x1, qI x2, qI x3, qI x4, qI x5] [] σ = ev 102 28 [qR 44, qI x1, qI x2, qI x3, qI (x4 + 1), qI x5] [] σ :=
  Eq.trans (e_iinc d_102_80 (by decide) rfl h rfl) (e_goto d_102_83 (by decide))
theorem b102_86 {x1 x2 x3 x4 : Int} {vx5 : AV} {σ : SS} (h : -2147483648 ≤ (x3 + 1) ∧ (x3 + 1) ≤ 2147483647) : ev 102 86 [qR 44, qI x1, qI x2, qI x3, qI x4, vx5] [] σ = ev 102 14 [qR 44, qI x1, qI x2, qI (x3 + 1), qI x4, vx5] [] σ :=
  Eq.trans (e_iinc d_102_86 (by decide) rfl h rfl) (e_goto d_102_89 (by decide))
theorem b102_92 {x1 x2 x3 : Int} {vx4 vx5 : AV} {σ : SS} : ev 102 92 [qR 44, qI x1, qI x2, qI x3, vx4, vx5] [] σ = some (some (qI 0), σ) :=
  Eq.trans (e_iconst d_102_92 k_0) (e_iret d_102_93 (q_okrZ rfl (by decide)))
theorem b103_0 {σ : SS} : ev 103 0 [qR 44, qU, qU, qU] [] σ = ev 103 2 [qR 44, qI 0, qU, qU] [] σ :=
  Eq.trans (e_iconst d_103_0 k_0) (e_istore_n d_103_1 (by decide) (Nat.le_of_ble_eq_true rfl) rfl)
theorem b103_2 {x1 : Int} {vx2 vx3 : AV} {σ : SS} : ev 103 2 [qR 44, qI x1, vx2, vx3] [] σ = if x1 < (σ 12 8) then ev 103 13 [qR 44, qI x1, vx2, vx3] [] σ else ev 103 69 [qR 44, qI x1, vx2, vx3] [] σ :=
  Eq.trans (e_iload_n d_103_2 rfl) (Eq.trans (e_aload_n d_103_3 rfl) (Eq.trans (e_getR d_103_4 fl_1_9 sh_44 rfl) (Eq.trans (e_getI d_103_7 fl_1_35 sh_12 rfl) (e_icmp_ge d_103_10 (by decide)))))
theorem b103_13 {x1 : Int} {vx2 vx3 : AV} {σ : SS} : ev 103 13 [qR 44, qI x1, vx2, vx3] [] σ = ev 103 15 [qR 44, qI x1, qI 0, vx3] [] σ :=
  Eq.trans (e_iconst d_103_13 k_0) (e_istore_n d_103_14 (by decide) (Nat.le_of_ble_eq_true rfl) rfl)
theorem b103_15 {x1 x2 : Int} {vx3 : AV} {σ : SS} : ev 103 15 [qR 44, qI x1, qI x2, vx3] [] σ = if x2 < (σ 12 8) then ev 103 26 [qR 44, qI x1, qI x2, vx3] [] σ else ev 103 63 [qR 44, qI x1, qI x2, vx3] [] σ :=
  Eq.trans (e_iload_n d_103_15 rfl) (Eq.trans (e_aload_n d_103_16 rfl) (Eq.trans (e_getR d_103_17 fl_1_9 sh_44 rfl) (Eq.trans (e_getI d_103_20 fl_1_35 sh_12 rfl) (e_icmp_ge d_103_23 (by decide)))))
theorem b103_26 {x1 x2 : Int} {vx3 : AV} {σ : SS} (h : (-2147483648 ≤ (x1 * 6) ∧ (x1 * 6) ≤ 2147483647) ∧ (-2147483648 ≤ ((x1 * 6) + x2) ∧ ((x1 * 6) + x2) ≤ 2147483647) ∧ (0 ≤ ((x1 * 6) + x2) ∧ ((x1 * 6) + x2) < 36)) : ev 103 26 [qR 44, qI x1, qI x2, vx3] [] σ = (ev 104 0 [qR 44, qI (σ 45 ((x1 * 6) + x2).toNat), qU, qU] [] σ).bind (fun x => ev 103 55 [qR 44, qI x1, qI x2, qI ((x1 * 6) + x2)] (q_push x.1 [qI (q_or (q_shl 1 x1) (q_shl 1 x2)), qI ((x1 * 6) + x2), qR 46]) x.2) :=
  Eq.trans (e_iload_n d_103_26 rfl) (Eq.trans (e_bipush d_103_27 kb_6) (Eq.trans (e_imul d_103_29 h.1) (Eq.trans (e_iload_n d_103_30 rfl) (Eq.trans (e_iadd d_103_31 h.2.1) (Eq.trans (e_istore_n d_103_32 (by decide) (Nat.le_of_ble_eq_true rfl) rfl) (Eq.trans (e_aload_n d_103_33 rfl) (Eq.trans (e_getR d_103_34 fl_1_19 sh_44 rfl) (Eq.trans (e_iload_n d_103_37 rfl) (Eq.trans (e_iconst d_103_38 k_1) (Eq.trans (e_iload_n d_103_39 rfl) (Eq.trans (e_ishl d_103_40) (Eq.trans (e_iconst d_103_41 k_1) (Eq.trans (e_iload_n d_103_42 rfl) (Eq.trans (e_ishl d_103_43) (Eq.trans (e_ior d_103_44) (Eq.trans (e_aload_n d_103_45 rfl) (Eq.trans (e_aload_n d_103_46 rfl) (Eq.trans (e_getR d_103_47 fl_1_15 sh_44 rfl) (Eq.trans (e_iload_n d_103_50 rfl) (Eq.trans (e_iald d_103_51 sh_45 h.2.2) (e_callV d_103_52 ml_1_41 fit_103_104 par_104 rfl rfl sh_44 (Nat.le_of_ble_eq_true rfl) (Nat.le_of_ble_eq_true rfl) (Nat.le_of_ble_eq_true rfl) rfl (by decide) rfl)))))))))))))))))))))
theorem b103_55 {x1 x2 x3 y0 y1 y2 : Int} {σ : SS} (h : (0 ≤ y2 ∧ y2 < 36) ∧ (-2147483648 ≤ (x2 + 1) ∧ (x2 + 1) ≤ 2147483647)) : ev 103 55 [qR 44, qI x1, qI x2, qI x3] [qI y0, qI y1, qI y2, qR 46] σ = ev 103 15 [qR 44, qI x1, qI (x2 + 1), qI x3] [] (q_put σ 46 y2.toNat (q_or y1 y0)) :=
  Eq.trans (e_ior d_103_55) (Eq.trans (e_iast d_103_56 sh_46 h.1) (Eq.trans (e_iinc d_103_57 (by decide) rfl h.2 rfl) (e_goto d_103_60 (by decide))))
theorem b103_63 {x1 x2 : Int} {vx3 : AV} {σ : SS} (h : -2147483648 ≤ (x1 + 1) ∧ (x1 + 1) ≤ 2147483647) : ev 103 63 [qR 44, qI x1, qI x2, vx3] [] σ = ev 103 2 [qR 44, qI (x1 + 1), qI x2, vx3] [] σ :=
  Eq.trans (e_iinc d_103_63 (by decide) rfl h rfl) (e_goto d_103_66 (by decide))
theorem b103_69 {x1 : Int} {vx2 vx3 : AV} {σ : SS} : ev 103 69 [qR 44, qI x1, vx2, vx3] [] σ = some (none, σ) :=
  e_vret d_103_69 rfl
theorem b105_0 {x1 : Int} {σ : SS} : ev 105 0 [qR 44, qI x1, qU, qU, qU, qU, qU] [] σ = ev 105 4 [qR 44, qI x1, qI 0, qI 0, qU, qU, qU] [] σ :=
  Eq.trans (e_iconst d_105_0 k_0) (Eq.trans (e_istore_n d_105_1 (by decide) (Nat.le_of_ble_eq_true rfl) rfl) (Eq.trans (e_iconst d_105_2 k_0) (e_istore_n d_105_3 (by decide) (Nat.le_of_ble_eq_true rfl) rfl)))
theorem b105_4 {x1 x2 x3 : Int} {vx4 vx5 vx6 : AV} {σ : SS} : ev 105 4 [qR 44, qI x1, qI x2, qI x3, vx4, vx5, vx6] [] σ = if x3 < (σ 12 8) then ev 105 15 [qR 44, qI x1, qI x2, qI x3, vx4, vx5, vx6] [] σ else ev 105 113 [qR 44, qI x1, qI x2, qI x3, vx4, vx5, vx6] [] σ :=
  Eq.trans (e_iload_n d_105_4 rfl) (Eq.trans (e_aload_n d_105_5 rfl) (Eq.trans (e_getR d_105_6 fl_1_9 sh_44 rfl) (Eq.trans (e_getI d_105_9 fl_1_35 sh_12 rfl) (e_icmp_ge d_105_12 (by decide)))))
theorem b105_15 {x1 x2 x3 : Int} {vx4 vx5 vx6 : AV} {σ : SS} : ev 105 15 [qR 44, qI x1, qI x2, qI x3, vx4, vx5, vx6] [] σ = ev 105 18 [qR 44, qI x1, qI x2, qI x3, qI 0, vx5, vx6] [] σ :=
  Eq.trans (e_iconst d_105_15 k_0) (e_istore d_105_16 (by decide) (Nat.le_of_ble_eq_true rfl) rfl)
theorem b105_18 {x1 x2 x3 x4 : Int} {vx5 vx6 : AV} {σ : SS} : ev 105 18 [qR 44, qI x1, qI x2, qI x3, qI x4, vx5, vx6] [] σ = if x4 < (σ 12 8) then ev 105 30 [qR 44, qI x1, qI x2, qI x3, qI x4, vx5, vx6] [] σ else ev 105 107 [qR 44, qI x1, qI x2, qI x3, qI x4, vx5, vx6] [] σ :=
  Eq.trans (e_iload d_105_18 rfl) (Eq.trans (e_aload_n d_105_20 rfl) (Eq.trans (e_getR d_105_21 fl_1_9 sh_44 rfl) (Eq.trans (e_getI d_105_24 fl_1_35 sh_12 rfl) (e_icmp_ge d_105_27 (by decide)))))
theorem b105_30 {x1 x2 x3 x4 : Int} {vx5 vx6 : AV} {σ : SS} : ev 105 30 [qR 44, qI x1, qI x2, qI x3, qI x4, vx5, vx6] [] σ = if x1 = 0 then ev 105 43 [qR 44, qI x1, qI x2, qI x3, qI x4, vx5, vx6] [] σ else ev 105 34 [qR 44, qI x1, qI x2, qI x3, qI x4, vx5, vx6] [] σ :=
  Eq.trans (e_iload_n d_105_30 rfl) (e_if_eq d_105_31 (by decide))
theorem b105_34 {x1 x2 x3 x4 : Int} {vx5 vx6 : AV} {σ : SS} : ev 105 34 [qR 44, qI x1, qI x2, qI x3, qI x4, vx5, vx6] [] σ = if x3 = x4 then ev 105 43 [qR 44, qI x1, qI x2, qI x3, qI x4, vx5, vx6] [] σ else ev 105 40 [qR 44, qI x1, qI x2, qI x3, qI x4, vx5, vx6] [] σ :=
  Eq.trans (e_iload_n d_105_34 rfl) (Eq.trans (e_iload d_105_35 rfl) (e_icmp_eq d_105_37 (by decide)))
theorem b105_40 {x1 x2 x3 x4 : Int} {vx5 vx6 : AV} {σ : SS} : ev 105 40 [qR 44, qI x1, qI x2, qI x3, qI x4, vx5, vx6] [] σ = ev 105 101 [qR 44, qI x1, qI x2, qI x3, qI x4, vx5, vx6] [] σ :=
  e_goto d_105_40 (by decide)
theorem b105_43 {x1 x2 x3 x4 : Int} {vx5 vx6 : AV} {σ : SS} (h : (-2147483648 ≤ (x3 * 6) ∧ (x3 * 6) ≤ 2147483647) ∧ (-2147483648 ≤ ((x3 * 6) + x4) ∧ ((x3 * 6) + x4) ≤ 2147483647) ∧ (0 ≤ ((x3 * 6) + x4) ∧ ((x3 * 6) + x4) < 36)) : ev 105 43 [qR 44, qI x1, qI x2, qI x3, qI x4, vx5, vx6] [] σ = (ev 106 0 [qR 44, qI x3, qI x4, qI x1, qU, qU] [] σ).bind (fun x => ev 105 67 [qR 44, qI x1, qI x2, qI x3, qI x4, qI ((x3 * 6) + x4), vx6] (q_push x.1 [qI (σ 45 ((x3 * 6) + x4).toNat)]) x.2) :=
  Eq.trans (e_iload_n d_105_43 rfl) (Eq.trans (e_bipush d_105_44 kb_6) (Eq.trans (e_imul d_105_46 h.1) (Eq.trans (e_iload d_105_47 rfl) (Eq.trans (e_iadd d_105_49 h.2.1) (Eq.trans (e_istore d_105_50 (by decide) (Nat.le_of_ble_eq_true rfl) rfl) (Eq.trans (e_aload_n d_105_52 rfl) (Eq.trans (e_getR d_105_53 fl_1_15 sh_44 rfl) (Eq.trans (e_iload d_105_56 rfl) (Eq.trans (e_iald d_105_58 sh_45 h.2.2) (Eq.trans (e_aload_n d_105_59 rfl) (Eq.trans (e_iload_n d_105_60 rfl) (Eq.trans (e_iload d_105_61 rfl) (Eq.trans (e_iload_n d_105_63 rfl) (e_callV d_105_64 ml_1_48 fit_105_106 par_106 rfl rfl sh_44 (Nat.le_of_ble_eq_true rfl) (Nat.le_of_ble_eq_true rfl) (Nat.le_of_ble_eq_true rfl) rfl (by decide) rfl))))))))))))))
theorem b105_67 {x1 x2 x3 x4 x5 y0 y1 : Int} {vx6 : AV} {σ : SS} : ev 105 67 [qR 44, qI x1, qI x2, qI x3, qI x4, qI x5, vx6] [qI y0, qI y1] σ = if x2 = 0 then ev 105 74 [qR 44, qI x1, qI x2, qI x3, qI x4, qI x5, qI (q_or y1 y0)] [] σ else ev 105 86 [qR 44, qI x1, qI x2, qI x3, qI x4, qI x5, qI (q_or y1 y0)] [] σ :=
  Eq.trans (e_ior d_105_67) (Eq.trans (e_istore d_105_68 (by decide) (Nat.le_of_ble_eq_true rfl) rfl) (Eq.trans (e_iload_n d_105_70 rfl) (e_if_ne d_105_71 (by decide))))
theorem b105_74 {x1 x2 x3 x4 x5 x6 : Int} {σ : SS} (h : 0 ≤ x5 ∧ x5 < 36) : ev 105 74 [qR 44, qI x1, qI x2, qI x3, qI x4, qI x5, qI x6] [] σ = if x6 = (σ 45 x5.toNat) then ev 105 90 [qR 44, qI x1, qI x2, qI x3, qI x4, qI x5, qI x6] [] σ else ev 105 86 [qR 44, qI x1, qI x2, qI x3, qI x4, qI x5, qI x6] [] σ :=
  Eq.trans (e_iload d_105_74 rfl) (Eq.trans (e_aload_n d_105_76 rfl) (Eq.trans (e_getR d_105_77 fl_1_15 sh_44 rfl) (Eq.trans (e_iload d_105_80 rfl) (Eq.trans (e_iald d_105_82 sh_45 h) (e_icmp_eq d_105_83 (by decide))))))
theorem b105_86 {x1 x2 x3 x4 x5 x6 : Int} {σ : SS} : ev 105 86 [qR 44, qI x1, qI x2, qI x3, qI x4, qI x5, qI x6] [] σ = ev 105 91 [qR 44, qI x1, qI x2, qI x3, qI x4, qI x5, qI x6] [qI 1] σ :=
  Eq.trans (e_iconst d_105_86 k_1) (e_goto d_105_87 (by decide))
theorem b105_90 {x1 x2 x3 x4 x5 x6 : Int} {σ : SS} : ev 105 90 [qR 44, qI x1, qI x2, qI x3, qI x4, qI x5, qI x6] [] σ = ev 105 91 [qR 44, qI x1, qI x2, qI x3, qI x4, qI x5, qI x6] [qI 0] σ :=
  e_iconst d_105_90 k_0
theorem b105_91 {x1 x2 x3 x4 x5 x6 y0 : Int} {σ : SS} (h : 0 ≤ x5 ∧ x5 < 36) : ev 105 91 [qR 44, qI x1, qI x2, qI x3, qI x4, qI x5, qI x6] [qI y0] σ = ev 105 101 [qR 44, qI x1, qI y0, qI x3, qI x4, qI x5, qI x6] [] (q_put σ 45 x5.toNat x6) :=
  Eq.trans (e_istore_n d_105_91 (by decide) (Nat.le_of_ble_eq_true rfl) rfl) (Eq.trans (e_aload_n d_105_92 rfl) (Eq.trans (e_getR d_105_93 fl_1_15 sh_44 rfl) (Eq.trans (e_iload d_105_96 rfl) (Eq.trans (e_iload d_105_98 rfl) (e_iast d_105_100 sh_45 h)))))
theorem b105_101 {x1 x2 x3 x4 : Int} {vx5 vx6 : AV} {σ : SS} (h : -2147483648 ≤ (x4 + 1) ∧ (x4 + 1) ≤ 2147483647) : ev 105 101 [qR 44, qI x1, qI x2, qI x3, qI x4, vx5, vx6] [] σ = ev 105 18 [qR 44, qI x1, qI x2, qI x3, qI (x4 + 1), vx5, vx6] [] σ :=
  Eq.trans (e_iinc d_105_101 (by decide) rfl h rfl) (e_goto d_105_104 (by decide))
theorem b105_107 {x1 x2 x3 x4 : Int} {vx5 vx6 : AV} {σ : SS} (h : -2147483648 ≤ (x3 + 1) ∧ (x3 + 1) ≤ 2147483647) : ev 105 107 [qR 44, qI x1, qI x2, qI x3, qI x4, vx5, vx6] [] σ = ev 105 4 [qR 44, qI x1, qI x2, qI (x3 + 1), qI x4, vx5, vx6] [] σ :=
  Eq.trans (e_iinc d_105_107 (by decide) rfl h rfl) (e_goto d_105_110 (by decide))
theorem b105_113 {x1 x2 x3 : Int} {vx4 vx5 vx6 : AV} {σ : SS} (h : x2 = 0 ∨ x2 = 1) : ev 105 113 [qR 44, qI x1, qI x2, qI x3, vx4, vx5, vx6] [] σ = some (some (qI x2), σ) :=
  Eq.trans (e_iload_n d_105_113 rfl) (e_iret d_105_114 (q_okrZ rfl h))
theorem b1_0 {σ : SS} : ev 1 0 [qR 47, qU, qU] [] σ = ev 1 4 [qR 47, qI 0, qI 0] [] σ :=
  Eq.trans (e_iconst d_1_0 k_0) (Eq.trans (e_istore_n d_1_1 (by decide) (Nat.le_of_ble_eq_true rfl) rfl) (Eq.trans (e_iconst d_1_2 k_0) (e_istore_n d_1_3 (by decide) (Nat.le_of_ble_eq_true rfl) rfl)))
theorem b1_4 {x1 x2 : Int} {σ : SS} : ev 1 4 [qR 47, qI x1, qI x2] [] σ = if x2 < (σ 12 10) then ev 1 18 [qR 47, qI x1, qI x2] [] σ else ev 1 50 [qR 47, qI x1, qI x2] [] σ :=
  Eq.trans (e_iload_n d_1_4 rfl) (Eq.trans (e_aload_n d_1_5 rfl) (Eq.trans (e_getR d_1_6 fl_0_9 sh_47 rfl) (Eq.trans (e_getR d_1_9 fl_0_22 sh_34 rfl) (Eq.trans (e_getI d_1_12 fl_0_28 sh_12 rfl) (e_icmp_ge d_1_15 (by decide))))))
theorem b1_18 {x1 x2 : Int} {σ : SS} : ev 1 18 [qR 47, qI x1, qI x2] [] σ = (ev 3 0 [qR 47, qU, qU, qU] [] σ).bind (fun x => ev 1 22 [qR 47, qI x1, qI x2] (q_push x.1 []) x.2) :=
  Eq.trans (e_aload_n d_1_18 rfl) (e_callV d_1_19 ml_0_42 fit_1_3 par_3 rfl rfl sh_47 (Nat.le_of_ble_eq_true rfl) (Nat.le_of_ble_eq_true rfl) (Nat.le_of_ble_eq_true rfl) rfl (by decide) rfl)
theorem b1_22 {x1 x2 y0 : Int} {σ : SS} : ev 1 22 [qR 47, qI x1, qI x2] [qI y0] σ = if y0 = x2 then ev 1 34 [qR 47, qI x1, qI x2] [] σ else ev 1 26 [qR 47, qI x1, qI x2] [] σ :=
  Eq.trans (e_iload_n d_1_22 rfl) (e_icmp_eq d_1_23 (by decide))
theorem b1_26 {x1 x2 : Int} {σ : SS} : ev 1 26 [qR 47, qI x1, qI x2] [] σ = (ev 2 0 [qR 47, qI x2, qU, qU] [] σ).bind (fun x => ev 1 31 [qR 47, qI x1, qI x2] (q_push x.1 []) x.2) :=
  Eq.trans (e_aload_n d_1_26 rfl) (Eq.trans (e_iload_n d_1_27 rfl) (e_callV d_1_28 ml_0_46 fit_1_2 par_2 rfl rfl sh_47 (Nat.le_of_ble_eq_true rfl) (Nat.le_of_ble_eq_true rfl) (Nat.le_of_ble_eq_true rfl) rfl (by decide) rfl))
theorem b1_31 {x1 x2 y0 : Int} {σ : SS} : ev 1 31 [qR 47, qI x1, qI x2] [qI y0] σ = if y0 = 0 then ev 1 34 [qR 47, qI x1, qI x2] [] σ else ev 1 38 [qR 47, qI x1, qI x2] [] σ :=
  e_if_ne d_1_31 (by decide)
theorem b1_34 {x1 x2 : Int} {σ : SS} : ev 1 34 [qR 47, qI x1, qI x2] [] σ = if x1 = 0 then ev 1 42 [qR 47, qI x1, qI x2] [] σ else ev 1 38 [qR 47, qI x1, qI x2] [] σ :=
  Eq.trans (e_iload_n d_1_34 rfl) (e_if_eq d_1_35 (by decide))
theorem b1_38 {x1 x2 : Int} {σ : SS} : ev 1 38 [qR 47, qI x1, qI x2] [] σ = ev 1 43 [qR 47, qI x1, qI x2] [qI 1] σ :=
  Eq.trans (e_iconst d_1_38 k_1) (e_goto d_1_39 (by decide))
theorem b1_42 {x1 x2 : Int} {σ : SS} : ev 1 42 [qR 47, qI x1, qI x2] [] σ = ev 1 43 [qR 47, qI x1, qI x2] [qI 0] σ :=
  e_iconst d_1_42 k_0
theorem b1_43 {x1 x2 y0 : Int} {σ : SS} (h : -2147483648 ≤ (x2 + 1) ∧ (x2 + 1) ≤ 2147483647) : ev 1 43 [qR 47, qI x1, qI x2] [qI y0] σ = ev 1 4 [qR 47, qI y0, qI (x2 + 1)] [] σ :=
  Eq.trans (e_istore_n d_1_43 (by decide) (Nat.le_of_ble_eq_true rfl) rfl) (Eq.trans (e_iinc d_1_44 (by decide) rfl h rfl) (e_goto d_1_47 (by decide)))
theorem b1_50 {x1 x2 : Int} {σ : SS} (h : x1 = 0 ∨ x1 = 1) : ev 1 50 [qR 47, qI x1, qI x2] [] σ = some (some (qI x1), σ) :=
  Eq.trans (e_iload_n d_1_50 rfl) (e_iret d_1_51 (q_okrZ rfl h))
theorem b702_0 {x1 : Int} {σ : SS} : ev 702 0 [qR 42, qI x1, qU, qU] [] σ = ev 702 4 [qR 42, qI x1, qI 0, qI 0] [] σ :=
  Eq.trans (e_iconst d_702_0 k_0) (Eq.trans (e_istore_n d_702_1 (by decide) (Nat.le_of_ble_eq_true rfl) rfl) (Eq.trans (e_iconst d_702_2 k_0) (e_istore_n d_702_3 (by decide) (Nat.le_of_ble_eq_true rfl) rfl)))
theorem b702_4 {x1 x2 x3 : Int} {σ : SS} : ev 702 4 [qR 42, qI x1, qI x2, qI x3] [] σ = if x3 < 6 then ev 702 10 [qR 42, qI x1, qI x2, qI x3] [] σ else ev 702 38 [qR 42, qI x1, qI x2, qI x3] [] σ :=
  Eq.trans (e_iload_n d_702_4 rfl) (Eq.trans (e_bipush d_702_5 kb_6) (e_icmp_ge d_702_7 (by decide)))
theorem b702_10 {x1 x2 x3 : Int} {σ : SS} : ev 702 10 [qR 42, qI x1, qI x2, qI x3] [] σ = (ev 848 0 [qI x1, qI x3] [] σ).bind (fun x => ev 702 15 [qR 42, qI x1, qI x2, qI x3] (q_push x.1 []) x.2) :=
  Eq.trans (e_iload_n d_702_10 rfl) (Eq.trans (e_iload_n d_702_11 rfl) (e_callS d_702_12 (by decide) ml_7_62 fit_702_848 par_848 rfl rfl (Nat.le_of_ble_eq_true rfl) (Nat.le_of_ble_eq_true rfl) (Nat.le_of_ble_eq_true rfl) rfl (by decide) rfl))
theorem b702_15 {x1 x2 x3 y0 : Int} {σ : SS} : ev 702 15 [qR 42, qI x1, qI x2, qI x3] [qI y0] σ = if y0 = 0 then ev 702 32 [qR 42, qI x1, qI x2, qI x3] [] σ else ev 702 18 [qR 42, qI x1, qI x2, qI x3] [] σ :=
  e_if_eq d_702_15 (by decide)
theorem b702_18 {x1 x2 x3 : Int} {σ : SS} : ev 702 18 [qR 42, qI x1, qI x2, qI x3] [] σ = (ev 609 0 [qR 12, qI x3] [] σ).bind (fun x => ev 702 30 [qR 42, qI x1, qI x2, qI x3] (q_push x.1 [qI x2]) x.2) :=
  Eq.trans (e_iload_n d_702_18 rfl) (Eq.trans (e_aload_n d_702_19 rfl) (Eq.trans (e_getR d_702_20 fl_7_9 sh_42 rfl) (Eq.trans (e_getR d_702_23 fl_7_19 sh_34 rfl) (Eq.trans (e_iload_n d_702_26 rfl) (e_callV d_702_27 ml_7_65 fit_702_609 par_609 rfl rfl sh_12 (Nat.le_of_ble_eq_true rfl) (Nat.le_of_ble_eq_true rfl) (Nat.le_of_ble_eq_true rfl) rfl (by decide) rfl)))))
theorem b702_30 {x1 x2 x3 y0 y1 : Int} {σ : SS} : ev 702 30 [qR 42, qI x1, qI x2, qI x3] [qI y0, qI y1] σ = ev 702 32 [qR 42, qI x1, qI (q_or y1 y0), qI x3] [] σ :=
  Eq.trans (e_ior d_702_30) (e_istore_n d_702_31 (by decide) (Nat.le_of_ble_eq_true rfl) rfl)
theorem b702_32 {x1 x2 x3 : Int} {σ : SS} (h : -2147483648 ≤ (x3 + 1) ∧ (x3 + 1) ≤ 2147483647) : ev 702 32 [qR 42, qI x1, qI x2, qI x3] [] σ = ev 702 4 [qR 42, qI x1, qI x2, qI (x3 + 1)] [] σ :=
  Eq.trans (e_iinc d_702_32 (by decide) rfl h rfl) (e_goto d_702_35 (by decide))
theorem b702_38 {x1 x2 x3 : Int} {σ : SS} : ev 702 38 [qR 42, qI x1, qI x2, qI x3] [] σ = some (some (qI x2), σ) :=
  Eq.trans (e_iload_n d_702_38 rfl) (e_iret d_702_39 (q_okrI rfl))
theorem b104_0 {x1 : Int} {σ : SS} : ev 104 0 [qR 44, qI x1, qU, qU] [] σ = ev 104 4 [qR 44, qI x1, qI 0, qI 0] [] σ :=
  Eq.trans (e_iconst d_104_0 k_0) (Eq.trans (e_istore_n d_104_1 (by decide) (Nat.le_of_ble_eq_true rfl) rfl) (Eq.trans (e_iconst d_104_2 k_0) (e_istore_n d_104_3 (by decide) (Nat.le_of_ble_eq_true rfl) rfl)))
theorem b104_4 {x1 x2 x3 : Int} {σ : SS} : ev 104 4 [qR 44, qI x1, qI x2, qI x3] [] σ = if x3 < (σ 12 8) then ev 104 15 [qR 44, qI x1, qI x2, qI x3] [] σ else ev 104 42 [qR 44, qI x1, qI x2, qI x3] [] σ :=
  Eq.trans (e_iload_n d_104_4 rfl) (Eq.trans (e_aload_n d_104_5 rfl) (Eq.trans (e_getR d_104_6 fl_1_9 sh_44 rfl) (Eq.trans (e_getI d_104_9 fl_1_35 sh_12 rfl) (e_icmp_ge d_104_12 (by decide)))))
theorem b104_15 {x1 x2 x3 : Int} {σ : SS} : ev 104 15 [qR 44, qI x1, qI x2, qI x3] [] σ = (ev 610 0 [qR 12, qI x3] [] σ).bind (fun x => ev 104 23 [qR 44, qI x1, qI x2, qI x3] (q_push x.1 []) x.2) :=
  Eq.trans (e_aload_n d_104_15 rfl) (Eq.trans (e_getR d_104_16 fl_1_9 sh_44 rfl) (Eq.trans (e_iload_n d_104_19 rfl) (e_callV d_104_20 ml_1_45 fit_104_610 par_610 rfl rfl sh_12 (Nat.le_of_ble_eq_true rfl) (Nat.le_of_ble_eq_true rfl) (Nat.le_of_ble_eq_true rfl) rfl (by decide) rfl)))
theorem b104_23 {x1 x2 x3 y0 : Int} {σ : SS} : ev 104 23 [qR 44, qI x1, qI x2, qI x3] [qI y0] σ = if (q_and y0 (q_xor x1 (-1))) = 0 then ev 104 30 [qR 44, qI x1, qI x2, qI x3] [] σ else ev 104 36 [qR 44, qI x1, qI x2, qI x3] [] σ :=
  Eq.trans (e_iload_n d_104_23 rfl) (Eq.trans (e_iconst d_104_24 k_m1) (Eq.trans (e_ixor d_104_25) (Eq.trans (e_iand d_104_26) (e_if_ne d_104_27 (by decide)))))
theorem b104_30 {x1 x2 x3 : Int} {σ : SS} : ev 104 30 [qR 44, qI x1, qI x2, qI x3] [] σ = ev 104 36 [qR 44, qI x1, qI (q_or x2 (q_shl 1 x3)), qI x3] [] σ :=
  Eq.trans (e_iload_n d_104_30 rfl) (Eq.trans (e_iconst d_104_31 k_1) (Eq.trans (e_iload_n d_104_32 rfl) (Eq.trans (e_ishl d_104_33) (Eq.trans (e_ior d_104_34) (e_istore_n d_104_35 (by decide) (Nat.le_of_ble_eq_true rfl) rfl)))))
theorem b104_36 {x1 x2 x3 : Int} {σ : SS} (h : -2147483648 ≤ (x3 + 1) ∧ (x3 + 1) ≤ 2147483647) : ev 104 36 [qR 44, qI x1, qI x2, qI x3] [] σ = ev 104 4 [qR 44, qI x1, qI x2, qI (x3 + 1)] [] σ :=
  Eq.trans (e_iinc d_104_36 (by decide) rfl h rfl) (e_goto d_104_39 (by decide))
theorem b104_42 {x1 x2 x3 : Int} {σ : SS} : ev 104 42 [qR 44, qI x1, qI x2, qI x3] [] σ = some (some (qI x2), σ) :=
  Eq.trans (e_iload_n d_104_42 rfl) (e_iret d_104_43 (q_okrI rfl))
theorem b106_0 {x1 x2 x3 : Int} {σ : SS} : ev 106 0 [qR 44, qI x1, qI x2, qI x3, qU, qU] [] σ = ev 106 6 [qR 44, qI x1, qI x2, qI x3, qI 0, qI 0] [] σ :=
  Eq.trans (e_iconst d_106_0 k_0) (Eq.trans (e_istore d_106_1 (by decide) (Nat.le_of_ble_eq_true rfl) rfl) (Eq.trans (e_iconst d_106_3 k_0) (e_istore d_106_4 (by decide) (Nat.le_of_ble_eq_true rfl) rfl)))
theorem b106_6 {x1 x2 x3 x4 x5 : Int} {σ : SS} : ev 106 6 [qR 44, qI x1, qI x2, qI x3, qI x4, qI x5] [] σ = if x5 < (σ 12 8) then ev 106 18 [qR 44, qI x1, qI x2, qI x3, qI x4, qI x5] [] σ else ev 106 72 [qR 44, qI x1, qI x2, qI x3, qI x4, qI x5] [] σ :=
  Eq.trans (e_iload d_106_6 rfl) (Eq.trans (e_aload_n d_106_8 rfl) (Eq.trans (e_getR d_106_9 fl_1_9 sh_44 rfl) (Eq.trans (e_getI d_106_12 fl_1_35 sh_12 rfl) (e_icmp_ge d_106_15 (by decide)))))
theorem b106_18 {x1 x2 x3 x4 x5 : Int} {σ : SS} : ev 106 18 [qR 44, qI x1, qI x2, qI x3, qI x4, qI x5] [] σ = (ev 610 0 [qR 12, qI x1] [] σ).bind (fun x => ev 106 26 [qR 44, qI x1, qI x2, qI x3, qI x4, qI x5] (q_push x.1 []) x.2) :=
  Eq.trans (e_aload_n d_106_18 rfl) (Eq.trans (e_getR d_106_19 fl_1_9 sh_44 rfl) (Eq.trans (e_iload_n d_106_22 rfl) (e_callV d_106_23 ml_1_45 fit_106_610 par_610 rfl rfl sh_12 (Nat.le_of_ble_eq_true rfl) (Nat.le_of_ble_eq_true rfl) (Nat.le_of_ble_eq_true rfl) rfl (by decide) rfl)))
theorem b106_26 {x1 x2 x3 x4 x5 y0 : Int} {σ : SS} : ev 106 26 [qR 44, qI x1, qI x2, qI x3, qI x4, qI x5] [qI y0] σ = (ev 848 0 [qI y0, qI x5] [] σ).bind (fun x => ev 106 31 [qR 44, qI x1, qI x2, qI x3, qI x4, qI x5] (q_push x.1 []) x.2) :=
  Eq.trans (e_iload d_106_26 rfl) (e_callS d_106_28 (by decide) ml_1_52 fit_106_848 par_848 rfl rfl (Nat.le_of_ble_eq_true rfl) (Nat.le_of_ble_eq_true rfl) (Nat.le_of_ble_eq_true rfl) rfl (by decide) rfl)
theorem b106_31 {x1 x2 x3 x4 x5 y0 : Int} {σ : SS} : ev 106 31 [qR 44, qI x1, qI x2, qI x3, qI x4, qI x5] [qI y0] σ = if y0 = 0 then ev 106 66 [qR 44, qI x1, qI x2, qI x3, qI x4, qI x5] [] σ else ev 106 34 [qR 44, qI x1, qI x2, qI x3, qI x4, qI x5] [] σ :=
  e_if_eq d_106_31 (by decide)
theorem b106_34 {x1 x2 x3 x4 x5 : Int} {σ : SS} : ev 106 34 [qR 44, qI x1, qI x2, qI x3, qI x4, qI x5] [] σ = if x3 = 0 then ev 106 56 [qR 44, qI x1, qI x2, qI x3, qI x4, qI x5] [qI x4] σ else ev 106 40 [qR 44, qI x1, qI x2, qI x3, qI x4, qI x5] [qI x4] σ :=
  Eq.trans (e_iload d_106_34 rfl) (Eq.trans (e_iload_n d_106_36 rfl) (e_if_eq d_106_37 (by decide)))
theorem b106_40 {x1 x2 x3 x4 x5 y0 : Int} {σ : SS} (h : (-2147483648 ≤ (x5 * 6) ∧ (x5 * 6) ≤ 2147483647) ∧ (-2147483648 ≤ ((x5 * 6) + x5) ∧ ((x5 * 6) + x5) ≤ 2147483647) ∧ (0 ≤ ((x5 * 6) + x5) ∧ ((x5 * 6) + x5) < 36)) : ev 106 40 [qR 44, qI x1, qI x2, qI x3, qI x4, qI x5] [qI y0] σ = ev 106 63 [qR 44, qI x1, qI x2, qI x3, qI x4, qI x5] [qI (σ 46 ((x5 * 6) + x5).toNat), qI y0] σ :=
  Eq.trans (e_aload_n d_106_40 rfl) (Eq.trans (e_getR d_106_41 fl_1_19 sh_44 rfl) (Eq.trans (e_iload d_106_44 rfl) (Eq.trans (e_bipush d_106_46 kb_6) (Eq.trans (e_imul d_106_48 h.1) (Eq.trans (e_iload d_106_49 rfl) (Eq.trans (e_iadd d_106_51 h.2.1) (Eq.trans (e_iald d_106_52 sh_46 h.2.2) (e_goto d_106_53 (by decide)))))))))
theorem b106_56 {x1 x2 x3 x4 x5 y0 : Int} {σ : SS} : ev 106 56 [qR 44, qI x1, qI x2, qI x3, qI x4, qI x5] [qI y0] σ = (ev 107 0 [qR 44, qI x5, qI x2, qU, qU, qU] [] σ).bind (fun x => ev 106 63 [qR 44, qI x1, qI x2, qI x3, qI x4, qI x5] (q_push x.1 [qI y0]) x.2) :=
  Eq.trans (e_aload_n d_106_56 rfl) (Eq.trans (e_iload d_106_57 rfl) (Eq.trans (e_iload_n d_106_59 rfl) (e_callV d_106_60 ml_1_56 fit_106_107 par_107 rfl rfl sh_44 (Nat.le_of_ble_eq_true rfl) (Nat.le_of_ble_eq_true rfl) (Nat.le_of_ble_eq_true rfl) rfl (by decide) rfl)))
theorem b106_63 {x1 x2 x3 x4 x5 y0 y1 : Int} {σ : SS} : ev 106 63 [qR 44, qI x1, qI x2, qI x3, qI x4, qI x5] [qI y0, qI y1] σ = ev 106 66 [qR 44, qI x1, qI x2, qI x3, qI (q_or y1 y0), qI x5] [] σ :=
  Eq.trans (e_ior d_106_63) (e_istore d_106_64 (by decide) (Nat.le_of_ble_eq_true rfl) rfl)
theorem b106_66 {x1 x2 x3 x4 x5 : Int} {σ : SS} (h : -2147483648 ≤ (x5 + 1) ∧ (x5 + 1) ≤ 2147483647) : ev 106 66 [qR 44, qI x1, qI x2, qI x3, qI x4, qI x5] [] σ = ev 106 6 [qR 44, qI x1, qI x2, qI x3, qI x4, qI (x5 + 1)] [] σ :=
  Eq.trans (e_iinc d_106_66 (by decide) rfl h rfl) (e_goto d_106_69 (by decide))
theorem b106_72 {x1 x2 x3 x4 x5 : Int} {σ : SS} : ev 106 72 [qR 44, qI x1, qI x2, qI x3, qI x4, qI x5] [] σ = some (some (qI x4), σ) :=
  Eq.trans (e_iload d_106_72 rfl) (e_iret d_106_74 (q_okrI rfl))
theorem b2_0 {x1 : Int} {σ : SS} (h : 0 ≤ x1 ∧ x1 < 6) : ev 2 0 [qR 47, qI x1, qU, qU] [] σ = ev 2 9 [qR 47, qI x1, qI (σ 48 x1.toNat), qI 0] [] σ :=
  Eq.trans (e_aload_n d_2_0 rfl) (Eq.trans (e_getR d_2_1 fl_0_15 sh_47 rfl) (Eq.trans (e_iload_n d_2_4 rfl) (Eq.trans (e_iald d_2_5 sh_48 h) (Eq.trans (e_istore_n d_2_6 (by decide) (Nat.le_of_ble_eq_true rfl) rfl) (Eq.trans (e_iconst d_2_7 k_0) (e_istore_n d_2_8 (by decide) (Nat.le_of_ble_eq_true rfl) rfl))))))
theorem b2_9 {x1 x2 x3 : Int} {σ : SS} : ev 2 9 [qR 47, qI x1, qI x2, qI x3] [] σ = if x3 < 24 then ev 2 15 [qR 47, qI x1, qI x2, qI x3] [] σ else ev 2 38 [qR 47, qI x1, qI x2, qI x3] [] σ :=
  Eq.trans (e_iload_n d_2_9 rfl) (Eq.trans (e_bipush d_2_10 kb_24) (e_icmp_ge d_2_12 (by decide)))
theorem b2_15 {x1 x2 x3 : Int} {σ : SS} (h : 0 ≤ x1 ∧ x1 < 6) : ev 2 15 [qR 47, qI x1, qI x2, qI x3] [] σ = (ev 3 0 [qR 47, qU, qU, qU] [] (q_put σ 48 x1.toNat x3)).bind (fun x => ev 2 26 [qR 47, qI x1, qI x2, qI x3] (q_push x.1 []) x.2) :=
  Eq.trans (e_aload_n d_2_15 rfl) (Eq.trans (e_getR d_2_16 fl_0_15 sh_47 rfl) (Eq.trans (e_iload_n d_2_19 rfl) (Eq.trans (e_iload_n d_2_20 rfl) (Eq.trans (e_iast d_2_21 sh_48 h) (Eq.trans (e_aload_n d_2_22 rfl) (e_callV d_2_23 ml_0_42 fit_2_3 par_3 rfl rfl sh_47 (Nat.le_of_ble_eq_true rfl) (Nat.le_of_ble_eq_true rfl) (Nat.le_of_ble_eq_true rfl) rfl (by decide) rfl))))))
theorem b2_26 {x1 x2 x3 y0 : Int} {σ : SS} : ev 2 26 [qR 47, qI x1, qI x2, qI x3] [qI y0] σ = if y0 = x1 then ev 2 30 [qR 47, qI x1, qI x2, qI x3] [] σ else ev 2 32 [qR 47, qI x1, qI x2, qI x3] [] σ :=
  Eq.trans (e_iload_n d_2_26 rfl) (e_icmp_ne d_2_27 (by decide))
theorem b2_30 {x1 x2 x3 : Int} {σ : SS} : ev 2 30 [qR 47, qI x1, qI x2, qI x3] [] σ = some (some (qI 1), σ) :=
  Eq.trans (e_iconst d_2_30 k_1) (e_iret d_2_31 (q_okrZ rfl (by decide)))
theorem b2_32 {x1 x2 x3 : Int} {σ : SS} (h : -2147483648 ≤ (x3 + 1) ∧ (x3 + 1) ≤ 2147483647) : ev 2 32 [qR 47, qI x1, qI x2, qI x3] [] σ = ev 2 9 [qR 47, qI x1, qI x2, qI (x3 + 1)] [] σ :=
  Eq.trans (e_iinc d_2_32 (by decide) rfl h rfl) (e_goto d_2_35 (by decide))
theorem b2_38 {x1 x2 x3 : Int} {σ : SS} (h : 0 ≤ x1 ∧ x1 < 6) : ev 2 38 [qR 47, qI x1, qI x2, qI x3] [] σ = some (some (qI 0), (q_put σ 48 x1.toNat x2)) :=
  Eq.trans (e_aload_n d_2_38 rfl) (Eq.trans (e_getR d_2_39 fl_0_15 sh_47 rfl) (Eq.trans (e_iload_n d_2_42 rfl) (Eq.trans (e_iload_n d_2_43 rfl) (Eq.trans (e_iast d_2_44 sh_48 h) (Eq.trans (e_iconst d_2_45 k_0) (e_iret d_2_46 (q_okrZ rfl (by decide))))))))
theorem b107_0 {x1 x2 : Int} {σ : SS} : ev 107 0 [qR 44, qI x1, qI x2, qU, qU, qU] [] σ = (ev 610 0 [qR 12, qI x2] [] σ).bind (fun x => ev 107 8 [qR 44, qI x1, qI x2, qU, qU, qU] (q_push x.1 []) x.2) :=
  Eq.trans (e_aload_n d_107_0 rfl) (Eq.trans (e_getR d_107_1 fl_1_9 sh_44 rfl) (Eq.trans (e_iload_n d_107_4 rfl) (e_callV d_107_5 ml_1_45 fit_107_610 par_610 rfl rfl sh_12 (Nat.le_of_ble_eq_true rfl) (Nat.le_of_ble_eq_true rfl) (Nat.le_of_ble_eq_true rfl) rfl (by decide) rfl)))
theorem b107_8 {x1 x2 y0 : Int} {σ : SS} : ev 107 8 [qR 44, qI x1, qI x2, qU, qU, qU] [qI y0] σ = ev 107 15 [qR 44, qI x1, qI x2, qI y0, qI 0, qI 0] [] σ :=
  Eq.trans (e_istore_n d_107_8 (by decide) (Nat.le_of_ble_eq_true rfl) rfl) (Eq.trans (e_iconst d_107_9 k_0) (Eq.trans (e_istore d_107_10 (by decide) (Nat.le_of_ble_eq_true rfl) rfl) (Eq.trans (e_iconst d_107_12 k_0) (e_istore d_107_13 (by decide) (Nat.le_of_ble_eq_true rfl) rfl))))
theorem b107_15 {x1 x2 x3 x4 x5 : Int} {σ : SS} : ev 107 15 [qR 44, qI x1, qI x2, qI x3, qI x4, qI x5] [] σ = if x5 < (σ 12 8) then ev 107 27 [qR 44, qI x1, qI x2, qI x3, qI x4, qI x5] [] σ else ev 107 59 [qR 44, qI x1, qI x2, qI x3, qI x4, qI x5] [] σ :=
  Eq.trans (e_iload d_107_15 rfl) (Eq.trans (e_aload_n d_107_17 rfl) (Eq.trans (e_getR d_107_18 fl_1_9 sh_44 rfl) (Eq.trans (e_getI d_107_21 fl_1_35 sh_12 rfl) (e_icmp_ge d_107_24 (by decide)))))
theorem b107_27 {x1 x2 x3 x4 x5 : Int} {σ : SS} : ev 107 27 [qR 44, qI x1, qI x2, qI x3, qI x4, qI x5] [] σ = (ev 848 0 [qI x3, qI x5] [] σ).bind (fun x => ev 107 33 [qR 44, qI x1, qI x2, qI x3, qI x4, qI x5] (q_push x.1 []) x.2) :=
  Eq.trans (e_iload_n d_107_27 rfl) (Eq.trans (e_iload d_107_28 rfl) (e_callS d_107_30 (by decide) ml_1_52 fit_107_848 par_848 rfl rfl (Nat.le_of_ble_eq_true rfl) (Nat.le_of_ble_eq_true rfl) (Nat.le_of_ble_eq_true rfl) rfl (by decide) rfl))
theorem b107_33 {x1 x2 x3 x4 x5 y0 : Int} {σ : SS} : ev 107 33 [qR 44, qI x1, qI x2, qI x3, qI x4, qI x5] [qI y0] σ = if y0 = 0 then ev 107 53 [qR 44, qI x1, qI x2, qI x3, qI x4, qI x5] [] σ else ev 107 36 [qR 44, qI x1, qI x2, qI x3, qI x4, qI x5] [] σ :=
  e_if_eq d_107_33 (by decide)
theorem b107_36 {x1 x2 x3 x4 x5 : Int} {σ : SS} (h : (-2147483648 ≤ (x1 * 6) ∧ (x1 * 6) ≤ 2147483647) ∧ (-2147483648 ≤ ((x1 * 6) + x5) ∧ ((x1 * 6) + x5) ≤ 2147483647) ∧ (0 ≤ ((x1 * 6) + x5) ∧ ((x1 * 6) + x5) < 36)) : ev 107 36 [qR 44, qI x1, qI x2, qI x3, qI x4, qI x5] [] σ = ev 107 53 [qR 44, qI x1, qI x2, qI x3, qI (q_or x4 (σ 46 ((x1 * 6) + x5).toNat)), qI x5] [] σ :=
  Eq.trans (e_iload d_107_36 rfl) (Eq.trans (e_aload_n d_107_38 rfl) (Eq.trans (e_getR d_107_39 fl_1_19 sh_44 rfl) (Eq.trans (e_iload_n d_107_42 rfl) (Eq.trans (e_bipush d_107_43 kb_6) (Eq.trans (e_imul d_107_45 h.1) (Eq.trans (e_iload d_107_46 rfl) (Eq.trans (e_iadd d_107_48 h.2.1) (Eq.trans (e_iald d_107_49 sh_46 h.2.2) (Eq.trans (e_ior d_107_50) (e_istore d_107_51 (by decide) (Nat.le_of_ble_eq_true rfl) rfl))))))))))
theorem b107_53 {x1 x2 x3 x4 x5 : Int} {σ : SS} (h : -2147483648 ≤ (x5 + 1) ∧ (x5 + 1) ≤ 2147483647) : ev 107 53 [qR 44, qI x1, qI x2, qI x3, qI x4, qI x5] [] σ = ev 107 15 [qR 44, qI x1, qI x2, qI x3, qI x4, qI (x5 + 1)] [] σ :=
  Eq.trans (e_iinc d_107_53 (by decide) rfl h rfl) (e_goto d_107_56 (by decide))
theorem b107_59 {x1 x2 x3 x4 x5 : Int} {σ : SS} : ev 107 59 [qR 44, qI x1, qI x2, qI x3, qI x4, qI x5] [] σ = some (some (qI x4), σ) :=
  Eq.trans (e_iload d_107_59 rfl) (e_iret d_107_61 (q_okrI rfl))
