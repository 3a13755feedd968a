theorem d_601_0 : decode (mB 601) 0 = .ok (.aload_n 1, 1) := by decide +kernel
theorem d_601_1 : decode (mB 601) 1 = .ok (.getfield 9, 3) := by decide +kernel
theorem d_601_4 : decode (mB 601) 4 = .ok (.iconst 0, 1) := by decide +kernel
theorem d_601_5 : decode (mB 601) 5 = .ok (.aload_n 0, 1) := by decide +kernel
theorem d_601_6 : decode (mB 601) 6 = .ok (.getfield 9, 3) := by decide +kernel
theorem d_601_9 : decode (mB 601) 9 = .ok (.iconst 0, 1) := by decide +kernel
theorem d_601_10 : decode (mB 601) 10 = .ok (.bipush 6, 2) := by decide +kernel
theorem d_601_12 : decode (mB 601) 12 = .ok (.invokestatic 64, 3) := by decide +kernel
theorem d_601_15 : decode (mB 601) 15 = .ok (.aload_n 1, 1) := by decide +kernel
theorem d_601_16 : decode (mB 601) 16 = .ok (.getfield 15, 3) := by decide +kernel
theorem d_601_19 : decode (mB 601) 19 = .ok (.iconst 0, 1) := by decide +kernel
theorem d_601_20 : decode (mB 601) 20 = .ok (.aload_n 0, 1) := by decide +kernel
theorem d_601_21 : decode (mB 601) 21 = .ok (.getfield 15, 3) := by decide +kernel
theorem d_601_24 : decode (mB 601) 24 = .ok (.iconst 0, 1) := by decide +kernel
theorem d_601_25 : decode (mB 601) 25 = .ok (.bipush 6, 2) := by decide +kernel
theorem d_601_27 : decode (mB 601) 27 = .ok (.invokestatic 64, 3) := by decide +kernel
theorem d_601_30 : decode (mB 601) 30 = .ok (.aload_n 1, 1) := by decide +kernel
theorem d_601_31 : decode (mB 601) 31 = .ok (.getfield 18, 3) := by decide +kernel
theorem d_601_34 : decode (mB 601) 34 = .ok (.iconst 0, 1) := by decide +kernel
theorem d_601_35 : decode (mB 601) 35 = .ok (.aload_n 0, 1) := by decide +kernel
theorem d_601_36 : decode (mB 601) 36 = .ok (.getfield 18, 3) := by decide +kernel
theorem d_601_39 : decode (mB 601) 39 = .ok (.iconst 0, 1) := by decide +kernel
theorem d_601_40 : decode (mB 601) 40 = .ok (.bipush 6, 2) := by decide +kernel
theorem d_601_42 : decode (mB 601) 42 = .ok (.invokestatic 64, 3) := by decide +kernel
theorem d_601_45 : decode (mB 601) 45 = .ok (.aload_n 1, 1) := by decide +kernel
theorem d_601_46 : decode (mB 601) 46 = .ok (.getfield 21, 3) := by decide +kernel
theorem d_601_49 : decode (mB 601) 49 = .ok (.iconst 0, 1) := by decide +kernel
theorem d_601_50 : decode (mB 601) 50 = .ok (.aload_n 0, 1) := by decide +kernel
theorem d_601_51 : decode (mB 601) 51 = .ok (.getfield 21, 3) := by decide +kernel
theorem d_601_54 : decode (mB 601) 54 = .ok (.iconst 0, 1) := by decide +kernel
theorem d_601_55 : decode (mB 601) 55 = .ok (.bipush 6, 2) := by decide +kernel
theorem d_601_57 : decode (mB 601) 57 = .ok (.invokestatic 64, 3) := by decide +kernel
theorem d_601_60 : decode (mB 601) 60 = .ok (.aload_n 1, 1) := by decide +kernel
theorem d_601_61 : decode (mB 601) 61 = .ok (.getfield 24, 3) := by decide +kernel
theorem d_601_64 : decode (mB 601) 64 = .ok (.iconst 0, 1) := by decide +kernel
theorem d_601_65 : decode (mB 601) 65 = .ok (.aload_n 0, 1) := by decide +kernel
theorem d_601_66 : decode (mB 601) 66 = .ok (.getfield 24, 3) := by decide +kernel
theorem d_601_69 : decode (mB 601) 69 = .ok (.iconst 0, 1) := by decide +kernel
theorem d_601_70 : decode (mB 601) 70 = .ok (.bipush 6, 2) := by decide +kernel
theorem d_601_72 : decode (mB 601) 72 = .ok (.invokestatic 64, 3) := by decide +kernel
theorem d_601_75 : decode (mB 601) 75 = .ok (.aload_n 1, 1) := by decide +kernel
theorem d_601_76 : decode (mB 601) 76 = .ok (.getfield 27, 3) := by decide +kernel
theorem d_601_79 : decode (mB 601) 79 = .ok (.iconst 0, 1) := by decide +kernel
theorem d_601_80 : decode (mB 601) 80 = .ok (.aload_n 0, 1) := by decide +kernel
theorem d_601_81 : decode (mB 601) 81 = .ok (.getfield 27, 3) := by decide +kernel
theorem d_601_84 : decode (mB 601) 84 = .ok (.iconst 0, 1) := by decide +kernel
theorem d_601_85 : decode (mB 601) 85 = .ok (.bipush 6, 2) := by decide +kernel
theorem d_601_87 : decode (mB 601) 87 = .ok (.invokestatic 64, 3) := by decide +kernel
theorem d_601_90 : decode (mB 601) 90 = .ok (.aload_n 1, 1) := by decide +kernel
theorem d_601_91 : decode (mB 601) 91 = .ok (.getfield 30, 3) := by decide +kernel
theorem d_601_94 : decode (mB 601) 94 = .ok (.iconst 0, 1) := by decide +kernel
theorem d_601_95 : decode (mB 601) 95 = .ok (.aload_n 0, 1) := by decide +kernel
theorem d_601_96 : decode (mB 601) 96 = .ok (.getfield 30, 3) := by decide +kernel
theorem d_601_99 : decode (mB 601) 99 = .ok (.iconst 0, 1) := by decide +kernel
theorem d_601_100 : decode (mB 601) 100 = .ok (.bipush 36, 2) := by decide +kernel
theorem d_601_102 : decode (mB 601) 102 = .ok (.invokestatic 64, 3) := by decide +kernel
theorem d_601_105 : decode (mB 601) 105 = .ok (.aload_n 1, 1) := by decide +kernel
theorem d_601_106 : decode (mB 601) 106 = .ok (.getfield 33, 3) := by decide +kernel
theorem d_601_109 : decode (mB 601) 109 = .ok (.iconst 0, 1) := by decide +kernel
theorem d_601_110 : decode (mB 601) 110 = .ok (.aload_n 0, 1) := by decide +kernel
theorem d_601_111 : decode (mB 601) 111 = .ok (.getfield 33, 3) := by decide +kernel
theorem d_601_114 : decode (mB 601) 114 = .ok (.iconst 0, 1) := by decide +kernel
theorem d_601_115 : decode (mB 601) 115 = .ok (.bipush 6, 2) := by decide +kernel
theorem d_601_117 : decode (mB 601) 117 = .ok (.invokestatic 64, 3) := by decide +kernel
theorem d_601_120 : decode (mB 601) 120 = .ok (.aload_n 0, 1) := by decide +kernel
theorem d_601_121 : decode (mB 601) 121 = .ok (.aload_n 1, 1) := by decide +kernel
theorem d_601_122 : decode (mB 601) 122 = .ok (.getfield 39, 3) := by decide +kernel
theorem d_601_125 : decode (mB 601) 125 = .ok (.putfield 39, 3) := by decide +kernel
theorem d_601_128 : decode (mB 601) 128 = .ok (.aload_n 0, 1) := by decide +kernel
theorem d_601_129 : decode (mB 601) 129 = .ok (.aload_n 1, 1) := by decide +kernel
theorem d_601_130 : decode (mB 601) 130 = .ok (.getfield 43, 3) := by decide +kernel
theorem d_601_133 : decode (mB 601) 133 = .ok (.putfield 43, 3) := by decide +kernel
theorem d_601_136 : decode (mB 601) 136 = .ok (.aload_n 0, 1) := by decide +kernel
theorem d_601_137 : decode (mB 601) 137 = .ok (.aload_n 1, 1) := by decide +kernel
theorem d_601_138 : decode (mB 601) 138 = .ok (.getfield 46, 3) := by decide +kernel
theorem d_601_141 : decode (mB 601) 141 = .ok (.putfield 46, 3) := by decide +kernel
theorem d_601_144 : decode (mB 601) 144 = .ok (.aload_n 0, 1) := by decide +kernel
theorem d_601_145 : decode (mB 601) 145 = .ok (.aload_n 1, 1) := by decide +kernel
theorem d_601_146 : decode (mB 601) 146 = .ok (.getfield 49, 3) := by decide +kernel
theorem d_601_149 : decode (mB 601) 149 = .ok (.putfield 49, 3) := by decide +kernel
theorem d_601_152 : decode (mB 601) 152 = .ok (.aload_n 0, 1) := by decide +kernel
theorem d_601_153 : decode (mB 601) 153 = .ok (.aload_n 1, 1) := by decide +kernel
theorem d_601_154 : decode (mB 601) 154 = .ok (.getfield 52, 3) := by decide +kernel
theorem d_601_157 : decode (mB 601) 157 = .ok (.putfield 52, 3) := by decide +kernel
theorem d_601_160 : decode (mB 601) 160 = .ok (.aload_n 0, 1) := by decide +kernel
theorem d_601_161 : decode (mB 601) 161 = .ok (.aload_n 1, 1) := by decide +kernel
theorem d_601_162 : decode (mB 601) 162 = .ok (.getfield 55, 3) := by decide +kernel
theorem d_601_165 : decode (mB 601) 165 = .ok (.putfield 55, 3) := by decide +kernel
theorem d_601_168 : decode (mB 601) 168 = .ok (.aload_n 0, 1) := by decide +kernel
theorem d_601_169 : decode (mB 601) 169 = .ok (.aload_n 1, 1) := by decide +kernel
theorem d_601_170 : decode (mB 601) 170 = .ok (.getfield 58, 3) := by decide +kernel
theorem d_601_173 : decode (mB 601) 173 = .ok (.putfield 58, 3) := by decide +kernel
theorem d_601_176 : decode (mB 601) 176 = .ok (.aload_n 0, 1) := by decide +kernel
theorem d_601_177 : decode (mB 601) 177 = .ok (.aload_n 1, 1) := by decide +kernel
theorem d_601_178 : decode (mB 601) 178 = .ok (.getfield 61, 3) := by decide +kernel
theorem d_601_181 : decode (mB 601) 181 = .ok (.putfield 61, 3) := by decide +kernel
theorem d_601_184 : decode (mB 601) 184 = .ok (.return_, 1) := by decide +kernel
theorem d_300_0 : decode (mB 300) 0 = .ok (.iconst 0, 1) := by decide +kernel
theorem d_300_1 : decode (mB 300) 1 = .ok (.istore_n 2, 1) := by decide +kernel
theorem d_300_2 : decode (mB 300) 2 = .ok (.iload_n 2, 1) := by decide +kernel
theorem d_300_3 : decode (mB 300) 3 = .ok (.bipush 6, 2) := by decide +kernel
theorem d_300_5 : decode (mB 300) 5 = .ok (.if_icmp .ge 37, 3) := by decide +kernel
theorem d_300_8 : decode (mB 300) 8 = .ok (.aload_n 0, 1) := by decide +kernel
theorem d_300_9 : decode (mB 300) 9 = .ok (.getfield 9, 3) := by decide +kernel
theorem d_300_12 : decode (mB 300) 12 = .ok (.iload_n 2, 1) := by decide +kernel
theorem d_300_13 : decode (mB 300) 13 = .ok (.aload_n 1, 1) := by decide +kernel
theorem d_300_14 : decode (mB 300) 14 = .ok (.getfield 21, 3) := by decide +kernel
theorem d_300_17 : decode (mB 300) 17 = .ok (.iload_n 2, 1) := by decide +kernel
theorem d_300_18 : decode (mB 300) 18 = .ok (.iaload, 1) := by decide +kernel
theorem d_300_19 : decode (mB 300) 19 = .ok (.iastore, 1) := by decide +kernel
theorem d_300_20 : decode (mB 300) 20 = .ok (.aload_n 0, 1) := by decide +kernel
theorem d_300_21 : decode (mB 300) 21 = .ok (.getfield 15, 3) := by decide +kernel
theorem d_300_24 : decode (mB 300) 24 = .ok (.iload_n 2, 1) := by decide +kernel
theorem d_300_25 : decode (mB 300) 25 = .ok (.iconst 0, 1) := by decide +kernel
theorem d_300_26 : decode (mB 300) 26 = .ok (.iastore, 1) := by decide +kernel
theorem d_300_27 : decode (mB 300) 27 = .ok (.aload_n 0, 1) := by decide +kernel
theorem d_300_28 : decode (mB 300) 28 = .ok (.getfield 18, 3) := by decide +kernel
theorem d_300_31 : decode (mB 300) 31 = .ok (.iload_n 2, 1) := by decide +kernel
theorem d_300_32 : decode (mB 300) 32 = .ok (.sipush (-1000), 3) := by decide +kernel
theorem d_300_35 : decode (mB 300) 35 = .ok (.iastore, 1) := by decide +kernel
theorem d_300_36 : decode (mB 300) 36 = .ok (.iinc 2 1, 3) := by decide +kernel
theorem d_300_39 : decode (mB 300) 39 = .ok (.goto (-37), 3) := by decide +kernel
theorem d_300_42 : decode (mB 300) 42 = .ok (.aload_n 0, 1) := by decide +kernel
theorem d_300_43 : decode (mB 300) 43 = .ok (.iconst 0, 1) := by decide +kernel
theorem d_300_44 : decode (mB 300) 44 = .ok (.putfield 24, 3) := by decide +kernel
theorem d_300_47 : decode (mB 300) 47 = .ok (.aload_n 0, 1) := by decide +kernel
theorem d_300_48 : decode (mB 300) 48 = .ok (.iconst 0, 1) := by decide +kernel
theorem d_300_49 : decode (mB 300) 49 = .ok (.putfield 28, 3) := by decide +kernel
theorem d_300_52 : decode (mB 300) 52 = .ok (.aload_n 0, 1) := by decide +kernel
theorem d_300_53 : decode (mB 300) 53 = .ok (.iconst 0, 1) := by decide +kernel
theorem d_300_54 : decode (mB 300) 54 = .ok (.putfield 31, 3) := by decide +kernel
theorem d_300_57 : decode (mB 300) 57 = .ok (.aload_n 0, 1) := by decide +kernel
theorem d_300_58 : decode (mB 300) 58 = .ok (.iconst 0, 1) := by decide +kernel
theorem d_300_59 : decode (mB 300) 59 = .ok (.putfield 34, 3) := by decide +kernel
theorem d_300_62 : decode (mB 300) 62 = .ok (.aload_n 0, 1) := by decide +kernel
theorem d_300_63 : decode (mB 300) 63 = .ok (.iconst 0, 1) := by decide +kernel
theorem d_300_64 : decode (mB 300) 64 = .ok (.putfield 38, 3) := by decide +kernel
theorem d_300_67 : decode (mB 300) 67 = .ok (.return_, 1) := by decide +kernel
theorem d_602_0 : decode (mB 602) 0 = .ok (.iload_n 1, 1) := by decide +kernel
theorem d_602_1 : decode (mB 602) 1 = .ok (.ifCond .lt 21, 3) := by decide +kernel
theorem d_602_4 : decode (mB 602) 4 = .ok (.iload_n 1, 1) := by decide +kernel
theorem d_602_5 : decode (mB 602) 5 = .ok (.aload_n 0, 1) := by decide +kernel
theorem d_602_6 : decode (mB 602) 6 = .ok (.getfield 39, 3) := by decide +kernel
theorem d_602_9 : decode (mB 602) 9 = .ok (.if_icmp .ge 13, 3) := by decide +kernel
theorem d_602_12 : decode (mB 602) 12 = .ok (.iload_n 1, 1) := by decide +kernel
theorem d_602_13 : decode (mB 602) 13 = .ok (.bipush 6, 2) := by decide +kernel
theorem d_602_15 : decode (mB 602) 15 = .ok (.if_icmp .ge 7, 3) := by decide +kernel
theorem d_602_18 : decode (mB 602) 18 = .ok (.iconst 1, 1) := by decide +kernel
theorem d_602_19 : decode (mB 602) 19 = .ok (.goto 4, 3) := by decide +kernel
theorem d_602_22 : decode (mB 602) 22 = .ok (.iconst 0, 1) := by decide +kernel
theorem d_602_23 : decode (mB 602) 23 = .ok (.ireturn, 1) := by decide +kernel
theorem d_603_0 : decode (mB 603) 0 = .ok (.iload_n 1, 1) := by decide +kernel
theorem d_603_1 : decode (mB 603) 1 = .ok (.ifCond .lt 21, 3) := by decide +kernel
theorem d_603_4 : decode (mB 603) 4 = .ok (.iload_n 1, 1) := by decide +kernel
theorem d_603_5 : decode (mB 603) 5 = .ok (.aload_n 0, 1) := by decide +kernel
theorem d_603_6 : decode (mB 603) 6 = .ok (.getfield 46, 3) := by decide +kernel
theorem d_603_9 : decode (mB 603) 9 = .ok (.if_icmp .ge 13, 3) := by decide +kernel
theorem d_603_12 : decode (mB 603) 12 = .ok (.iload_n 1, 1) := by decide +kernel
theorem d_603_13 : decode (mB 603) 13 = .ok (.bipush 6, 2) := by decide +kernel
theorem d_603_15 : decode (mB 603) 15 = .ok (.if_icmp .ge 7, 3) := by decide +kernel
theorem d_603_18 : decode (mB 603) 18 = .ok (.iconst 1, 1) := by decide +kernel
theorem d_603_19 : decode (mB 603) 19 = .ok (.goto 4, 3) := by decide +kernel
theorem d_603_22 : decode (mB 603) 22 = .ok (.iconst 0, 1) := by decide +kernel
theorem d_603_23 : decode (mB 603) 23 = .ok (.ireturn, 1) := by decide +kernel
theorem d_609_0 : decode (mB 609) 0 = .ok (.aload_n 0, 1) := by decide +kernel
theorem d_609_1 : decode (mB 609) 1 = .ok (.iload_n 1, 1) := by decide +kernel
theorem d_609_2 : decode (mB 609) 2 = .ok (.invokevirtual 70, 3) := by decide +kernel
theorem d_609_5 : decode (mB 609) 5 = .ok (.ifCond .eq 12, 3) := by decide +kernel
theorem d_609_8 : decode (mB 609) 8 = .ok (.aload_n 0, 1) := by decide +kernel
theorem d_609_9 : decode (mB 609) 9 = .ok (.getfield 15, 3) := by decide +kernel
theorem d_609_12 : decode (mB 609) 12 = .ok (.iload_n 1, 1) := by decide +kernel
theorem d_609_13 : decode (mB 609) 13 = .ok (.iaload, 1) := by decide +kernel
theorem d_609_14 : decode (mB 609) 14 = .ok (.goto 4, 3) := by decide +kernel
theorem d_609_17 : decode (mB 609) 17 = .ok (.iconst 0, 1) := by decide +kernel
theorem d_609_18 : decode (mB 609) 18 = .ok (.ireturn, 1) := by decide +kernel
theorem d_613_0 : decode (mB 613) 0 = .ok (.iload_n 1, 1) := by decide +kernel
theorem d_613_1 : decode (mB 613) 1 = .ok (.iload_n 2, 1) := by decide +kernel
theorem d_613_2 : decode (mB 613) 2 = .ok (.if_icmp .gt 17, 3) := by decide +kernel
theorem d_613_5 : decode (mB 613) 5 = .ok (.iload_n 2, 1) := by decide +kernel
theorem d_613_6 : decode (mB 613) 6 = .ok (.iload_n 1, 1) := by decide +kernel
theorem d_613_7 : decode (mB 613) 7 = .ok (.isub, 1) := by decide +kernel
theorem d_613_8 : decode (mB 613) 8 = .ok (.aload_n 0, 1) := by decide +kernel
theorem d_613_9 : decode (mB 613) 9 = .ok (.getfield 52, 3) := by decide +kernel
theorem d_613_12 : decode (mB 613) 12 = .ok (.if_icmp .gt 7, 3) := by decide +kernel
theorem d_613_15 : decode (mB 613) 15 = .ok (.iconst 1, 1) := by decide +kernel
theorem d_613_16 : decode (mB 613) 16 = .ok (.goto 4, 3) := by decide +kernel
theorem d_613_19 : decode (mB 613) 19 = .ok (.iconst 0, 1) := by decide +kernel
theorem d_613_20 : decode (mB 613) 20 = .ok (.ireturn, 1) := by decide +kernel
theorem d_301_0 : decode (mB 301) 0 = .ok (.aload_n 1, 1) := by decide +kernel
theorem d_301_1 : decode (mB 301) 1 = .ok (.getfield 9, 3) := by decide +kernel
theorem d_301_4 : decode (mB 301) 4 = .ok (.iconst 0, 1) := by decide +kernel
theorem d_301_5 : decode (mB 301) 5 = .ok (.aload_n 0, 1) := by decide +kernel
theorem d_301_6 : decode (mB 301) 6 = .ok (.getfield 9, 3) := by decide +kernel
theorem d_301_9 : decode (mB 301) 9 = .ok (.iconst 0, 1) := by decide +kernel
theorem d_301_10 : decode (mB 301) 10 = .ok (.bipush 6, 2) := by decide +kernel
theorem d_301_12 : decode (mB 301) 12 = .ok (.invokestatic 41, 3) := by decide +kernel
theorem d_301_15 : decode (mB 301) 15 = .ok (.aload_n 1, 1) := by decide +kernel
theorem d_301_16 : decode (mB 301) 16 = .ok (.getfield 15, 3) := by decide +kernel
theorem d_301_19 : decode (mB 301) 19 = .ok (.iconst 0, 1) := by decide +kernel
theorem d_301_20 : decode (mB 301) 20 = .ok (.aload_n 0, 1) := by decide +kernel
theorem d_301_21 : decode (mB 301) 21 = .ok (.getfield 15, 3) := by decide +kernel
theorem d_301_24 : decode (mB 301) 24 = .ok (.iconst 0, 1) := by decide +kernel
theorem d_301_25 : decode (mB 301) 25 = .ok (.bipush 6, 2) := by decide +kernel
theorem d_301_27 : decode (mB 301) 27 = .ok (.invokestatic 41, 3) := by decide +kernel
theorem d_301_30 : decode (mB 301) 30 = .ok (.aload_n 1, 1) := by decide +kernel
theorem d_301_31 : decode (mB 301) 31 = .ok (.getfield 18, 3) := by decide +kernel
theorem d_301_34 : decode (mB 301) 34 = .ok (.iconst 0, 1) := by decide +kernel
theorem d_301_35 : decode (mB 301) 35 = .ok (.aload_n 0, 1) := by decide +kernel
theorem d_301_36 : decode (mB 301) 36 = .ok (.getfield 18, 3) := by decide +kernel
theorem d_301_39 : decode (mB 301) 39 = .ok (.iconst 0, 1) := by decide +kernel
theorem d_301_40 : decode (mB 301) 40 = .ok (.bipush 6, 2) := by decide +kernel
theorem d_301_42 : decode (mB 301) 42 = .ok (.invokestatic 41, 3) := by decide +kernel
theorem d_301_45 : decode (mB 301) 45 = .ok (.aload_n 0, 1) := by decide +kernel
theorem d_301_46 : decode (mB 301) 46 = .ok (.aload_n 1, 1) := by decide +kernel
theorem d_301_47 : decode (mB 301) 47 = .ok (.getfield 24, 3) := by decide +kernel
theorem d_301_50 : decode (mB 301) 50 = .ok (.putfield 24, 3) := by decide +kernel
theorem d_301_53 : decode (mB 301) 53 = .ok (.aload_n 0, 1) := by decide +kernel
theorem d_301_54 : decode (mB 301) 54 = .ok (.aload_n 1, 1) := by decide +kernel
theorem d_301_55 : decode (mB 301) 55 = .ok (.getfield 28, 3) := by decide +kernel
theorem d_301_58 : decode (mB 301) 58 = .ok (.putfield 28, 3) := by decide +kernel
theorem d_301_61 : decode (mB 301) 61 = .ok (.aload_n 0, 1) := by decide +kernel
theorem d_301_62 : decode (mB 301) 62 = .ok (.aload_n 1, 1) := by decide +kernel
theorem d_301_63 : decode (mB 301) 63 = .ok (.getfield 31, 3) := by decide +kernel
theorem d_301_66 : decode (mB 301) 66 = .ok (.putfield 31, 3) := by decide +kernel
theorem d_301_69 : decode (mB 301) 69 = .ok (.aload_n 0, 1) := by decide +kernel
theorem d_301_70 : decode (mB 301) 70 = .ok (.aload_n 1, 1) := by decide +kernel
theorem d_301_71 : decode (mB 301) 71 = .ok (.getfield 34, 3) := by decide +kernel
theorem d_301_74 : decode (mB 301) 74 = .ok (.putfield 34, 3) := by decide +kernel
theorem d_301_77 : decode (mB 301) 77 = .ok (.aload_n 0, 1) := by decide +kernel
theorem d_301_78 : decode (mB 301) 78 = .ok (.aload_n 1, 1) := by decide +kernel
theorem d_301_79 : decode (mB 301) 79 = .ok (.getfield 38, 3) := by decide +kernel
theorem d_301_82 : decode (mB 301) 82 = .ok (.putfield 38, 3) := by decide +kernel
theorem d_301_85 : decode (mB 301) 85 = .ok (.aload_n 0, 1) := by decide +kernel
theorem d_301_86 : decode (mB 301) 86 = .ok (.aload_n 1, 1) := by decide +kernel
theorem d_301_87 : decode (mB 301) 87 = .ok (.getfield 47, 3) := by decide +kernel
theorem d_301_90 : decode (mB 301) 90 = .ok (.putfield 47, 3) := by decide +kernel
theorem d_301_93 : decode (mB 301) 93 = .ok (.return_, 1) := by decide +kernel
theorem d_600_0 : decode (mB 600) 0 = .ok (.aload_n 0, 1) := by decide +kernel
theorem d_600_1 : decode (mB 600) 1 = .ok (.iconst 0, 1) := by decide +kernel
theorem d_600_2 : decode (mB 600) 2 = .ok (.putfield 39, 3) := by decide +kernel
theorem d_600_5 : decode (mB 600) 5 = .ok (.aload_n 0, 1) := by decide +kernel
theorem d_600_6 : decode (mB 600) 6 = .ok (.iconst 0, 1) := by decide +kernel
theorem d_600_7 : decode (mB 600) 7 = .ok (.putfield 43, 3) := by decide +kernel
theorem d_600_10 : decode (mB 600) 10 = .ok (.aload_n 0, 1) := by decide +kernel
theorem d_600_11 : decode (mB 600) 11 = .ok (.iconst 0, 1) := by decide +kernel
theorem d_600_12 : decode (mB 600) 12 = .ok (.putfield 46, 3) := by decide +kernel
theorem d_600_15 : decode (mB 600) 15 = .ok (.aload_n 0, 1) := by decide +kernel
theorem d_600_16 : decode (mB 600) 16 = .ok (.bipush 30, 2) := by decide +kernel
theorem d_600_18 : decode (mB 600) 18 = .ok (.putfield 49, 3) := by decide +kernel
theorem d_600_21 : decode (mB 600) 21 = .ok (.aload_n 0, 1) := by decide +kernel
theorem d_600_22 : decode (mB 600) 22 = .ok (.iconst 1, 1) := by decide +kernel
theorem d_600_23 : decode (mB 600) 23 = .ok (.putfield 52, 3) := by decide +kernel
theorem d_600_26 : decode (mB 600) 26 = .ok (.aload_n 0, 1) := by decide +kernel
theorem d_600_27 : decode (mB 600) 27 = .ok (.iconst 0, 1) := by decide +kernel
theorem d_600_28 : decode (mB 600) 28 = .ok (.putfield 55, 3) := by decide +kernel
theorem d_600_31 : decode (mB 600) 31 = .ok (.aload_n 0, 1) := by decide +kernel
theorem d_600_32 : decode (mB 600) 32 = .ok (.bipush 12, 2) := by decide +kernel
theorem d_600_34 : decode (mB 600) 34 = .ok (.putfield 58, 3) := by decide +kernel
theorem d_600_37 : decode (mB 600) 37 = .ok (.aload_n 0, 1) := by decide +kernel
theorem d_600_38 : decode (mB 600) 38 = .ok (.iconst 0, 1) := by decide +kernel
theorem d_600_39 : decode (mB 600) 39 = .ok (.putfield 61, 3) := by decide +kernel
theorem d_600_42 : decode (mB 600) 42 = .ok (.return_, 1) := by decide +kernel
theorem d_302_0 : decode (mB 302) 0 = .ok (.aload_n 0, 1) := by decide +kernel
theorem d_302_1 : decode (mB 302) 1 = .ok (.aload_n 0, 1) := by decide +kernel
theorem d_302_2 : decode (mB 302) 2 = .ok (.getfield 47, 3) := by decide +kernel
theorem d_302_5 : decode (mB 302) 5 = .ok (.i2l, 1) := by decide +kernel
theorem d_302_6 : decode (mB 302) 6 = .ok (.ldc2_w 50, 3) := by decide +kernel
theorem d_302_9 : decode (mB 302) 9 = .ok (.lmul, 1) := by decide +kernel
theorem d_302_10 : decode (mB 302) 10 = .ok (.ldc2_w 52, 3) := by decide +kernel
theorem d_302_13 : decode (mB 302) 13 = .ok (.ladd, 1) := by decide +kernel
theorem d_302_14 : decode (mB 302) 14 = .ok (.ldc2_w 54, 3) := by decide +kernel
theorem d_302_17 : decode (mB 302) 17 = .ok (.land, 1) := by decide +kernel
theorem d_302_18 : decode (mB 302) 18 = .ok (.l2i, 1) := by decide +kernel
theorem d_302_19 : decode (mB 302) 19 = .ok (.putfield 47, 3) := by decide +kernel
theorem d_302_22 : decode (mB 302) 22 = .ok (.iload_n 1, 1) := by decide +kernel
theorem d_302_23 : decode (mB 302) 23 = .ok (.iconst 1, 1) := by decide +kernel
theorem d_302_24 : decode (mB 302) 24 = .ok (.if_icmp .ge 7, 3) := by decide +kernel
theorem d_302_27 : decode (mB 302) 27 = .ok (.iconst 0, 1) := by decide +kernel
theorem d_302_28 : decode (mB 302) 28 = .ok (.goto 12, 3) := by decide +kernel
theorem d_302_31 : decode (mB 302) 31 = .ok (.aload_n 0, 1) := by decide +kernel
theorem d_302_32 : decode (mB 302) 32 = .ok (.getfield 47, 3) := by decide +kernel
theorem d_302_35 : decode (mB 302) 35 = .ok (.ldc 56, 2) := by decide +kernel
theorem d_302_37 : decode (mB 302) 37 = .ok (.idiv, 1) := by decide +kernel
theorem d_302_38 : decode (mB 302) 38 = .ok (.iload_n 1, 1) := by decide +kernel
theorem d_302_39 : decode (mB 302) 39 = .ok (.irem, 1) := by decide +kernel
theorem d_302_40 : decode (mB 302) 40 = .ok (.ireturn, 1) := by decide +kernel
theorem d_612_0 : decode (mB 612) 0 = .ok (.aload_n 0, 1) := by decide +kernel
theorem d_612_1 : decode (mB 612) 1 = .ok (.getfield 55, 3) := by decide +kernel
theorem d_612_4 : decode (mB 612) 4 = .ok (.iconst 1, 1) := by decide +kernel
theorem d_612_5 : decode (mB 612) 5 = .ok (.if_icmp .ge 10, 3) := by decide +kernel
theorem d_612_8 : decode (mB 612) 8 = .ok (.aload_n 0, 1) := by decide +kernel
theorem d_612_9 : decode (mB 612) 9 = .ok (.getfield 49, 3) := by decide +kernel
theorem d_612_12 : decode (mB 612) 12 = .ok (.goto 14, 3) := by decide +kernel
theorem d_612_15 : decode (mB 612) 15 = .ok (.aload_n 0, 1) := by decide +kernel
theorem d_612_16 : decode (mB 612) 16 = .ok (.getfield 49, 3) := by decide +kernel
theorem d_612_19 : decode (mB 612) 19 = .ok (.iload_n 1, 1) := by decide +kernel
theorem d_612_20 : decode (mB 612) 20 = .ok (.aload_n 0, 1) := by decide +kernel
theorem d_612_21 : decode (mB 612) 21 = .ok (.getfield 55, 3) := by decide +kernel
theorem d_612_24 : decode (mB 612) 24 = .ok (.idiv, 1) := by decide +kernel
theorem d_612_25 : decode (mB 612) 25 = .ok (.iadd, 1) := by decide +kernel
theorem d_612_26 : decode (mB 612) 26 = .ok (.ireturn, 1) := by decide +kernel
theorem d_610_0 : decode (mB 610) 0 = .ok (.aload_n 0, 1) := by decide +kernel
theorem d_610_1 : decode (mB 610) 1 = .ok (.iload_n 1, 1) := by decide +kernel
theorem d_610_2 : decode (mB 610) 2 = .ok (.invokevirtual 70, 3) := by decide +kernel
theorem d_610_5 : decode (mB 610) 5 = .ok (.ifCond .eq 16, 3) := by decide +kernel
theorem d_610_8 : decode (mB 610) 8 = .ok (.aload_n 0, 1) := by decide +kernel
theorem d_610_9 : decode (mB 610) 9 = .ok (.getfield 15, 3) := by decide +kernel
theorem d_610_12 : decode (mB 610) 12 = .ok (.iload_n 1, 1) := by decide +kernel
theorem d_610_13 : decode (mB 610) 13 = .ok (.iaload, 1) := by decide +kernel
theorem d_610_14 : decode (mB 610) 14 = .ok (.iconst 1, 1) := by decide +kernel
theorem d_610_15 : decode (mB 610) 15 = .ok (.iload_n 1, 1) := by decide +kernel
theorem d_610_16 : decode (mB 610) 16 = .ok (.ishl, 1) := by decide +kernel
theorem d_610_17 : decode (mB 610) 17 = .ok (.ior, 1) := by decide +kernel
theorem d_610_18 : decode (mB 610) 18 = .ok (.goto 4, 3) := by decide +kernel
theorem d_610_21 : decode (mB 610) 21 = .ok (.iconst 0, 1) := by decide +kernel
theorem d_610_22 : decode (mB 610) 22 = .ok (.ireturn, 1) := by decide +kernel
theorem d_611_0 : decode (mB 611) 0 = .ok (.iload_n 1, 1) := by decide +kernel
theorem d_611_1 : decode (mB 611) 1 = .ok (.bipush 24, 2) := by decide +kernel
theorem d_611_3 : decode (mB 611) 3 = .ok (.invokestatic 77, 3) := by decide +kernel
theorem d_611_6 : decode (mB 611) 6 = .ok (.aload_n 0, 1) := by decide +kernel
theorem d_611_7 : decode (mB 611) 7 = .ok (.getfield 58, 3) := by decide +kernel
theorem d_611_10 : decode (mB 611) 10 = .ok (.if_icmp .lt 7, 3) := by decide +kernel
theorem d_611_13 : decode (mB 611) 13 = .ok (.iconst 1, 1) := by decide +kernel
theorem d_611_14 : decode (mB 611) 14 = .ok (.goto 4, 3) := by decide +kernel
theorem d_611_17 : decode (mB 611) 17 = .ok (.iconst 0, 1) := by decide +kernel
theorem d_611_18 : decode (mB 611) 18 = .ok (.ireturn, 1) := by decide +kernel
theorem d_608_0 : decode (mB 608) 0 = .ok (.aload_n 0, 1) := by decide +kernel
theorem d_608_1 : decode (mB 608) 1 = .ok (.iload_n 1, 1) := by decide +kernel
theorem d_608_2 : decode (mB 608) 2 = .ok (.invokevirtual 74, 3) := by decide +kernel
theorem d_608_5 : decode (mB 608) 5 = .ok (.ifCond .eq 28, 3) := by decide +kernel
theorem d_608_8 : decode (mB 608) 8 = .ok (.iload_n 2, 1) := by decide +kernel
theorem d_608_9 : decode (mB 608) 9 = .ok (.ifCond .lt 24, 3) := by decide +kernel
theorem d_608_12 : decode (mB 608) 12 = .ok (.aload_n 0, 1) := by decide +kernel
theorem d_608_13 : decode (mB 608) 13 = .ok (.getfield 33, 3) := by decide +kernel
theorem d_608_16 : decode (mB 608) 16 = .ok (.iload_n 1, 1) := by decide +kernel
theorem d_608_17 : decode (mB 608) 17 = .ok (.iaload, 1) := by decide +kernel
theorem d_608_18 : decode (mB 608) 18 = .ok (.iconst 1, 1) := by decide +kernel
theorem d_608_19 : decode (mB 608) 19 = .ok (.if_icmp .lt 14, 3) := by decide +kernel
theorem d_608_22 : decode (mB 608) 22 = .ok (.aload_n 0, 1) := by decide +kernel
theorem d_608_23 : decode (mB 608) 23 = .ok (.getfield 33, 3) := by decide +kernel
theorem d_608_26 : decode (mB 608) 26 = .ok (.iload_n 1, 1) := by decide +kernel
theorem d_608_27 : decode (mB 608) 27 = .ok (.iaload, 1) := by decide +kernel
theorem d_608_28 : decode (mB 608) 28 = .ok (.bipush 6, 2) := by decide +kernel
theorem d_608_30 : decode (mB 608) 30 = .ok (.if_icmp .le 5, 3) := by decide +kernel
theorem d_608_33 : decode (mB 608) 33 = .ok (.iconst (-1), 1) := by decide +kernel
theorem d_608_34 : decode (mB 608) 34 = .ok (.ireturn, 1) := by decide +kernel
theorem d_608_35 : decode (mB 608) 35 = .ok (.aload_n 0, 1) := by decide +kernel
theorem d_608_36 : decode (mB 608) 36 = .ok (.getfield 30, 3) := by decide +kernel
theorem d_608_39 : decode (mB 608) 39 = .ok (.iload_n 1, 1) := by decide +kernel
theorem d_608_40 : decode (mB 608) 40 = .ok (.bipush 6, 2) := by decide +kernel
theorem d_608_42 : decode (mB 608) 42 = .ok (.imul, 1) := by decide +kernel
theorem d_608_43 : decode (mB 608) 43 = .ok (.iload_n 2, 1) := by decide +kernel
theorem d_608_44 : decode (mB 608) 44 = .ok (.aload_n 0, 1) := by decide +kernel
theorem d_608_45 : decode (mB 608) 45 = .ok (.getfield 33, 3) := by decide +kernel
theorem d_608_48 : decode (mB 608) 48 = .ok (.iload_n 1, 1) := by decide +kernel
theorem d_608_49 : decode (mB 608) 49 = .ok (.iaload, 1) := by decide +kernel
theorem d_608_50 : decode (mB 608) 50 = .ok (.irem, 1) := by decide +kernel
theorem d_608_51 : decode (mB 608) 51 = .ok (.iadd, 1) := by decide +kernel
theorem d_608_52 : decode (mB 608) 52 = .ok (.iaload, 1) := by decide +kernel
theorem d_608_53 : decode (mB 608) 53 = .ok (.ireturn, 1) := by decide +kernel
theorem d_604_0 : decode (mB 604) 0 = .ok (.aload_n 0, 1) := by decide +kernel
theorem d_604_1 : decode (mB 604) 1 = .ok (.getfield 39, 3) := by decide +kernel
theorem d_604_4 : decode (mB 604) 4 = .ok (.bipush 6, 2) := by decide +kernel
theorem d_604_6 : decode (mB 604) 6 = .ok (.if_icmp .ge 33, 3) := by decide +kernel
theorem d_604_9 : decode (mB 604) 9 = .ok (.aload_n 0, 1) := by decide +kernel
theorem d_604_10 : decode (mB 604) 10 = .ok (.getfield 9, 3) := by decide +kernel
theorem d_604_13 : decode (mB 604) 13 = .ok (.aload_n 0, 1) := by decide +kernel
theorem d_604_14 : decode (mB 604) 14 = .ok (.getfield 39, 3) := by decide +kernel
theorem d_604_17 : decode (mB 604) 17 = .ok (.iload_n 1, 1) := by decide +kernel
theorem d_604_18 : decode (mB 604) 18 = .ok (.iastore, 1) := by decide +kernel
theorem d_604_19 : decode (mB 604) 19 = .ok (.aload_n 0, 1) := by decide +kernel
theorem d_604_20 : decode (mB 604) 20 = .ok (.getfield 15, 3) := by decide +kernel
theorem d_604_23 : decode (mB 604) 23 = .ok (.aload_n 0, 1) := by decide +kernel
theorem d_604_24 : decode (mB 604) 24 = .ok (.getfield 39, 3) := by decide +kernel
theorem d_604_27 : decode (mB 604) 27 = .ok (.iconst 0, 1) := by decide +kernel
theorem d_604_28 : decode (mB 604) 28 = .ok (.iastore, 1) := by decide +kernel
theorem d_604_29 : decode (mB 604) 29 = .ok (.aload_n 0, 1) := by decide +kernel
theorem d_604_30 : decode (mB 604) 30 = .ok (.dup, 1) := by decide +kernel
theorem d_604_31 : decode (mB 604) 31 = .ok (.getfield 39, 3) := by decide +kernel
theorem d_604_34 : decode (mB 604) 34 = .ok (.iconst 1, 1) := by decide +kernel
theorem d_604_35 : decode (mB 604) 35 = .ok (.iadd, 1) := by decide +kernel
theorem d_604_36 : decode (mB 604) 36 = .ok (.putfield 39, 3) := by decide +kernel
theorem d_604_39 : decode (mB 604) 39 = .ok (.return_, 1) := by decide +kernel
theorem d_605_0 : decode (mB 605) 0 = .ok (.aload_n 0, 1) := by decide +kernel
theorem d_605_1 : decode (mB 605) 1 = .ok (.iload_n 1, 1) := by decide +kernel
theorem d_605_2 : decode (mB 605) 2 = .ok (.invokevirtual 70, 3) := by decide +kernel
theorem d_605_5 : decode (mB 605) 5 = .ok (.ifCond .eq 45, 3) := by decide +kernel
theorem d_605_8 : decode (mB 605) 8 = .ok (.aload_n 0, 1) := by decide +kernel
theorem d_605_9 : decode (mB 605) 9 = .ok (.iload_n 2, 1) := by decide +kernel
theorem d_605_10 : decode (mB 605) 10 = .ok (.invokevirtual 70, 3) := by decide +kernel
theorem d_605_13 : decode (mB 605) 13 = .ok (.ifCond .eq 37, 3) := by decide +kernel
theorem d_605_16 : decode (mB 605) 16 = .ok (.aload_n 0, 1) := by decide +kernel
theorem d_605_17 : decode (mB 605) 17 = .ok (.getfield 15, 3) := by decide +kernel
theorem d_605_20 : decode (mB 605) 20 = .ok (.iload_n 1, 1) := by decide +kernel
theorem d_605_21 : decode (mB 605) 21 = .ok (.dup2, 1) := by decide +kernel
theorem d_605_22 : decode (mB 605) 22 = .ok (.iaload, 1) := by decide +kernel
theorem d_605_23 : decode (mB 605) 23 = .ok (.iconst 1, 1) := by decide +kernel
theorem d_605_24 : decode (mB 605) 24 = .ok (.iload_n 2, 1) := by decide +kernel
theorem d_605_25 : decode (mB 605) 25 = .ok (.ishl, 1) := by decide +kernel
theorem d_605_26 : decode (mB 605) 26 = .ok (.ior, 1) := by decide +kernel
theorem d_605_27 : decode (mB 605) 27 = .ok (.iastore, 1) := by decide +kernel
theorem d_605_28 : decode (mB 605) 28 = .ok (.aload_n 0, 1) := by decide +kernel
theorem d_605_29 : decode (mB 605) 29 = .ok (.getfield 15, 3) := by decide +kernel
theorem d_605_32 : decode (mB 605) 32 = .ok (.iload_n 2, 1) := by decide +kernel
theorem d_605_33 : decode (mB 605) 33 = .ok (.dup2, 1) := by decide +kernel
theorem d_605_34 : decode (mB 605) 34 = .ok (.iaload, 1) := by decide +kernel
theorem d_605_35 : decode (mB 605) 35 = .ok (.iconst 1, 1) := by decide +kernel
theorem d_605_36 : decode (mB 605) 36 = .ok (.iload_n 1, 1) := by decide +kernel
theorem d_605_37 : decode (mB 605) 37 = .ok (.ishl, 1) := by decide +kernel
theorem d_605_38 : decode (mB 605) 38 = .ok (.ior, 1) := by decide +kernel
theorem d_605_39 : decode (mB 605) 39 = .ok (.iastore, 1) := by decide +kernel
theorem d_605_40 : decode (mB 605) 40 = .ok (.aload_n 0, 1) := by decide +kernel
theorem d_605_41 : decode (mB 605) 41 = .ok (.dup, 1) := by decide +kernel
theorem d_605_42 : decode (mB 605) 42 = .ok (.getfield 43, 3) := by decide +kernel
theorem d_605_45 : decode (mB 605) 45 = .ok (.iconst 1, 1) := by decide +kernel
theorem d_605_46 : decode (mB 605) 46 = .ok (.iadd, 1) := by decide +kernel
theorem d_605_47 : decode (mB 605) 47 = .ok (.putfield 43, 3) := by decide +kernel
theorem d_605_50 : decode (mB 605) 50 = .ok (.return_, 1) := by decide +kernel
theorem d_606_0 : decode (mB 606) 0 = .ok (.aload_n 0, 1) := by decide +kernel
theorem d_606_1 : decode (mB 606) 1 = .ok (.getfield 46, 3) := by decide +kernel
theorem d_606_4 : decode (mB 606) 4 = .ok (.bipush 6, 2) := by decide +kernel
theorem d_606_6 : decode (mB 606) 6 = .ok (.if_icmp .ge 77, 3) := by decide +kernel
theorem d_606_9 : decode (mB 606) 9 = .ok (.aload_n 0, 1) := by decide +kernel
theorem d_606_10 : decode (mB 606) 10 = .ok (.getfield 18, 3) := by decide +kernel
theorem d_606_13 : decode (mB 606) 13 = .ok (.aload_n 0, 1) := by decide +kernel
theorem d_606_14 : decode (mB 606) 14 = .ok (.getfield 46, 3) := by decide +kernel
theorem d_606_17 : decode (mB 606) 17 = .ok (.iload_n 1, 1) := by decide +kernel
theorem d_606_18 : decode (mB 606) 18 = .ok (.iastore, 1) := by decide +kernel
theorem d_606_19 : decode (mB 606) 19 = .ok (.aload_n 0, 1) := by decide +kernel
theorem d_606_20 : decode (mB 606) 20 = .ok (.getfield 21, 3) := by decide +kernel
theorem d_606_23 : decode (mB 606) 23 = .ok (.aload_n 0, 1) := by decide +kernel
theorem d_606_24 : decode (mB 606) 24 = .ok (.getfield 46, 3) := by decide +kernel
theorem d_606_27 : decode (mB 606) 27 = .ok (.iload_n 2, 1) := by decide +kernel
theorem d_606_28 : decode (mB 606) 28 = .ok (.iastore, 1) := by decide +kernel
theorem d_606_29 : decode (mB 606) 29 = .ok (.aload_n 0, 1) := by decide +kernel
theorem d_606_30 : decode (mB 606) 30 = .ok (.getfield 24, 3) := by decide +kernel
theorem d_606_33 : decode (mB 606) 33 = .ok (.aload_n 0, 1) := by decide +kernel
theorem d_606_34 : decode (mB 606) 34 = .ok (.getfield 46, 3) := by decide +kernel
theorem d_606_37 : decode (mB 606) 37 = .ok (.iload_n 3, 1) := by decide +kernel
theorem d_606_38 : decode (mB 606) 38 = .ok (.iastore, 1) := by decide +kernel
theorem d_606_39 : decode (mB 606) 39 = .ok (.aload_n 0, 1) := by decide +kernel
theorem d_606_40 : decode (mB 606) 40 = .ok (.getfield 27, 3) := by decide +kernel
theorem d_606_43 : decode (mB 606) 43 = .ok (.aload_n 0, 1) := by decide +kernel
theorem d_606_44 : decode (mB 606) 44 = .ok (.getfield 46, 3) := by decide +kernel
theorem d_606_47 : decode (mB 606) 47 = .ok (.iload 4, 2) := by decide +kernel
theorem d_606_49 : decode (mB 606) 49 = .ok (.iastore, 1) := by decide +kernel
theorem d_606_50 : decode (mB 606) 50 = .ok (.aload_n 0, 1) := by decide +kernel
theorem d_606_51 : decode (mB 606) 51 = .ok (.getfield 30, 3) := by decide +kernel
theorem d_606_54 : decode (mB 606) 54 = .ok (.aload_n 0, 1) := by decide +kernel
theorem d_606_55 : decode (mB 606) 55 = .ok (.getfield 46, 3) := by decide +kernel
theorem d_606_58 : decode (mB 606) 58 = .ok (.bipush 6, 2) := by decide +kernel
theorem d_606_60 : decode (mB 606) 60 = .ok (.imul, 1) := by decide +kernel
theorem d_606_61 : decode (mB 606) 61 = .ok (.iconst 0, 1) := by decide +kernel
theorem d_606_62 : decode (mB 606) 62 = .ok (.iastore, 1) := by decide +kernel
theorem d_606_63 : decode (mB 606) 63 = .ok (.aload_n 0, 1) := by decide +kernel
theorem d_606_64 : decode (mB 606) 64 = .ok (.getfield 33, 3) := by decide +kernel
theorem d_606_67 : decode (mB 606) 67 = .ok (.aload_n 0, 1) := by decide +kernel
theorem d_606_68 : decode (mB 606) 68 = .ok (.getfield 46, 3) := by decide +kernel
theorem d_606_71 : decode (mB 606) 71 = .ok (.iconst 1, 1) := by decide +kernel
theorem d_606_72 : decode (mB 606) 72 = .ok (.iastore, 1) := by decide +kernel
theorem d_606_73 : decode (mB 606) 73 = .ok (.aload_n 0, 1) := by decide +kernel
theorem d_606_74 : decode (mB 606) 74 = .ok (.dup, 1) := by decide +kernel
theorem d_606_75 : decode (mB 606) 75 = .ok (.getfield 46, 3) := by decide +kernel
theorem d_606_78 : decode (mB 606) 78 = .ok (.iconst 1, 1) := by decide +kernel
theorem d_606_79 : decode (mB 606) 79 = .ok (.iadd, 1) := by decide +kernel
theorem d_606_80 : decode (mB 606) 80 = .ok (.putfield 46, 3) := by decide +kernel
theorem d_606_83 : decode (mB 606) 83 = .ok (.return_, 1) := by decide +kernel
theorem d_607_0 : decode (mB 607) 0 = .ok (.aload_n 0, 1) := by decide +kernel
theorem d_607_1 : decode (mB 607) 1 = .ok (.iload_n 1, 1) := by decide +kernel
theorem d_607_2 : decode (mB 607) 2 = .ok (.invokevirtual 74, 3) := by decide +kernel
theorem d_607_5 : decode (mB 607) 5 = .ok (.ifCond .eq 34, 3) := by decide +kernel
theorem d_607_8 : decode (mB 607) 8 = .ok (.iload_n 2, 1) := by decide +kernel
theorem d_607_9 : decode (mB 607) 9 = .ok (.ifCond .lt 30, 3) := by decide +kernel
theorem d_607_12 : decode (mB 607) 12 = .ok (.iload_n 2, 1) := by decide +kernel
theorem d_607_13 : decode (mB 607) 13 = .ok (.bipush 6, 2) := by decide +kernel
theorem d_607_15 : decode (mB 607) 15 = .ok (.if_icmp .ge 24, 3) := by decide +kernel
theorem d_607_18 : decode (mB 607) 18 = .ok (.aload_n 0, 1) := by decide +kernel
theorem d_607_19 : decode (mB 607) 19 = .ok (.getfield 30, 3) := by decide +kernel
theorem d_607_22 : decode (mB 607) 22 = .ok (.iload_n 1, 1) := by decide +kernel
theorem d_607_23 : decode (mB 607) 23 = .ok (.bipush 6, 2) := by decide +kernel
theorem d_607_25 : decode (mB 607) 25 = .ok (.imul, 1) := by decide +kernel
theorem d_607_26 : decode (mB 607) 26 = .ok (.iload_n 2, 1) := by decide +kernel
theorem d_607_27 : decode (mB 607) 27 = .ok (.iadd, 1) := by decide +kernel
theorem d_607_28 : decode (mB 607) 28 = .ok (.iload_n 3, 1) := by decide +kernel
theorem d_607_29 : decode (mB 607) 29 = .ok (.iastore, 1) := by decide +kernel
theorem d_607_30 : decode (mB 607) 30 = .ok (.aload_n 0, 1) := by decide +kernel
theorem d_607_31 : decode (mB 607) 31 = .ok (.getfield 33, 3) := by decide +kernel
theorem d_607_34 : decode (mB 607) 34 = .ok (.iload_n 1, 1) := by decide +kernel
theorem d_607_35 : decode (mB 607) 35 = .ok (.iload_n 2, 1) := by decide +kernel
theorem d_607_36 : decode (mB 607) 36 = .ok (.iconst 1, 1) := by decide +kernel
theorem d_607_37 : decode (mB 607) 37 = .ok (.iadd, 1) := by decide +kernel
theorem d_607_38 : decode (mB 607) 38 = .ok (.iastore, 1) := by decide +kernel
theorem d_607_39 : decode (mB 607) 39 = .ok (.return_, 1) := by decide +kernel
theorem b601_0 {σ : SS} : ev 601 0 [qR 12, qR 3] [] σ = some (none, (q_put (q_put (q_put (q_put (q_put (q_put (q_put (q_put (q_cpy (q_cpy (q_cpy (q_cpy (q_cpy (q_cpy (q_cpy (q_cpy σ 13 (σ 4) 0 0 6) 14 (σ 5) 0 0 6) 15 (σ 6) 0 0 6) 16 (σ 7) 0 0 6) 17 (σ 8) 0 0 6) 18 (σ 9) 0 0 6) 19 (σ 10) 0 0 36) 20 (σ 11) 0 0 6) 12 8 (σ 3 8)) 12 9 (σ 3 9)) 12 10 (σ 3 10)) 12 11 (σ 3 11)) 12 12 (σ 3 12)) 12 13 (σ 3 13)) 12 14 (σ 3 14)) 12 15 (σ 3 15))) :=
  Eq.trans (e_aload_n d_601_0 rfl) (Eq.trans (e_getR d_601_1 fl_6_9 sh_3 rfl) (Eq.trans (e_iconst d_601_4 k_0) (Eq.trans (e_aload_n d_601_5 rfl) (Eq.trans (e_getR d_601_6 fl_6_9 sh_12 rfl) (Eq.trans (e_iconst d_601_9 k_0) (Eq.trans (e_bipush d_601_10 kb_6) (Eq.trans (e_copy d_601_12 ml_6_64 (by decide) sh_4 sh_13 (by decide) (Nat.le_of_ble_eq_true rfl)) (Eq.trans (e_aload_n d_601_15 rfl) (Eq.trans (e_getR d_601_16 fl_6_15 sh_3 rfl) (Eq.trans (e_iconst d_601_19 k_0) (Eq.trans (e_aload_n d_601_20 rfl) (Eq.trans (e_getR d_601_21 fl_6_15 sh_12 rfl) (Eq.trans (e_iconst d_601_24 k_0) (Eq.trans (e_bipush d_601_25 kb_6) (Eq.trans (e_copy d_601_27 ml_6_64 (by decide) sh_5 sh_14 (by decide) (Nat.le_of_ble_eq_true rfl)) (Eq.trans (e_aload_n d_601_30 rfl) (Eq.trans (e_getR d_601_31 fl_6_18 sh_3 rfl) (Eq.trans (e_iconst d_601_34 k_0) (Eq.trans (e_aload_n d_601_35 rfl) (Eq.trans (e_getR d_601_36 fl_6_18 sh_12 rfl) (Eq.trans (e_iconst d_601_39 k_0) (Eq.trans (e_bipush d_601_40 kb_6) (Eq.trans (e_copy d_601_42 ml_6_64 (by decide) sh_6 sh_15 (by decide) (Nat.le_of_ble_eq_true rfl)) (Eq.trans (e_aload_n d_601_45 rfl) (Eq.trans (e_getR d_601_46 fl_6_21 sh_3 rfl) (Eq.trans (e_iconst d_601_49 k_0) (Eq.trans (e_aload_n d_601_50 rfl) (Eq.trans (e_getR d_601_51 fl_6_21 sh_12 rfl) (Eq.trans (e_iconst d_601_54 k_0) (Eq.trans (e_bipush d_601_55 kb_6) (Eq.trans (e_copy d_601_57 ml_6_64 (by decide) sh_7 sh_16 (by decide) (Nat.le_of_ble_eq_true rfl)) (Eq.trans (e_aload_n d_601_60 rfl) (Eq.trans (e_getR d_601_61 fl_6_24 sh_3 rfl) (Eq.trans (e_iconst d_601_64 k_0) (Eq.trans (e_aload_n d_601_65 rfl) (Eq.trans (e_getR d_601_66 fl_6_24 sh_12 rfl) (Eq.trans (e_iconst d_601_69 k_0) (Eq.trans (e_bipush d_601_70 kb_6) (Eq.trans (e_copy d_601_72 ml_6_64 (by decide) sh_8 sh_17 (by decide) (Nat.le_of_ble_eq_true rfl)) (Eq.trans (e_aload_n d_601_75 rfl) (Eq.trans (e_getR d_601_76 fl_6_27 sh_3 rfl) (Eq.trans (e_iconst d_601_79 k_0) (Eq.trans (e_aload_n d_601_80 rfl) (Eq.trans (e_getR d_601_81 fl_6_27 sh_12 rfl) (Eq.trans (e_iconst d_601_84 k_0) (Eq.trans (e_bipush d_601_85 kb_6) (Eq.trans (e_copy d_601_87 ml_6_64 (by decide) sh_9 sh_18 (by decide) (Nat.le_of_ble_eq_true rfl)) (Eq.trans (e_aload_n d_601_90 rfl) (Eq.trans (e_getR d_601_91 fl_6_30 sh_3 rfl) (Eq.trans (e_iconst d_601_94 k_0) (Eq.trans (e_aload_n d_601_95 rfl) (Eq.trans (e_getR d_601_96 fl_6_30 sh_12 rfl) (Eq.trans (e_iconst d_601_99 k_0) (Eq.trans (e_bipush d_601_100 kb_36) (Eq.trans (e_copy d_601_102 ml_6_64 (by decide) sh_10 sh_19 (by decide) (Nat.le_of_ble_eq_true rfl)) (Eq.trans (e_aload_n d_601_105 rfl) (Eq.trans (e_getR d_601_106 fl_6_33 sh_3 rfl) (Eq.trans (e_iconst d_601_109 k_0) (Eq.trans (e_aload_n d_601_110 rfl) (Eq.trans (e_getR d_601_111 fl_6_33 sh_12 rfl) (Eq.trans (e_iconst d_601_114 k_0) (Eq.trans (e_bipush d_601_115 kb_6) (Eq.trans (e_copy d_601_117 ml_6_64 (by decide) sh_11 sh_20 (by decide) (Nat.le_of_ble_eq_true rfl)) (Eq.trans (e_aload_n d_601_120 rfl) (Eq.trans (e_aload_n d_601_121 rfl) (Eq.trans (e_getI d_601_122 fl_6_39 sh_3 rfl) (Eq.trans (e_put d_601_125 fl_6_39 sh_12 rfl rfl rfl) (Eq.trans (e_aload_n d_601_128 rfl) (Eq.trans (e_aload_n d_601_129 rfl) (Eq.trans (e_getI d_601_130 fl_6_43 sh_3 rfl) (Eq.trans (e_put d_601_133 fl_6_43 sh_12 rfl rfl rfl) (Eq.trans (e_aload_n d_601_136 rfl) (Eq.trans (e_aload_n d_601_137 rfl) (Eq.trans (e_getI d_601_138 fl_6_46 sh_3 rfl) (Eq.trans (e_put d_601_141 fl_6_46 sh_12 rfl rfl rfl) (Eq.trans (e_aload_n d_601_144 rfl) (Eq.trans (e_aload_n d_601_145 rfl) (Eq.trans (e_getI d_601_146 fl_6_49 sh_3 rfl) (Eq.trans (e_put d_601_149 fl_6_49 sh_12 rfl rfl rfl) (Eq.trans (e_aload_n d_601_152 rfl) (Eq.trans (e_aload_n d_601_153 rfl) (Eq.trans (e_getI d_601_154 fl_6_52 sh_3 rfl) (Eq.trans (e_put d_601_157 fl_6_52 sh_12 rfl rfl rfl) (Eq.trans (e_aload_n d_601_160 rfl) (Eq.trans (e_aload_n d_601_161 rfl) (Eq.trans (e_getI d_601_162 fl_6_55 sh_3 rfl) (Eq.trans (e_put d_601_165 fl_6_55 sh_12 rfl rfl rfl) (Eq.trans (e_aload_n d_601_168 rfl) (Eq.trans (e_aload_n d_601_169 rfl) (Eq.trans (e_getI d_601_170 fl_6_58 sh_3 rfl) (Eq.trans (e_put d_601_173 fl_6_58 sh_12 rfl rfl rfl) (Eq.trans (e_aload_n d_601_176 rfl) (Eq.trans (e_aload_n d_601_177 rfl) (Eq.trans (e_getI d_601_178 fl_6_61 sh_3 rfl) (Eq.trans (e_put d_601_181 fl_6_61 sh_12 rfl rfl rfl) (e_vret d_601_184 rfl))))))))))))))))))))))))))))))))))))))))))))))))))))))))))))))))))))))))))))))))))))))))))))))))
theorem b300_0 {σ : SS} : ev 300 0 [qR 21, qR 12, qU] [] σ = ev 300 2 [qR 21, qR 12, qI 0] [] σ :=
  Eq.trans (e_iconst d_300_0 k_0) (e_istore_n d_300_1 (by decide) (Nat.le_of_ble_eq_true rfl) rfl)
theorem b300_2 {x2 : Int} {σ : SS} : ev 300 2 [qR 21, qR 12, qI x2] [] σ = if x2 < 6 then ev 300 8 [qR 21, qR 12, qI x2] [] σ else ev 300 42 [qR 21, qR 12, qI x2] [] σ :=
  Eq.trans (e_iload_n d_300_2 rfl) (Eq.trans (e_bipush d_300_3 kb_6) (e_icmp_ge d_300_5 (by decide)))
theorem b300_8 {x2 : Int} {σ : SS} (h : (0 ≤ x2 ∧ x2 < 6) ∧ (-2147483648 ≤ (x2 + 1) ∧ (x2 + 1) ≤ 2147483647)) : ev 300 8 [qR 21, qR 12, qI x2] [] σ = ev 300 2 [qR 21, qR 12, qI (x2 + 1)] [] (q_put (q_put (q_put σ 22 x2.toNat (σ 15 x2.toNat)) 23 x2.toNat 0) 24 x2.toNat (-1000)) :=
  Eq.trans (e_aload_n d_300_8 rfl) (Eq.trans (e_getR d_300_9 fl_3_9 sh_21 rfl) (Eq.trans (e_iload_n d_300_12 rfl) (Eq.trans (e_aload_n d_300_13 rfl) (Eq.trans (e_getR d_300_14 fl_3_21 sh_12 rfl) (Eq.trans (e_iload_n d_300_17 rfl) (Eq.trans (e_iald d_300_18 sh_15 h.1) (Eq.trans (e_iast d_300_19 sh_22 h.1) (Eq.trans (e_aload_n d_300_20 rfl) (Eq.trans (e_getR d_300_21 fl_3_15 sh_21 rfl) (Eq.trans (e_iload_n d_300_24 rfl) (Eq.trans (e_iconst d_300_25 k_0) (Eq.trans (e_iast d_300_26 sh_23 h.1) (Eq.trans (e_aload_n d_300_27 rfl) (Eq.trans (e_getR d_300_28 fl_3_18 sh_21 rfl) (Eq.trans (e_iload_n d_300_31 rfl) (Eq.trans (e_sipush d_300_32 ks_m1000) (Eq.trans (e_iast d_300_35 sh_24 h.1) (Eq.trans (e_iinc d_300_36 (by decide) rfl h.2 rfl) (e_goto d_300_39 (by decide))))))))))))))))))))
theorem b300_42 {x2 : Int} {σ : SS} : ev 300 42 [qR 21, qR 12, qI x2] [] σ = some (none, (q_put (q_put (q_put (q_put (q_put σ 21 3 0) 21 4 0) 21 5 0) 21 6 0) 21 7 0)) :=
  Eq.trans (e_aload_n d_300_42 rfl) (Eq.trans (e_iconst d_300_43 k_0) (Eq.trans (e_put d_300_44 fl_3_24 sh_21 rfl rfl rfl) (Eq.trans (e_aload_n d_300_47 rfl) (Eq.trans (e_iconst d_300_48 k_0) (Eq.trans (e_put d_300_49 fl_3_28 sh_21 rfl rfl rfl) (Eq.trans (e_aload_n d_300_52 rfl) (Eq.trans (e_iconst d_300_53 k_0) (Eq.trans (e_put d_300_54 fl_3_31 sh_21 rfl rfl rfl) (Eq.trans (e_aload_n d_300_57 rfl) (Eq.trans (e_iconst d_300_58 k_0) (Eq.trans (e_put d_300_59 fl_3_34 sh_21 rfl rfl (q_okZ rfl (by decide))) (Eq.trans (e_aload_n d_300_62 rfl) (Eq.trans (e_iconst d_300_63 k_0) (Eq.trans (e_put d_300_64 fl_3_38 sh_21 rfl rfl rfl) (e_vret d_300_67 rfl)))))))))))))))
theorem b602x0_0 {x1 : Int} {σ : SS} : ev 602 0 [qR 12, qI x1] [] σ = if x1 < 0 then ev 602 22 [qR 12, qI x1] [] σ else ev 602 4 [qR 12, qI x1] [] σ :=
  Eq.trans (e_iload_n d_602_0 rfl) (e_if_lt d_602_1 (by decide))
theorem b602x0_4 {x1 : Int} {σ : SS} : ev 602 4 [qR 12, qI x1] [] σ = if x1 < (σ 12 8) then ev 602 12 [qR 12, qI x1] [] σ else ev 602 22 [qR 12, qI x1] [] σ :=
  Eq.trans (e_iload_n d_602_4 rfl) (Eq.trans (e_aload_n d_602_5 rfl) (Eq.trans (e_getI d_602_6 fl_6_39 sh_12 rfl) (e_icmp_ge d_602_9 (by decide))))
theorem b602x0_12 {x1 : Int} {σ : SS} : ev 602 12 [qR 12, qI x1] [] σ = if x1 < 6 then ev 602 18 [qR 12, qI x1] [] σ else ev 602 22 [qR 12, qI x1] [] σ :=
  Eq.trans (e_iload_n d_602_12 rfl) (Eq.trans (e_bipush d_602_13 kb_6) (e_icmp_ge d_602_15 (by decide)))
theorem b602x0_18 {x1 : Int} {σ : SS} : ev 602 18 [qR 12, qI x1] [] σ = ev 602 23 [qR 12, qI x1] [qI 1] σ :=
  Eq.trans (e_iconst d_602_18 k_1) (e_goto d_602_19 (by decide))
theorem b602x0_22 {x1 : Int} {σ : SS} : ev 602 22 [qR 12, qI x1] [] σ = ev 602 23 [qR 12, qI x1] [qI 0] σ :=
  e_iconst d_602_22 k_0
theorem b602x0_23 {x1 y0 : Int} {σ : SS} (h : y0 = 0 ∨ y0 = 1) : ev 602 23 [qR 12, qI x1] [qI y0] σ = some (some (qI y0), σ) :=
  e_iret d_602_23 (q_okrZ rfl h)
theorem b603x0_0 {x1 : Int} {σ : SS} : ev 603 0 [qR 12, qI x1] [] σ = if x1 < 0 then ev 603 22 [qR 12, qI x1] [] σ else ev 603 4 [qR 12, qI x1] [] σ :=
  Eq.trans (e_iload_n d_603_0 rfl) (e_if_lt d_603_1 (by decide))
theorem b603x0_4 {x1 : Int} {σ : SS} : ev 603 4 [qR 12, qI x1] [] σ = if x1 < (σ 12 10) then ev 603 12 [qR 12, qI x1] [] σ else ev 603 22 [qR 12, qI x1] [] σ :=
  Eq.trans (e_iload_n d_603_4 rfl) (Eq.trans (e_aload_n d_603_5 rfl) (Eq.trans (e_getI d_603_6 fl_6_46 sh_12 rfl) (e_icmp_ge d_603_9 (by decide))))
theorem b603x0_12 {x1 : Int} {σ : SS} : ev 603 12 [qR 12, qI x1] [] σ = if x1 < 6 then ev 603 18 [qR 12, qI x1] [] σ else ev 603 22 [qR 12, qI x1] [] σ :=
  Eq.trans (e_iload_n d_603_12 rfl) (Eq.trans (e_bipush d_603_13 kb_6) (e_icmp_ge d_603_15 (by decide)))
theorem b603x0_18 {x1 : Int} {σ : SS} : ev 603 18 [qR 12, qI x1] [] σ = ev 603 23 [qR 12, qI x1] [qI 1] σ :=
  Eq.trans (e_iconst d_603_18 k_1) (e_goto d_603_19 (by decide))
theorem b603x0_22 {x1 : Int} {σ : SS} : ev 603 22 [qR 12, qI x1] [] σ = ev 603 23 [qR 12, qI x1] [qI 0] σ :=
  e_iconst d_603_22 k_0
theorem b603x0_23 {x1 y0 : Int} {σ : SS} (h : y0 = 0 ∨ y0 = 1) : ev 603 23 [qR 12, qI x1] [qI y0] σ = some (some (qI y0), σ) :=
  e_iret d_603_23 (q_okrZ rfl h)
theorem b609x0_0 {x1 : Int} {σ : SS} : ev 609 0 [qR 12, qI x1] [] σ = (ev 602 0 [qR 12, qI x1] [] σ).bind (fun x => ev 609 5 [qR 12, qI x1] (q_push x.1 []) x.2) :=
  Eq.trans (e_aload_n d_609_0 rfl) (Eq.trans (e_iload_n d_609_1 rfl) (e_callV d_609_2 ml_6_70 fit_609_602 par_602 rfl rfl sh_12 (Nat.le_of_ble_eq_true rfl) (Nat.le_of_ble_eq_true rfl) (Nat.le_of_ble_eq_true rfl) rfl (by decide) rfl))
theorem b609x0_5 {x1 y0 : Int} {σ : SS} : ev 609 5 [qR 12, qI x1] [qI y0] σ = if y0 = 0 then ev 609 17 [qR 12, qI x1] [] σ else ev 609 8 [qR 12, qI x1] [] σ :=
  e_if_eq d_609_5 (by decide)
theorem b609x0_8 {x1 : Int} {σ : SS} (h : 0 ≤ x1 ∧ x1 < 6) : ev 609 8 [qR 12, qI x1] [] σ = ev 609 18 [qR 12, qI x1] [qI (σ 14 x1.toNat)] σ :=
  Eq.trans (e_aload_n d_609_8 rfl) (Eq.trans (e_getR d_609_9 fl_6_15 sh_12 rfl) (Eq.trans (e_iload_n d_609_12 rfl) (Eq.trans (e_iald d_609_13 sh_14 h) (e_goto d_609_14 (by decide)))))
theorem b609x0_17 {x1 : Int} {σ : SS} : ev 609 17 [qR 12, qI x1] [] σ = ev 609 18 [qR 12, qI x1] [qI 0] σ :=
  e_iconst d_609_17 k_0
theorem b609x0_18 {x1 y0 : Int} {σ : SS} : ev 609 18 [qR 12, qI x1] [qI y0] σ = some (some (qI y0), σ) :=
  e_iret d_609_18 (q_okrI rfl)
theorem b613_0 {x1 x2 : Int} {σ : SS} : ev 613 0 [qR 12, qI x1, qI x2] [] σ = if x2 < x1 then ev 613 19 [qR 12, qI x1, qI x2] [] σ else ev 613 5 [qR 12, qI x1, qI x2] [] σ :=
  Eq.trans (e_iload_n d_613_0 rfl) (Eq.trans (e_iload_n d_613_1 rfl) (e_icmp_gt d_613_2 (by decide)))
theorem b613_5 {x1 x2 : Int} {σ : SS} (h : -2147483648 ≤ (x2 - x1) ∧ (x2 - x1) ≤ 2147483647) : ev 613 5 [qR 12, qI x1, qI x2] [] σ = if (σ 12 12) < (x2 - x1) then ev 613 19 [qR 12, qI x1, qI x2] [] σ else ev 613 15 [qR 12, qI x1, qI x2] [] σ :=
  Eq.trans (e_iload_n d_613_5 rfl) (Eq.trans (e_iload_n d_613_6 rfl) (Eq.trans (e_isub d_613_7 h) (Eq.trans (e_aload_n d_613_8 rfl) (Eq.trans (e_getI d_613_9 fl_6_52 sh_12 rfl) (e_icmp_gt d_613_12 (by decide))))))
theorem b613_15 {x1 x2 : Int} {σ : SS} : ev 613 15 [qR 12, qI x1, qI x2] [] σ = ev 613 20 [qR 12, qI x1, qI x2] [qI 1] σ :=
  Eq.trans (e_iconst d_613_15 k_1) (e_goto d_613_16 (by decide))
theorem b613_19 {x1 x2 : Int} {σ : SS} : ev 613 19 [qR 12, qI x1, qI x2] [] σ = ev 613 20 [qR 12, qI x1, qI x2] [qI 0] σ :=
  e_iconst d_613_19 k_0
theorem b613_20 {x1 x2 y0 : Int} {σ : SS} (h : y0 = 0 ∨ y0 = 1) : ev 613 20 [qR 12, qI x1, qI x2] [qI y0] σ = some (some (qI y0), σ) :=
  e_iret d_613_20 (q_okrZ rfl h)
theorem b301x0_0 {σ : SS} (h : (σ 21 6) = 0 ∨ (σ 21 6) = 1) : ev 301 0 [qR 26, qR 21] [] σ = some (none, (q_put (q_put (q_put (q_put (q_put (q_put (q_cpy (q_cpy (q_cpy σ 27 (σ 22) 0 0 6) 28 (σ 23) 0 0 6) 29 (σ 24) 0 0 6) 26 3 (σ 21 3)) 26 4 (σ 21 4)) 26 5 (σ 21 5)) 26 6 (σ 21 6)) 26 7 (σ 21 7)) 26 8 (σ 21 8))) :=
  Eq.trans (e_aload_n d_301_0 rfl) (Eq.trans (e_getR d_301_1 fl_3_9 sh_21 rfl) (Eq.trans (e_iconst d_301_4 k_0) (Eq.trans (e_aload_n d_301_5 rfl) (Eq.trans (e_getR d_301_6 fl_3_9 sh_26 rfl) (Eq.trans (e_iconst d_301_9 k_0) (Eq.trans (e_bipush d_301_10 kb_6) (Eq.trans (e_copy d_301_12 ml_3_41 (by decide) sh_22 sh_27 (by decide) (Nat.le_of_ble_eq_true rfl)) (Eq.trans (e_aload_n d_301_15 rfl) (Eq.trans (e_getR d_301_16 fl_3_15 sh_21 rfl) (Eq.trans (e_iconst d_301_19 k_0) (Eq.trans (e_aload_n d_301_20 rfl) (Eq.trans (e_getR d_301_21 fl_3_15 sh_26 rfl) (Eq.trans (e_iconst d_301_24 k_0) (Eq.trans (e_bipush d_301_25 kb_6) (Eq.trans (e_copy d_301_27 ml_3_41 (by decide) sh_23 sh_28 (by decide) (Nat.le_of_ble_eq_true rfl)) (Eq.trans (e_aload_n d_301_30 rfl) (Eq.trans (e_getR d_301_31 fl_3_18 sh_21 rfl) (Eq.trans (e_iconst d_301_34 k_0) (Eq.trans (e_aload_n d_301_35 rfl) (Eq.trans (e_getR d_301_36 fl_3_18 sh_26 rfl) (Eq.trans (e_iconst d_301_39 k_0) (Eq.trans (e_bipush d_301_40 kb_6) (Eq.trans (e_copy d_301_42 ml_3_41 (by decide) sh_24 sh_29 (by decide) (Nat.le_of_ble_eq_true rfl)) (Eq.trans (e_aload_n d_301_45 rfl) (Eq.trans (e_aload_n d_301_46 rfl) (Eq.trans (e_getI d_301_47 fl_3_24 sh_21 rfl) (Eq.trans (e_put d_301_50 fl_3_24 sh_26 rfl rfl rfl) (Eq.trans (e_aload_n d_301_53 rfl) (Eq.trans (e_aload_n d_301_54 rfl) (Eq.trans (e_getI d_301_55 fl_3_28 sh_21 rfl) (Eq.trans (e_put d_301_58 fl_3_28 sh_26 rfl rfl rfl) (Eq.trans (e_aload_n d_301_61 rfl) (Eq.trans (e_aload_n d_301_62 rfl) (Eq.trans (e_getI d_301_63 fl_3_31 sh_21 rfl) (Eq.trans (e_put d_301_66 fl_3_31 sh_26 rfl rfl rfl) (Eq.trans (e_aload_n d_301_69 rfl) (Eq.trans (e_aload_n d_301_70 rfl) (Eq.trans (e_getI d_301_71 fl_3_34 sh_21 rfl) (Eq.trans (e_put d_301_74 fl_3_34 sh_26 rfl rfl (q_okZ rfl h)) (Eq.trans (e_aload_n d_301_77 rfl) (Eq.trans (e_aload_n d_301_78 rfl) (Eq.trans (e_getI d_301_79 fl_3_38 sh_21 rfl) (Eq.trans (e_put d_301_82 fl_3_38 sh_26 rfl rfl rfl) (Eq.trans (e_aload_n d_301_85 rfl) (Eq.trans (e_aload_n d_301_86 rfl) (Eq.trans (e_getI d_301_87 fl_3_47 sh_21 rfl) (Eq.trans (e_put d_301_90 fl_3_47 sh_26 rfl rfl rfl) (e_vret d_301_93 rfl))))))))))))))))))))))))))))))))))))))))))))))))
theorem b301x1_0 {σ : SS} (h : (σ 21 6) = 0 ∨ (σ 21 6) = 1) : ev 301 0 [qR 30, qR 21] [] σ = some (none, (q_put (q_put (q_put (q_put (q_put (q_put (q_cpy (q_cpy (q_cpy σ 31 (σ 22) 0 0 6) 32 (σ 23) 0 0 6) 33 (σ 24) 0 0 6) 30 3 (σ 21 3)) 30 4 (σ 21 4)) 30 5 (σ 21 5)) 30 6 (σ 21 6)) 30 7 (σ 21 7)) 30 8 (σ 21 8))) :=
  Eq.trans (e_aload_n d_301_0 rfl) (Eq.trans (e_getR d_301_1 fl_3_9 sh_21 rfl) (Eq.trans (e_iconst d_301_4 k_0) (Eq.trans (e_aload_n d_301_5 rfl) (Eq.trans (e_getR d_301_6 fl_3_9 sh_30 rfl) (Eq.trans (e_iconst d_301_9 k_0) (Eq.trans (e_bipush d_301_10 kb_6) (Eq.trans (e_copy d_301_12 ml_3_41 (by decide) sh_22 sh_31 (by decide) (Nat.le_of_ble_eq_true rfl)) (Eq.trans (e_aload_n d_301_15 rfl) (Eq.trans (e_getR d_301_16 fl_3_15 sh_21 rfl) (Eq.trans (e_iconst d_301_19 k_0) (Eq.trans (e_aload_n d_301_20 rfl) (Eq.trans (e_getR d_301_21 fl_3_15 sh_30 rfl) (Eq.trans (e_iconst d_301_24 k_0) (Eq.trans (e_bipush d_301_25 kb_6) (Eq.trans (e_copy d_301_27 ml_3_41 (by decide) sh_23 sh_32 (by decide) (Nat.le_of_ble_eq_true rfl)) (Eq.trans (e_aload_n d_301_30 rfl) (Eq.trans (e_getR d_301_31 fl_3_18 sh_21 rfl) (Eq.trans (e_iconst d_301_34 k_0) (Eq.trans (e_aload_n d_301_35 rfl) (Eq.trans (e_getR d_301_36 fl_3_18 sh_30 rfl) (Eq.trans (e_iconst d_301_39 k_0) (Eq.trans (e_bipush d_301_40 kb_6) (Eq.trans (e_copy d_301_42 ml_3_41 (by decide) sh_24 sh_33 (by decide) (Nat.le_of_ble_eq_true rfl)) (Eq.trans (e_aload_n d_301_45 rfl) (Eq.trans (e_aload_n d_301_46 rfl) (Eq.trans (e_getI d_301_47 fl_3_24 sh_21 rfl) (Eq.trans (e_put d_301_50 fl_3_24 sh_30 rfl rfl rfl) (Eq.trans (e_aload_n d_301_53 rfl) (Eq.trans (e_aload_n d_301_54 rfl) (Eq.trans (e_getI d_301_55 fl_3_28 sh_21 rfl) (Eq.trans (e_put d_301_58 fl_3_28 sh_30 rfl rfl rfl) (Eq.trans (e_aload_n d_301_61 rfl) (Eq.trans (e_aload_n d_301_62 rfl) (Eq.trans (e_getI d_301_63 fl_3_31 sh_21 rfl) (Eq.trans (e_put d_301_66 fl_3_31 sh_30 rfl rfl rfl) (Eq.trans (e_aload_n d_301_69 rfl) (Eq.trans (e_aload_n d_301_70 rfl) (Eq.trans (e_getI d_301_71 fl_3_34 sh_21 rfl) (Eq.trans (e_put d_301_74 fl_3_34 sh_30 rfl rfl (q_okZ rfl h)) (Eq.trans (e_aload_n d_301_77 rfl) (Eq.trans (e_aload_n d_301_78 rfl) (Eq.trans (e_getI d_301_79 fl_3_38 sh_21 rfl) (Eq.trans (e_put d_301_82 fl_3_38 sh_30 rfl rfl rfl) (Eq.trans (e_aload_n d_301_85 rfl) (Eq.trans (e_aload_n d_301_86 rfl) (Eq.trans (e_getI d_301_87 fl_3_47 sh_21 rfl) (Eq.trans (e_put d_301_90 fl_3_47 sh_30 rfl rfl rfl) (e_vret d_301_93 rfl))))))))))))))))))))))))))))))))))))))))))))))))
theorem b301x2_0 {σ : SS} (h : (σ 26 6) = 0 ∨ (σ 26 6) = 1) : ev 301 0 [qR 21, qR 26] [] σ = some (none, (q_put (q_put (q_put (q_put (q_put (q_put (q_cpy (q_cpy (q_cpy σ 22 (σ 27) 0 0 6) 23 (σ 28) 0 0 6) 24 (σ 29) 0 0 6) 21 3 (σ 26 3)) 21 4 (σ 26 4)) 21 5 (σ 26 5)) 21 6 (σ 26 6)) 21 7 (σ 26 7)) 21 8 (σ 26 8))) :=
  Eq.trans (e_aload_n d_301_0 rfl) (Eq.trans (e_getR d_301_1 fl_3_9 sh_26 rfl) (Eq.trans (e_iconst d_301_4 k_0) (Eq.trans (e_aload_n d_301_5 rfl) (Eq.trans (e_getR d_301_6 fl_3_9 sh_21 rfl) (Eq.trans (e_iconst d_301_9 k_0) (Eq.trans (e_bipush d_301_10 kb_6) (Eq.trans (e_copy d_301_12 ml_3_41 (by decide) sh_27 sh_22 (by decide) (Nat.le_of_ble_eq_true rfl)) (Eq.trans (e_aload_n d_301_15 rfl) (Eq.trans (e_getR d_301_16 fl_3_15 sh_26 rfl) (Eq.trans (e_iconst d_301_19 k_0) (Eq.trans (e_aload_n d_301_20 rfl) (Eq.trans (e_getR d_301_21 fl_3_15 sh_21 rfl) (Eq.trans (e_iconst d_301_24 k_0) (Eq.trans (e_bipush d_301_25 kb_6) (Eq.trans (e_copy d_301_27 ml_3_41 (by decide) sh_28 sh_23 (by decide) (Nat.le_of_ble_eq_true rfl)) (Eq.trans (e_aload_n d_301_30 rfl) (Eq.trans (e_getR d_301_31 fl_3_18 sh_26 rfl) (Eq.trans (e_iconst d_301_34 k_0) (Eq.trans (e_aload_n d_301_35 rfl) (Eq.trans (e_getR d_301_36 fl_3_18 sh_21 rfl) (Eq.trans (e_iconst d_301_39 k_0) (Eq.trans (e_bipush d_301_40 kb_6) (Eq.trans (e_copy d_301_42 ml_3_41 (by decide) sh_29 sh_24 (by decide) (Nat.le_of_ble_eq_true rfl)) (Eq.trans (e_aload_n d_301_45 rfl) (Eq.trans (e_aload_n d_301_46 rfl) (Eq.trans (e_getI d_301_47 fl_3_24 sh_26 rfl) (Eq.trans (e_put d_301_50 fl_3_24 sh_21 rfl rfl rfl) (Eq.trans (e_aload_n d_301_53 rfl) (Eq.trans (e_aload_n d_301_54 rfl) (Eq.trans (e_getI d_301_55 fl_3_28 sh_26 rfl) (Eq.trans (e_put d_301_58 fl_3_28 sh_21 rfl rfl rfl) (Eq.trans (e_aload_n d_301_61 rfl) (Eq.trans (e_aload_n d_301_62 rfl) (Eq.trans (e_getI d_301_63 fl_3_31 sh_26 rfl) (Eq.trans (e_put d_301_66 fl_3_31 sh_21 rfl rfl rfl) (Eq.trans (e_aload_n d_301_69 rfl) (Eq.trans (e_aload_n d_301_70 rfl) (Eq.trans (e_getI d_301_71 fl_3_34 sh_26 rfl) (Eq.trans (e_put d_301_74 fl_3_34 sh_21 rfl rfl (q_okZ rfl h)) (Eq.trans (e_aload_n d_301_77 rfl) (Eq.trans (e_aload_n d_301_78 rfl) (Eq.trans (e_getI d_301_79 fl_3_38 sh_26 rfl) (Eq.trans (e_put d_301_82 fl_3_38 sh_21 rfl rfl rfl) (Eq.trans (e_aload_n d_301_85 rfl) (Eq.trans (e_aload_n d_301_86 rfl) (Eq.trans (e_getI d_301_87 fl_3_47 sh_26 rfl) (Eq.trans (e_put d_301_90 fl_3_47 sh_21 rfl rfl rfl) (e_vret d_301_93 rfl))))))))))))))))))))))))))))))))))))))))))))))))
theorem b301x3_0 {σ : SS} (h : (σ 30 6) = 0 ∨ (σ 30 6) = 1) : ev 301 0 [qR 21, qR 30] [] σ = some (none, (q_put (q_put (q_put (q_put (q_put (q_put (q_cpy (q_cpy (q_cpy σ 22 (σ 31) 0 0 6) 23 (σ 32) 0 0 6) 24 (σ 33) 0 0 6) 21 3 (σ 30 3)) 21 4 (σ 30 4)) 21 5 (σ 30 5)) 21 6 (σ 30 6)) 21 7 (σ 30 7)) 21 8 (σ 30 8))) :=
  Eq.trans (e_aload_n d_301_0 rfl) (Eq.trans (e_getR d_301_1 fl_3_9 sh_30 rfl) (Eq.trans (e_iconst d_301_4 k_0) (Eq.trans (e_aload_n d_301_5 rfl) (Eq.trans (e_getR d_301_6 fl_3_9 sh_21 rfl) (Eq.trans (e_iconst d_301_9 k_0) (Eq.trans (e_bipush d_301_10 kb_6) (Eq.trans (e_copy d_301_12 ml_3_41 (by decide) sh_31 sh_22 (by decide) (Nat.le_of_ble_eq_true rfl)) (Eq.trans (e_aload_n d_301_15 rfl) (Eq.trans (e_getR d_301_16 fl_3_15 sh_30 rfl) (Eq.trans (e_iconst d_301_19 k_0) (Eq.trans (e_aload_n d_301_20 rfl) (Eq.trans (e_getR d_301_21 fl_3_15 sh_21 rfl) (Eq.trans (e_iconst d_301_24 k_0) (Eq.trans (e_bipush d_301_25 kb_6) (Eq.trans (e_copy d_301_27 ml_3_41 (by decide) sh_32 sh_23 (by decide) (Nat.le_of_ble_eq_true rfl)) (Eq.trans (e_aload_n d_301_30 rfl) (Eq.trans (e_getR d_301_31 fl_3_18 sh_30 rfl) (Eq.trans (e_iconst d_301_34 k_0) (Eq.trans (e_aload_n d_301_35 rfl) (Eq.trans (e_getR d_301_36 fl_3_18 sh_21 rfl) (Eq.trans (e_iconst d_301_39 k_0) (Eq.trans (e_bipush d_301_40 kb_6) (Eq.trans (e_copy d_301_42 ml_3_41 (by decide) sh_33 sh_24 (by decide) (Nat.le_of_ble_eq_true rfl)) (Eq.trans (e_aload_n d_301_45 rfl) (Eq.trans (e_aload_n d_301_46 rfl) (Eq.trans (e_getI d_301_47 fl_3_24 sh_30 rfl) (Eq.trans (e_put d_301_50 fl_3_24 sh_21 rfl rfl rfl) (Eq.trans (e_aload_n d_301_53 rfl) (Eq.trans (e_aload_n d_301_54 rfl) (Eq.trans (e_getI d_301_55 fl_3_28 sh_30 rfl) (Eq.trans (e_put d_301_58 fl_3_28 sh_21 rfl rfl rfl) (Eq.trans (e_aload_n d_301_61 rfl) (Eq.trans (e_aload_n d_301_62 rfl) (Eq.trans (e_getI d_301_63 fl_3_31 sh_30 rfl) (Eq.trans (e_put d_301_66 fl_3_31 sh_21 rfl rfl rfl) (Eq.trans (e_aload_n d_301_69 rfl) (Eq.trans (e_aload_n d_301_70 rfl) (Eq.trans (e_getI d_301_71 fl_3_34 sh_30 rfl) (Eq.trans (e_put d_301_74 fl_3_34 sh_21 rfl rfl (q_okZ rfl h)) (Eq.trans (e_aload_n d_301_77 rfl) (Eq.trans (e_aload_n d_301_78 rfl) (Eq.trans (e_getI d_301_79 fl_3_38 sh_30 rfl) (Eq.trans (e_put d_301_82 fl_3_38 sh_21 rfl rfl rfl) (Eq.trans (e_aload_n d_301_85 rfl) (Eq.trans (e_aload_n d_301_86 rfl) (Eq.trans (e_getI d_301_87 fl_3_47 sh_30 rfl) (Eq.trans (e_put d_301_90 fl_3_47 sh_21 rfl rfl rfl) (e_vret d_301_93 rfl))))))))))))))))))))))))))))))))))))))))))))))))
theorem b600_0 {σ : SS} : ev 600 0 [qR 3] [] σ = some (none, (q_put (q_put (q_put (q_put (q_put (q_put (q_put (q_put σ 3 8 0) 3 9 0) 3 10 0) 3 11 30) 3 12 1) 3 13 0) 3 14 12) 3 15 0)) :=
  Eq.trans (e_aload_n d_600_0 rfl) (Eq.trans (e_iconst d_600_1 k_0) (Eq.trans (e_put d_600_2 fl_6_39 sh_3 rfl rfl rfl) (Eq.trans (e_aload_n d_600_5 rfl) (Eq.trans (e_iconst d_600_6 k_0) (Eq.trans (e_put d_600_7 fl_6_43 sh_3 rfl rfl rfl) (Eq.trans (e_aload_n d_600_10 rfl) (Eq.trans (e_iconst d_600_11 k_0) (Eq.trans (e_put d_600_12 fl_6_46 sh_3 rfl rfl rfl) (Eq.trans (e_aload_n d_600_15 rfl) (Eq.trans (e_bipush d_600_16 kb_30) (Eq.trans (e_put d_600_18 fl_6_49 sh_3 rfl rfl rfl) (Eq.trans (e_aload_n d_600_21 rfl) (Eq.trans (e_iconst d_600_22 k_1) (Eq.trans (e_put d_600_23 fl_6_52 sh_3 rfl rfl rfl) (Eq.trans (e_aload_n d_600_26 rfl) (Eq.trans (e_iconst d_600_27 k_0) (Eq.trans (e_put d_600_28 fl_6_55 sh_3 rfl rfl rfl) (Eq.trans (e_aload_n d_600_31 rfl) (Eq.trans (e_bipush d_600_32 kb_12) (Eq.trans (e_put d_600_34 fl_6_58 sh_3 rfl rfl rfl) (Eq.trans (e_aload_n d_600_37 rfl) (Eq.trans (e_iconst d_600_38 k_0) (Eq.trans (e_put d_600_39 fl_6_61 sh_3 rfl rfl rfl) (e_vret d_600_42 rfl))))))))))))))))))))))))
theorem b302_0 {x1 : Int} {σ : SS} : ev 302 0 [qR 21, qI x1] [] σ = if x1 < 1 then ev 302 27 [qR 21, qI x1] [] (q_put σ 21 8 (q_l2i (q_land (q_ladd (q_lmul (σ 21 8) 1103515245) 12345) 2147483647))) else ev 302 31 [qR 21, qI x1] [] (q_put σ 21 8 (q_l2i (q_land (q_ladd (q_lmul (σ 21 8) 1103515245) 12345) 2147483647))) :=
  Eq.trans (e_aload_n d_302_0 rfl) (Eq.trans (e_aload_n d_302_1 rfl) (Eq.trans (e_getI d_302_2 fl_3_47 sh_21 rfl) (Eq.trans (e_i2l d_302_5) (Eq.trans (e_ldc2 d_302_6 ll_3_50.1 ll_3_50.2) (Eq.trans (e_lmul d_302_9) (Eq.trans (e_ldc2 d_302_10 ll_3_52.1 ll_3_52.2) (Eq.trans (e_ladd d_302_13) (Eq.trans (e_ldc2 d_302_14 ll_3_54.1 ll_3_54.2) (Eq.trans (e_land d_302_17) (Eq.trans (e_l2i d_302_18) (Eq.trans (e_put d_302_19 fl_3_47 sh_21 rfl rfl rfl) (Eq.trans (e_iload_n d_302_22 rfl) (Eq.trans (e_iconst d_302_23 k_1) (e_icmp_ge d_302_24 (by decide)))))))))))))))
theorem b302_27 {x1 : Int} {σ : SS} : ev 302 27 [qR 21, qI x1] [] σ = ev 302 40 [qR 21, qI x1] [qI 0] σ :=
  Eq.trans (e_iconst d_302_27 k_0) (e_goto d_302_28 (by decide))
theorem b302_31 {x1 : Int} {σ : SS} (h : (0 ≤ (σ 21 8) ∧ (σ 21 8) ≤ 2147483647 ∧ (0 : Int) < 65536 ∧ (65536 : Int) ≤ 2147483647) ∧ (0 ≤ ((σ 21 8) / 65536) ∧ ((σ 21 8) / 65536) ≤ 2147483647 ∧ (0 : Int) < x1 ∧ (x1 : Int) ≤ 2147483647)) : ev 302 31 [qR 21, qI x1] [] σ = ev 302 40 [qR 21, qI x1] [qI (((σ 21 8) / 65536) % x1)] σ :=
  Eq.trans (e_aload_n d_302_31 rfl) (Eq.trans (e_getI d_302_32 fl_3_47 sh_21 rfl) (Eq.trans (e_ldc d_302_35 ld_3_56 k_65536) (Eq.trans (e_idiv d_302_37 h.1) (Eq.trans (e_iload_n d_302_38 rfl) (e_irem d_302_39 h.2)))))
theorem b302_40 {x1 y0 : Int} {σ : SS} : ev 302 40 [qR 21, qI x1] [qI y0] σ = some (some (qI y0), σ) :=
  e_iret d_302_40 (q_okrI rfl)
theorem b612_0 {x1 : Int} {σ : SS} : ev 612 0 [qR 12, qI x1] [] σ = if (σ 12 13) < 1 then ev 612 8 [qR 12, qI x1] [] σ else ev 612 15 [qR 12, qI x1] [] σ :=
  Eq.trans (e_aload_n d_612_0 rfl) (Eq.trans (e_getI d_612_1 fl_6_55 sh_12 rfl) (Eq.trans (e_iconst d_612_4 k_1) (e_icmp_ge d_612_5 (by decide))))
theorem b612_8 {x1 : Int} {σ : SS} : ev 612 8 [qR 12, qI x1] [] σ = ev 612 26 [qR 12, qI x1] [qI (σ 12 11)] σ :=
  Eq.trans (e_aload_n d_612_8 rfl) (Eq.trans (e_getI d_612_9 fl_6_49 sh_12 rfl) (e_goto d_612_12 (by decide)))
theorem b612_15 {x1 : Int} {σ : SS} (h : (0 ≤ x1 ∧ x1 ≤ 2147483647 ∧ (0 : Int) < (σ 12 13) ∧ ((σ 12 13) : Int) ≤ 2147483647) ∧ (-2147483648 ≤ ((σ 12 11) + (x1 / (σ 12 13))) ∧ ((σ 12 11) + (x1 / (σ 12 13))) ≤ 2147483647)) : ev 612 15 [qR 12, qI x1] [] σ = ev 612 26 [qR 12, qI x1] [qI ((σ 12 11) + (x1 / (σ 12 13)))] σ :=
  Eq.trans (e_aload_n d_612_15 rfl) (Eq.trans (e_getI d_612_16 fl_6_49 sh_12 rfl) (Eq.trans (e_iload_n d_612_19 rfl) (Eq.trans (e_aload_n d_612_20 rfl) (Eq.trans (e_getI d_612_21 fl_6_55 sh_12 rfl) (Eq.trans (e_idiv d_612_24 h.1) (e_iadd d_612_25 h.2))))))
theorem b612_26 {x1 y0 : Int} {σ : SS} : ev 612 26 [qR 12, qI x1] [qI y0] σ = some (some (qI y0), σ) :=
  e_iret d_612_26 (q_okrI rfl)
theorem b610_0 {x1 : Int} {σ : SS} : ev 610 0 [qR 12, qI x1] [] σ = (ev 602 0 [qR 12, qI x1] [] σ).bind (fun x => ev 610 5 [qR 12, qI x1] (q_push x.1 []) x.2) :=
  Eq.trans (e_aload_n d_610_0 rfl) (Eq.trans (e_iload_n d_610_1 rfl) (e_callV d_610_2 ml_6_70 fit_610_602 par_602 rfl rfl sh_12 (Nat.le_of_ble_eq_true rfl) (Nat.le_of_ble_eq_true rfl) (Nat.le_of_ble_eq_true rfl) rfl (by decide) rfl))
theorem b610_5 {x1 y0 : Int} {σ : SS} : ev 610 5 [qR 12, qI x1] [qI y0] σ = if y0 = 0 then ev 610 21 [qR 12, qI x1] [] σ else ev 610 8 [qR 12, qI x1] [] σ :=
  e_if_eq d_610_5 (by decide)
theorem b610_8 {x1 : Int} {σ : SS} (h : 0 ≤ x1 ∧ x1 < 6) : ev 610 8 [qR 12, qI x1] [] σ = ev 610 22 [qR 12, qI x1] [qI (q_or (σ 14 x1.toNat) (q_shl 1 x1))] σ :=
  Eq.trans (e_aload_n d_610_8 rfl) (Eq.trans (e_getR d_610_9 fl_6_15 sh_12 rfl) (Eq.trans (e_iload_n d_610_12 rfl) (Eq.trans (e_iald d_610_13 sh_14 h) (Eq.trans (e_iconst d_610_14 k_1) (Eq.trans (e_iload_n d_610_15 rfl) (Eq.trans (e_ishl d_610_16) (Eq.trans (e_ior d_610_17) (e_goto d_610_18 (by decide)))))))))
theorem b610_21 {x1 : Int} {σ : SS} : ev 610 21 [qR 12, qI x1] [] σ = ev 610 22 [qR 12, qI x1] [qI 0] σ :=
  e_iconst d_610_21 k_0
theorem b610_22 {x1 y0 : Int} {σ : SS} : ev 610 22 [qR 12, qI x1] [qI y0] σ = some (some (qI y0), σ) :=
  e_iret d_610_22 (q_okrI rfl)
theorem b611_0 {x1 : Int} {σ : SS} : ev 611 0 [qR 12, qI x1] [] σ = (ev 1200 0 [qI x1, qI 24, qU] [] σ).bind (fun x => ev 611 6 [qR 12, qI x1] (q_push x.1 []) x.2) :=
  Eq.trans (e_iload_n d_611_0 rfl) (Eq.trans (e_bipush d_611_1 kb_24) (e_callS d_611_3 (by decide) ml_6_77 fit_611_1200 par_1200 rfl rfl (Nat.le_of_ble_eq_true rfl) (Nat.le_of_ble_eq_true rfl) (Nat.le_of_ble_eq_true rfl) rfl (by decide) rfl))
theorem b611_6 {x1 y0 : Int} {σ : SS} : ev 611 6 [qR 12, qI x1] [qI y0] σ = if y0 < (σ 12 14) then ev 611 17 [qR 12, qI x1] [] σ else ev 611 13 [qR 12, qI x1] [] σ :=
  Eq.trans (e_aload_n d_611_6 rfl) (Eq.trans (e_getI d_611_7 fl_6_58 sh_12 rfl) (e_icmp_lt d_611_10 (by decide)))
theorem b611_13 {x1 : Int} {σ : SS} : ev 611 13 [qR 12, qI x1] [] σ = ev 611 18 [qR 12, qI x1] [qI 1] σ :=
  Eq.trans (e_iconst d_611_13 k_1) (e_goto d_611_14 (by decide))
theorem b611_17 {x1 : Int} {σ : SS} : ev 611 17 [qR 12, qI x1] [] σ = ev 611 18 [qR 12, qI x1] [qI 0] σ :=
  e_iconst d_611_17 k_0
theorem b611_18 {x1 y0 : Int} {σ : SS} (h : y0 = 0 ∨ y0 = 1) : ev 611 18 [qR 12, qI x1] [qI y0] σ = some (some (qI y0), σ) :=
  e_iret d_611_18 (q_okrZ rfl h)
theorem b608_0 {x1 x2 : Int} {σ : SS} : ev 608 0 [qR 12, qI x1, qI x2] [] σ = (ev 603 0 [qR 12, qI x1] [] σ).bind (fun x => ev 608 5 [qR 12, qI x1, qI x2] (q_push x.1 []) x.2) :=
  Eq.trans (e_aload_n d_608_0 rfl) (Eq.trans (e_iload_n d_608_1 rfl) (e_callV d_608_2 ml_6_74 fit_608_603 par_603 rfl rfl sh_12 (Nat.le_of_ble_eq_true rfl) (Nat.le_of_ble_eq_true rfl) (Nat.le_of_ble_eq_true rfl) rfl (by decide) rfl))
theorem b608_5 {x1 x2 y0 : Int} {σ : SS} : ev 608 5 [qR 12, qI x1, qI x2] [qI y0] σ = if y0 = 0 then ev 608 33 [qR 12, qI x1, qI x2] [] σ else ev 608 8 [qR 12, qI x1, qI x2] [] σ :=
  e_if_eq d_608_5 (by decide)
theorem b608_8 {x1 x2 : Int} {σ : SS} : ev 608 8 [qR 12, qI x1, qI x2] [] σ = if x2 < 0 then ev 608 33 [qR 12, qI x1, qI x2] [] σ else ev 608 12 [qR 12, qI x1, qI x2] [] σ :=
  Eq.trans (e_iload_n d_608_8 rfl) (e_if_lt d_608_9 (by decide))
theorem b608_12 {x1 x2 : Int} {σ : SS} (h : 0 ≤ x1 ∧ x1 < 6) : ev 608 12 [qR 12, qI x1, qI x2] [] σ = if (σ 20 x1.toNat) < 1 then ev 608 33 [qR 12, qI x1, qI x2] [] σ else ev 608 22 [qR 12, qI x1, qI x2] [] σ :=
  Eq.trans (e_aload_n d_608_12 rfl) (Eq.trans (e_getR d_608_13 fl_6_33 sh_12 rfl) (Eq.trans (e_iload_n d_608_16 rfl) (Eq.trans (e_iald d_608_17 sh_20 h) (Eq.trans (e_iconst d_608_18 k_1) (e_icmp_lt d_608_19 (by decide))))))
theorem b608_22 {x1 x2 : Int} {σ : SS} (h : 0 ≤ x1 ∧ x1 < 6) : ev 608 22 [qR 12, qI x1, qI x2] [] σ = if 6 < (σ 20 x1.toNat) then ev 608 33 [qR 12, qI x1, qI x2] [] σ else ev 608 35 [qR 12, qI x1, qI x2] [] σ :=
  Eq.trans (e_aload_n d_608_22 rfl) (Eq.trans (e_getR d_608_23 fl_6_33 sh_12 rfl) (Eq.trans (e_iload_n d_608_26 rfl) (Eq.trans (e_iald d_608_27 sh_20 h) (Eq.trans (e_bipush d_608_28 kb_6) (e_icmp_le d_608_30 (by decide))))))
theorem b608_33 {x1 x2 : Int} {σ : SS} : ev 608 33 [qR 12, qI x1, qI x2] [] σ = some (some (qI (-1)), σ) :=
  Eq.trans (e_iconst d_608_33 k_m1) (e_iret d_608_34 (q_okrI rfl))
theorem b608_35 {x1 x2 : Int} {σ : SS} (h : (-2147483648 ≤ (x1 * 6) ∧ (x1 * 6) ≤ 2147483647) ∧ (0 ≤ x1 ∧ x1 < 6) ∧ (0 ≤ x2 ∧ x2 ≤ 2147483647 ∧ (0 : Int) < (σ 20 x1.toNat) ∧ ((σ 20 x1.toNat) : Int) ≤ 2147483647) ∧ (-2147483648 ≤ ((x1 * 6) + (x2 % (σ 20 x1.toNat))) ∧ ((x1 * 6) + (x2 % (σ 20 x1.toNat))) ≤ 2147483647) ∧ (0 ≤ ((x1 * 6) + (x2 % (σ 20 x1.toNat))) ∧ ((x1 * 6) + (x2 % (σ 20 x1.toNat))) < 36)) : ev 608 35 [qR 12, qI x1, qI x2] [] σ = some (some (qI (σ 19 ((x1 * 6) + (x2 % (σ 20 x1.toNat))).toNat)), σ) :=
  Eq.trans (e_aload_n d_608_35 rfl) (Eq.trans (e_getR d_608_36 fl_6_30 sh_12 rfl) (Eq.trans (e_iload_n d_608_39 rfl) (Eq.trans (e_bipush d_608_40 kb_6) (Eq.trans (e_imul d_608_42 h.1) (Eq.trans (e_iload_n d_608_43 rfl) (Eq.trans (e_aload_n d_608_44 rfl) (Eq.trans (e_getR d_608_45 fl_6_33 sh_12 rfl) (Eq.trans (e_iload_n d_608_48 rfl) (Eq.trans (e_iald d_608_49 sh_20 h.2.1) (Eq.trans (e_irem d_608_50 h.2.2.1) (Eq.trans (e_iadd d_608_51 h.2.2.2.1) (Eq.trans (e_iald d_608_52 sh_19 h.2.2.2.2) (e_iret d_608_53 (q_okrI rfl))))))))))))))
theorem b604_0 {x1 : Int} {σ : SS} : ev 604 0 [qR 3, qI x1] [] σ = if (σ 3 8) < 6 then ev 604 9 [qR 3, qI x1] [] σ else ev 604 39 [qR 3, qI x1] [] σ :=
  Eq.trans (e_aload_n d_604_0 rfl) (Eq.trans (e_getI d_604_1 fl_6_39 sh_3 rfl) (Eq.trans (e_bipush d_604_4 kb_6) (e_icmp_ge d_604_6 (by decide))))
theorem b604_9 {x1 : Int} {σ : SS} (h : (0 ≤ (σ 3 8) ∧ (σ 3 8) < 6) ∧ (-2147483648 ≤ ((σ 3 8) + 1) ∧ ((σ 3 8) + 1) ≤ 2147483647)) : ev 604 9 [qR 3, qI x1] [] σ = ev 604 39 [qR 3, qI x1] [] (q_put (q_put (q_put σ 4 (σ 3 8).toNat x1) 5 (σ 3 8).toNat 0) 3 8 ((σ 3 8) + 1)) :=
  Eq.trans (e_aload_n d_604_9 rfl) (Eq.trans (e_getR d_604_10 fl_6_9 sh_3 rfl) (Eq.trans (e_aload_n d_604_13 rfl) (Eq.trans (e_getI d_604_14 fl_6_39 sh_3 rfl) (Eq.trans (e_iload_n d_604_17 rfl) (Eq.trans (e_iast d_604_18 sh_4 h.1) (Eq.trans (e_aload_n d_604_19 rfl) (Eq.trans (e_getR d_604_20 fl_6_15 sh_3 rfl) (Eq.trans (e_aload_n d_604_23 rfl) (Eq.trans (e_getI d_604_24 fl_6_39 sh_3 rfl) (Eq.trans (e_iconst d_604_27 k_0) (Eq.trans (e_iast d_604_28 sh_5 h.1) (Eq.trans (e_aload_n d_604_29 rfl) (Eq.trans (e_dup d_604_30 rfl) (Eq.trans (e_getI d_604_31 fl_6_39 sh_3 rfl) (Eq.trans (e_iconst d_604_34 k_1) (Eq.trans (e_iadd d_604_35 h.2) (e_put d_604_36 fl_6_39 sh_3 rfl rfl rfl)))))))))))))))))
theorem b604_39 {x1 : Int} {σ : SS} : ev 604 39 [qR 3, qI x1] [] σ = some (none, σ) :=
  e_vret d_604_39 rfl
theorem b609x1_0 {x1 : Int} {σ : SS} : ev 609 0 [qR 3, qI x1] [] σ = (ev 602 0 [qR 3, qI x1] [] σ).bind (fun x => ev 609 5 [qR 3, qI x1] (q_push x.1 []) x.2) :=
  Eq.trans (e_aload_n d_609_0 rfl) (Eq.trans (e_iload_n d_609_1 rfl) (e_callV d_609_2 ml_6_70 fit_609_602 par_602 rfl rfl sh_3 (Nat.le_of_ble_eq_true rfl) (Nat.le_of_ble_eq_true rfl) (Nat.le_of_ble_eq_true rfl) rfl (by decide) rfl))
theorem b609x1_5 {x1 y0 : Int} {σ : SS} : ev 609 5 [qR 3, qI x1] [qI y0] σ = if y0 = 0 then ev 609 17 [qR 3, qI x1] [] σ else ev 609 8 [qR 3, qI x1] [] σ :=
  e_if_eq d_609_5 (by decide)
theorem b609x1_8 {x1 : Int} {σ : SS} (h : 0 ≤ x1 ∧ x1 < 6) : ev 609 8 [qR 3, qI x1] [] σ = ev 609 18 [qR 3, qI x1] [qI (σ 5 x1.toNat)] σ :=
  Eq.trans (e_aload_n d_609_8 rfl) (Eq.trans (e_getR d_609_9 fl_6_15 sh_3 rfl) (Eq.trans (e_iload_n d_609_12 rfl) (Eq.trans (e_iald d_609_13 sh_5 h) (e_goto d_609_14 (by decide)))))
theorem b609x1_17 {x1 : Int} {σ : SS} : ev 609 17 [qR 3, qI x1] [] σ = ev 609 18 [qR 3, qI x1] [qI 0] σ :=
  e_iconst d_609_17 k_0
theorem b609x1_18 {x1 y0 : Int} {σ : SS} : ev 609 18 [qR 3, qI x1] [qI y0] σ = some (some (qI y0), σ) :=
  e_iret d_609_18 (q_okrI rfl)
theorem b605_0 {x1 x2 : Int} {σ : SS} : ev 605 0 [qR 3, qI x1, qI x2] [] σ = (ev 602 0 [qR 3, qI x1] [] σ).bind (fun x => ev 605 5 [qR 3, qI x1, qI x2] (q_push x.1 []) x.2) :=
  Eq.trans (e_aload_n d_605_0 rfl) (Eq.trans (e_iload_n d_605_1 rfl) (e_callV d_605_2 ml_6_70 fit_605_602 par_602 rfl rfl sh_3 (Nat.le_of_ble_eq_true rfl) (Nat.le_of_ble_eq_true rfl) (Nat.le_of_ble_eq_true rfl) rfl (by decide) rfl))
theorem b605_5 {x1 x2 y0 : Int} {σ : SS} : ev 605 5 [qR 3, qI x1, qI x2] [qI y0] σ = if y0 = 0 then ev 605 50 [qR 3, qI x1, qI x2] [] σ else ev 605 8 [qR 3, qI x1, qI x2] [] σ :=
  e_if_eq d_605_5 (by decide)
theorem b605_8 {x1 x2 : Int} {σ : SS} : ev 605 8 [qR 3, qI x1, qI x2] [] σ = (ev 602 0 [qR 3, qI x2] [] σ).bind (fun x => ev 605 13 [qR 3, qI x1, qI x2] (q_push x.1 []) x.2) :=
  Eq.trans (e_aload_n d_605_8 rfl) (Eq.trans (e_iload_n d_605_9 rfl) (e_callV d_605_10 ml_6_70 fit_605_602 par_602 rfl rfl sh_3 (Nat.le_of_ble_eq_true rfl) (Nat.le_of_ble_eq_true rfl) (Nat.le_of_ble_eq_true rfl) rfl (by decide) rfl))
theorem b605_13 {x1 x2 y0 : Int} {σ : SS} : ev 605 13 [qR 3, qI x1, qI x2] [qI y0] σ = if y0 = 0 then ev 605 50 [qR 3, qI x1, qI x2] [] σ else ev 605 16 [qR 3, qI x1, qI x2] [] σ :=
  e_if_eq d_605_13 (by decide)
theorem b605_16 {x1 x2 : Int} {σ : SS} (h : (0 ≤ x1 ∧ x1 < 6) ∧ (0 ≤ x2 ∧ x2 < 6) ∧ (-2147483648 ≤ ((σ 3 9) + 1) ∧ ((σ 3 9) + 1) ≤ 2147483647)) : ev 605 16 [qR 3, qI x1, qI x2] [] σ = ev 605 50 [qR 3, qI x1, qI x2] [] (q_put (q_put (q_put σ 5 x1.toNat (q_or (σ 5 x1.toNat) (q_shl 1 x2))) 5 x2.toNat (q_or ((q_put σ 5 x1.toNat (q_or (σ 5 x1.toNat) (q_shl 1 x2))) 5 x2.toNat) (q_shl 1 x1))) 3 9 ((σ 3 9) + 1)) :=
  Eq.trans (e_aload_n d_605_16 rfl) (Eq.trans (e_getR d_605_17 fl_6_15 sh_3 rfl) (Eq.trans (e_iload_n d_605_20 rfl) (Eq.trans (e_dup2 d_605_21 rfl rfl) (Eq.trans (e_iald d_605_22 sh_5 h.1) (Eq.trans (e_iconst d_605_23 k_1) (Eq.trans (e_iload_n d_605_24 rfl) (Eq.trans (e_ishl d_605_25) (Eq.trans (e_ior d_605_26) (Eq.trans (e_iast d_605_27 sh_5 h.1) (Eq.trans (e_aload_n d_605_28 rfl) (Eq.trans (e_getR d_605_29 fl_6_15 sh_3 rfl) (Eq.trans (e_iload_n d_605_32 rfl) (Eq.trans (e_dup2 d_605_33 rfl rfl) (Eq.trans (e_iald d_605_34 sh_5 h.2.1) (Eq.trans (e_iconst d_605_35 k_1) (Eq.trans (e_iload_n d_605_36 rfl) (Eq.trans (e_ishl d_605_37) (Eq.trans (e_ior d_605_38) (Eq.trans (e_iast d_605_39 sh_5 h.2.1) (Eq.trans (e_aload_n d_605_40 rfl) (Eq.trans (e_dup d_605_41 rfl) (Eq.trans (e_getI d_605_42 fl_6_43 sh_3 rfl) (Eq.trans (e_iconst d_605_45 k_1) (Eq.trans (e_iadd d_605_46 h.2.2) (e_put d_605_47 fl_6_43 sh_3 rfl rfl rfl)))))))))))))))))))))))))
theorem b605_50 {x1 x2 : Int} {σ : SS} : ev 605 50 [qR 3, qI x1, qI x2] [] σ = some (none, σ) :=
  e_vret d_605_50 rfl
theorem b606_0 {x1 x2 x3 x4 : Int} {σ : SS} : ev 606 0 [qR 3, qI x1, qI x2, qI x3, qI x4] [] σ = if (σ 3 10) < 6 then ev 606 9 [qR 3, qI x1, qI x2, qI x3, qI x4] [] σ else ev 606 83 [qR 3, qI x1, qI x2, qI x3, qI x4] [] σ :=
  Eq.trans (e_aload_n d_606_0 rfl) (Eq.trans (e_getI d_606_1 fl_6_46 sh_3 rfl) (Eq.trans (e_bipush d_606_4 kb_6) (e_icmp_ge d_606_6 (by decide))))
theorem b606_9 {x1 x2 x3 x4 : Int} {σ : SS} (h : (0 ≤ (σ 3 10) ∧ (σ 3 10) < 6) ∧ (-2147483648 ≤ ((σ 3 10) * 6) ∧ ((σ 3 10) * 6) ≤ 2147483647) ∧ (0 ≤ ((σ 3 10) * 6) ∧ ((σ 3 10) * 6) < 36) ∧ (-2147483648 ≤ ((σ 3 10) + 1) ∧ ((σ 3 10) + 1) ≤ 2147483647)) : ev 606 9 [qR 3, qI x1, qI x2, qI x3, qI x4] [] σ = ev 606 83 [qR 3, qI x1, qI x2, qI x3, qI x4] [] (q_put (q_put (q_put (q_put (q_put (q_put (q_put σ 6 (σ 3 10).toNat x1) 7 (σ 3 10).toNat x2) 8 (σ 3 10).toNat x3) 9 (σ 3 10).toNat x4) 10 ((σ 3 10) * 6).toNat 0) 11 (σ 3 10).toNat 1) 3 10 ((σ 3 10) + 1)) :=
  Eq.trans (e_aload_n d_606_9 rfl) (Eq.trans (e_getR d_606_10 fl_6_18 sh_3 rfl) (Eq.trans (e_aload_n d_606_13 rfl) (Eq.trans (e_getI d_606_14 fl_6_46 sh_3 rfl) (Eq.trans (e_iload_n d_606_17 rfl) (Eq.trans (e_iast d_606_18 sh_6 h.1) (Eq.trans (e_aload_n d_606_19 rfl) (Eq.trans (e_getR d_606_20 fl_6_21 sh_3 rfl) (Eq.trans (e_aload_n d_606_23 rfl) (Eq.trans (e_getI d_606_24 fl_6_46 sh_3 rfl) (Eq.trans (e_iload_n d_606_27 rfl) (Eq.trans (e_iast d_606_28 sh_7 h.1) (Eq.trans (e_aload_n d_606_29 rfl) (Eq.trans (e_getR d_606_30 fl_6_24 sh_3 rfl) (Eq.trans (e_aload_n d_606_33 rfl) (Eq.trans (e_getI d_606_34 fl_6_46 sh_3 rfl) (Eq.trans (e_iload_n d_606_37 rfl) (Eq.trans (e_iast d_606_38 sh_8 h.1) (Eq.trans (e_aload_n d_606_39 rfl) (Eq.trans (e_getR d_606_40 fl_6_27 sh_3 rfl) (Eq.trans (e_aload_n d_606_43 rfl) (Eq.trans (e_getI d_606_44 fl_6_46 sh_3 rfl) (Eq.trans (e_iload d_606_47 rfl) (Eq.trans (e_iast d_606_49 sh_9 h.1) (Eq.trans (e_aload_n d_606_50 rfl) (Eq.trans (e_getR d_606_51 fl_6_30 sh_3 rfl) (Eq.trans (e_aload_n d_606_54 rfl) (Eq.trans (e_getI d_606_55 fl_6_46 sh_3 rfl) (Eq.trans (e_bipush d_606_58 kb_6) (Eq.trans (e_imul d_606_60 h.2.1) (Eq.trans (e_iconst d_606_61 k_0) (Eq.trans (e_iast d_606_62 sh_10 h.2.2.1) (Eq.trans (e_aload_n d_606_63 rfl) (Eq.trans (e_getR d_606_64 fl_6_33 sh_3 rfl) (Eq.trans (e_aload_n d_606_67 rfl) (Eq.trans (e_getI d_606_68 fl_6_46 sh_3 rfl) (Eq.trans (e_iconst d_606_71 k_1) (Eq.trans (e_iast d_606_72 sh_11 h.1) (Eq.trans (e_aload_n d_606_73 rfl) (Eq.trans (e_dup d_606_74 rfl) (Eq.trans (e_getI d_606_75 fl_6_46 sh_3 rfl) (Eq.trans (e_iconst d_606_78 k_1) (Eq.trans (e_iadd d_606_79 h.2.2.2) (e_put d_606_80 fl_6_46 sh_3 rfl rfl rfl)))))))))))))))))))))))))))))))))))))))))))
theorem b606_83 {x1 x2 x3 x4 : Int} {σ : SS} : ev 606 83 [qR 3, qI x1, qI x2, qI x3, qI x4] [] σ = some (none, σ) :=
  e_vret d_606_83 rfl
theorem b602x1_0 {x1 : Int} {σ : SS} : ev 602 0 [qR 3, qI x1] [] σ = if x1 < 0 then ev 602 22 [qR 3, qI x1] [] σ else ev 602 4 [qR 3, qI x1] [] σ :=
  Eq.trans (e_iload_n d_602_0 rfl) (e_if_lt d_602_1 (by decide))
theorem b602x1_4 {x1 : Int} {σ : SS} : ev 602 4 [qR 3, qI x1] [] σ = if x1 < (σ 3 8) then ev 602 12 [qR 3, qI x1] [] σ else ev 602 22 [qR 3, qI x1] [] σ :=
  Eq.trans (e_iload_n d_602_4 rfl) (Eq.trans (e_aload_n d_602_5 rfl) (Eq.trans (e_getI d_602_6 fl_6_39 sh_3 rfl) (e_icmp_ge d_602_9 (by decide))))
theorem b602x1_12 {x1 : Int} {σ : SS} : ev 602 12 [qR 3, qI x1] [] σ = if x1 < 6 then ev 602 18 [qR 3, qI x1] [] σ else ev 602 22 [qR 3, qI x1] [] σ :=
  Eq.trans (e_iload_n d_602_12 rfl) (Eq.trans (e_bipush d_602_13 kb_6) (e_icmp_ge d_602_15 (by decide)))
theorem b602x1_18 {x1 : Int} {σ : SS} : ev 602 18 [qR 3, qI x1] [] σ = ev 602 23 [qR 3, qI x1] [qI 1] σ :=
  Eq.trans (e_iconst d_602_18 k_1) (e_goto d_602_19 (by decide))
theorem b602x1_22 {x1 : Int} {σ : SS} : ev 602 22 [qR 3, qI x1] [] σ = ev 602 23 [qR 3, qI x1] [qI 0] σ :=
  e_iconst d_602_22 k_0
theorem b602x1_23 {x1 y0 : Int} {σ : SS} (h : y0 = 0 ∨ y0 = 1) : ev 602 23 [qR 3, qI x1] [qI y0] σ = some (some (qI y0), σ) :=
  e_iret d_602_23 (q_okrZ rfl h)
theorem b607_0 {x1 x2 x3 : Int} {σ : SS} : ev 607 0 [qR 3, qI x1, qI x2, qI x3] [] σ = (ev 603 0 [qR 3, qI x1] [] σ).bind (fun x => ev 607 5 [qR 3, qI x1, qI x2, qI x3] (q_push x.1 []) x.2) :=
  Eq.trans (e_aload_n d_607_0 rfl) (Eq.trans (e_iload_n d_607_1 rfl) (e_callV d_607_2 ml_6_74 fit_607_603 par_603 rfl rfl sh_3 (Nat.le_of_ble_eq_true rfl) (Nat.le_of_ble_eq_true rfl) (Nat.le_of_ble_eq_true rfl) rfl (by decide) rfl))
theorem b607_5 {x1 x2 x3 y0 : Int} {σ : SS} : ev 607 5 [qR 3, qI x1, qI x2, qI x3] [qI y0] σ = if y0 = 0 then ev 607 39 [qR 3, qI x1, qI x2, qI x3] [] σ else ev 607 8 [qR 3, qI x1, qI x2, qI x3] [] σ :=
  e_if_eq d_607_5 (by decide)
theorem b607_8 {x1 x2 x3 : Int} {σ : SS} : ev 607 8 [qR 3, qI x1, qI x2, qI x3] [] σ = if x2 < 0 then ev 607 39 [qR 3, qI x1, qI x2, qI x3] [] σ else ev 607 12 [qR 3, qI x1, qI x2, qI x3] [] σ :=
  Eq.trans (e_iload_n d_607_8 rfl) (e_if_lt d_607_9 (by decide))
theorem b607_12 {x1 x2 x3 : Int} {σ : SS} : ev 607 12 [qR 3, qI x1, qI x2, qI x3] [] σ = if x2 < 6 then ev 607 18 [qR 3, qI x1, qI x2, qI x3] [] σ else ev 607 39 [qR 3, qI x1, qI x2, qI x3] [] σ :=
  Eq.trans (e_iload_n d_607_12 rfl) (Eq.trans (e_bipush d_607_13 kb_6) (e_icmp_ge d_607_15 (by decide)))
theorem b607_18 {x1 x2 x3 : Int} {σ : SS} (h : (-2147483648 ≤ (x1 * 6) ∧ (x1 * 6) ≤ 2147483647) ∧ (-2147483648 ≤ ((x1 * 6) + x2) ∧ ((x1 * 6) + x2) ≤ 2147483647) ∧ (0 ≤ ((x1 * 6) + x2) ∧ ((x1 * 6) + x2) < 36) ∧ (-2147483648 ≤ (x2 + 1) ∧ (x2 + 1) ≤ 2147483647) ∧ (0 ≤ x1 ∧ x1 < 6)) : ev 607 18 [qR 3, qI x1, qI x2, qI x3] [] σ = ev 607 39 [qR 3, qI x1, qI x2, qI x3] [] (q_put (q_put σ 10 ((x1 * 6) + x2).toNat x3) 11 x1.toNat (x2 + 1)) :=
  Eq.trans (e_aload_n d_607_18 rfl) (Eq.trans (e_getR d_607_19 fl_6_30 sh_3 rfl) (Eq.trans (e_iload_n d_607_22 rfl) (Eq.trans (e_bipush d_607_23 kb_6) (Eq.trans (e_imul d_607_25 h.1) (Eq.trans (e_iload_n d_607_26 rfl) (Eq.trans (e_iadd d_607_27 h.2.1) (Eq.trans (e_iload_n d_607_28 rfl) (Eq.trans (e_iast d_607_29 sh_10 h.2.2.1) (Eq.trans (e_aload_n d_607_30 rfl) (Eq.trans (e_getR d_607_31 fl_6_33 sh_3 rfl) (Eq.trans (e_iload_n d_607_34 rfl) (Eq.trans (e_iload_n d_607_35 rfl) (Eq.trans (e_iconst d_607_36 k_1) (Eq.trans (e_iadd d_607_37 h.2.2.2.1) (e_iast d_607_38 sh_11 h.2.2.2.2)))))))))))))))
theorem b607_39 {x1 x2 x3 : Int} {σ : SS} : ev 607 39 [qR 3, qI x1, qI x2, qI x3] [] σ = some (none, σ) :=
  e_vret d_607_39 rfl
theorem b603x1_0 {x1 : Int} {σ : SS} : ev 603 0 [qR 3, qI x1] [] σ = if x1 < 0 then ev 603 22 [qR 3, qI x1] [] σ else ev 603 4 [qR 3, qI x1] [] σ :=
  Eq.trans (e_iload_n d_603_0 rfl) (e_if_lt d_603_1 (by decide))
theorem b603x1_4 {x1 : Int} {σ : SS} : ev 603 4 [qR 3, qI x1] [] σ = if x1 < (σ 3 10) then ev 603 12 [qR 3, qI x1] [] σ else ev 603 22 [qR 3, qI x1] [] σ :=
  Eq.trans (e_iload_n d_603_4 rfl) (Eq.trans (e_aload_n d_603_5 rfl) (Eq.trans (e_getI d_603_6 fl_6_46 sh_3 rfl) (e_icmp_ge d_603_9 (by decide))))
theorem b603x1_12 {x1 : Int} {σ : SS} : ev 603 12 [qR 3, qI x1] [] σ = if x1 < 6 then ev 603 18 [qR 3, qI x1] [] σ else ev 603 22 [qR 3, qI x1] [] σ :=
  Eq.trans (e_iload_n d_603_12 rfl) (Eq.trans (e_bipush d_603_13 kb_6) (e_icmp_ge d_603_15 (by decide)))
theorem b603x1_18 {x1 : Int} {σ : SS} : ev 603 18 [qR 3, qI x1] [] σ = ev 603 23 [qR 3, qI x1] [qI 1] σ :=
  Eq.trans (e_iconst d_603_18 k_1) (e_goto d_603_19 (by decide))
theorem b603x1_22 {x1 : Int} {σ : SS} : ev 603 22 [qR 3, qI x1] [] σ = ev 603 23 [qR 3, qI x1] [qI 0] σ :=
  e_iconst d_603_22 k_0
theorem b603x1_23 {x1 y0 : Int} {σ : SS} (h : y0 = 0 ∨ y0 = 1) : ev 603 23 [qR 3, qI x1] [qI y0] σ = some (some (qI y0), σ) :=
  e_iret d_603_23 (q_okrZ rfl h)
