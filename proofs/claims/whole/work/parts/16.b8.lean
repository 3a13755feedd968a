theorem d_800_0 : decode (mB 800) 0 = .ok (.iload_n 1, 1) := by decide +kernel
theorem d_800_1 : decode (mB 800) 1 = .ok (.ifCond .lt 10, 3) := by decide +kernel
theorem d_800_4 : decode (mB 800) 4 = .ok (.iload_n 1, 1) := by decide +kernel
theorem d_800_5 : decode (mB 800) 5 = .ok (.sipush 255, 3) := by decide +kernel
theorem d_800_8 : decode (mB 800) 8 = .ok (.if_icmp .le 6, 3) := by decide +kernel
theorem d_800_11 : decode (mB 800) 11 = .ok (.ldc 82, 2) := by decide +kernel
theorem d_800_13 : decode (mB 800) 13 = .ok (.ireturn, 1) := by decide +kernel
theorem d_800_14 : decode (mB 800) 14 = .ok (.aload_n 0, 1) := by decide +kernel
theorem d_800_15 : decode (mB 800) 15 = .ok (.getfield 10, 3) := by decide +kernel
theorem d_800_18 : decode (mB 800) 18 = .ok (.getfield 83, 3) := by decide +kernel
theorem d_800_21 : decode (mB 800) 21 = .ok (.sipush 300, 3) := by decide +kernel
theorem d_800_24 : decode (mB 800) 24 = .ok (.if_icmp .lt 6, 3) := by decide +kernel
theorem d_800_27 : decode (mB 800) 27 = .ok (.ldc 86, 2) := by decide +kernel
theorem d_800_29 : decode (mB 800) 29 = .ok (.ireturn, 1) := by decide +kernel
theorem d_800_30 : decode (mB 800) 30 = .ok (.aload_n 0, 1) := by decide +kernel
theorem d_800_31 : decode (mB 800) 31 = .ok (.getfield 10, 3) := by decide +kernel
theorem d_800_34 : decode (mB 800) 34 = .ok (.getfield 87, 3) := by decide +kernel
theorem d_800_37 : decode (mB 800) 37 = .ok (.aload_n 0, 1) := by decide +kernel
theorem d_800_38 : decode (mB 800) 38 = .ok (.getfield 10, 3) := by decide +kernel
theorem d_800_41 : decode (mB 800) 41 = .ok (.getfield 83, 3) := by decide +kernel
theorem d_800_44 : decode (mB 800) 44 = .ok (.iload_n 1, 1) := by decide +kernel
theorem d_800_45 : decode (mB 800) 45 = .ok (.iastore, 1) := by decide +kernel
theorem d_800_46 : decode (mB 800) 46 = .ok (.aload_n 0, 1) := by decide +kernel
theorem d_800_47 : decode (mB 800) 47 = .ok (.getfield 10, 3) := by decide +kernel
theorem d_800_50 : decode (mB 800) 50 = .ok (.dup, 1) := by decide +kernel
theorem d_800_51 : decode (mB 800) 51 = .ok (.getfield 83, 3) := by decide +kernel
theorem d_800_54 : decode (mB 800) 54 = .ok (.iconst 1, 1) := by decide +kernel
theorem d_800_55 : decode (mB 800) 55 = .ok (.iadd, 1) := by decide +kernel
theorem d_800_56 : decode (mB 800) 56 = .ok (.putfield 83, 3) := by decide +kernel
theorem d_800_59 : decode (mB 800) 59 = .ok (.aload_n 0, 1) := by decide +kernel
theorem d_800_60 : decode (mB 800) 60 = .ok (.getfield 10, 3) := by decide +kernel
theorem d_800_63 : decode (mB 800) 63 = .ok (.getfield 83, 3) := by decide +kernel
theorem d_800_66 : decode (mB 800) 66 = .ok (.ireturn, 1) := by decide +kernel
theorem d_801_0 : decode (mB 801) 0 = .ok (.aload_n 0, 1) := by decide +kernel
theorem d_801_1 : decode (mB 801) 1 = .ok (.getfield 10, 3) := by decide +kernel
theorem d_801_4 : decode (mB 801) 4 = .ok (.aload_n 0, 1) := by decide +kernel
theorem d_801_5 : decode (mB 801) 5 = .ok (.getfield 19, 3) := by decide +kernel
theorem d_801_8 : decode (mB 801) 8 = .ok (.invokevirtual 91, 3) := by decide +kernel
theorem d_801_11 : decode (mB 801) 11 = .ok (.ifCond .ne 14, 3) := by decide +kernel
theorem d_801_14 : decode (mB 801) 14 = .ok (.bipush (-10), 2) := by decide +kernel
theorem d_801_16 : decode (mB 801) 16 = .ok (.aload_n 0, 1) := by decide +kernel
theorem d_801_17 : decode (mB 801) 17 = .ok (.getfield 10, 3) := by decide +kernel
theorem d_801_20 : decode (mB 801) 20 = .ok (.getfield 95, 3) := by decide +kernel
theorem d_801_23 : decode (mB 801) 23 = .ok (.isub, 1) := by decide +kernel
theorem d_801_24 : decode (mB 801) 24 = .ok (.ireturn, 1) := by decide +kernel
theorem d_801_25 : decode (mB 801) 25 = .ok (.aload_n 0, 1) := by decide +kernel
theorem d_801_26 : decode (mB 801) 26 = .ok (.getfield 23, 3) := by decide +kernel
theorem d_801_29 : decode (mB 801) 29 = .ok (.aload_n 0, 1) := by decide +kernel
theorem d_801_30 : decode (mB 801) 30 = .ok (.getfield 19, 3) := by decide +kernel
theorem d_801_33 : decode (mB 801) 33 = .ok (.invokevirtual 98, 3) := by decide +kernel
theorem d_801_36 : decode (mB 801) 36 = .ok (.aload_n 0, 1) := by decide +kernel
theorem d_801_37 : decode (mB 801) 37 = .ok (.getfield 29, 3) := by decide +kernel
theorem d_801_40 : decode (mB 801) 40 = .ok (.aload_n 0, 1) := by decide +kernel
theorem d_801_41 : decode (mB 801) 41 = .ok (.getfield 23, 3) := by decide +kernel
theorem d_801_44 : decode (mB 801) 44 = .ok (.invokevirtual 101, 3) := by decide +kernel
theorem d_801_47 : decode (mB 801) 47 = .ok (.aload_n 0, 1) := by decide +kernel
theorem d_801_48 : decode (mB 801) 48 = .ok (.getfield 53, 3) := by decide +kernel
theorem d_801_51 : decode (mB 801) 51 = .ok (.invokevirtual 104, 3) := by decide +kernel
theorem d_801_54 : decode (mB 801) 54 = .ok (.aload_n 0, 1) := by decide +kernel
theorem d_801_55 : decode (mB 801) 55 = .ok (.iconst 0, 1) := by decide +kernel
theorem d_801_56 : decode (mB 801) 56 = .ok (.putfield 37, 3) := by decide +kernel
theorem d_801_59 : decode (mB 801) 59 = .ok (.aload_n 0, 1) := by decide +kernel
theorem d_801_60 : decode (mB 801) 60 = .ok (.getfield 23, 3) := by decide +kernel
theorem d_801_63 : decode (mB 801) 63 = .ok (.getfield 107, 3) := by decide +kernel
theorem d_801_66 : decode (mB 801) 66 = .ok (.ireturn, 1) := by decide +kernel
theorem d_802_0 : decode (mB 802) 0 = .ok (.aload_n 0, 1) := by decide +kernel
theorem d_802_1 : decode (mB 802) 1 = .ok (.getfield 10, 3) := by decide +kernel
theorem d_802_4 : decode (mB 802) 4 = .ok (.getfield 110, 3) := by decide +kernel
theorem d_802_7 : decode (mB 802) 7 = .ok (.ireturn, 1) := by decide +kernel
theorem d_803_0 : decode (mB 803) 0 = .ok (.iload_n 1, 1) := by decide +kernel
theorem d_803_1 : decode (mB 803) 1 = .ok (.ifCond .lt 9, 3) := by decide +kernel
theorem d_803_4 : decode (mB 803) 4 = .ok (.iload_n 1, 1) := by decide +kernel
theorem d_803_5 : decode (mB 803) 5 = .ok (.bipush 17, 2) := by decide +kernel
theorem d_803_7 : decode (mB 803) 7 = .ok (.if_icmp .le 6, 3) := by decide +kernel
theorem d_803_10 : decode (mB 803) 10 = .ok (.ldc 82, 2) := by decide +kernel
theorem d_803_12 : decode (mB 803) 12 = .ok (.ireturn, 1) := by decide +kernel
theorem d_803_13 : decode (mB 803) 13 = .ok (.iload_n 1, 1) := by decide +kernel
theorem d_803_14 : decode (mB 803) 14 = .ok (.bipush 9, 2) := by decide +kernel
theorem d_803_16 : decode (mB 803) 16 = .ok (.if_icmp .ge 11, 3) := by decide +kernel
theorem d_803_19 : decode (mB 803) 19 = .ok (.aload_n 0, 1) := by decide +kernel
theorem d_803_20 : decode (mB 803) 20 = .ok (.iload_n 1, 1) := by decide +kernel
theorem d_803_21 : decode (mB 803) 21 = .ok (.invokevirtual 113, 3) := by decide +kernel
theorem d_803_24 : decode (mB 803) 24 = .ok (.goto 8, 3) := by decide +kernel
theorem d_803_27 : decode (mB 803) 27 = .ok (.aload_n 0, 1) := by decide +kernel
theorem d_803_28 : decode (mB 803) 28 = .ok (.iload_n 1, 1) := by decide +kernel
theorem d_803_29 : decode (mB 803) 29 = .ok (.invokevirtual 117, 3) := by decide +kernel
theorem d_803_32 : decode (mB 803) 32 = .ok (.ireturn, 1) := by decide +kernel
theorem d_806_0 : decode (mB 806) 0 = .ok (.aload_n 0, 1) := by decide +kernel
theorem d_806_1 : decode (mB 806) 1 = .ok (.getfield 23, 3) := by decide +kernel
theorem d_806_4 : decode (mB 806) 4 = .ok (.iload_n 1, 1) := by decide +kernel
theorem d_806_5 : decode (mB 806) 5 = .ok (.invokevirtual 170, 3) := by decide +kernel
theorem d_806_8 : decode (mB 806) 8 = .ok (.ifCond .ne 6, 3) := by decide +kernel
theorem d_806_11 : decode (mB 806) 11 = .ok (.ldc 174, 2) := by decide +kernel
theorem d_806_13 : decode (mB 806) 13 = .ok (.ireturn, 1) := by decide +kernel
theorem d_806_14 : decode (mB 806) 14 = .ok (.iload_n 2, 1) := by decide +kernel
theorem d_806_15 : decode (mB 806) 15 = .ok (.tableswitch 51 0 2 #[25, 35, 45], 25) := by decide +kernel
theorem d_806_40 : decode (mB 806) 40 = .ok (.aload_n 0, 1) := by decide +kernel
theorem d_806_41 : decode (mB 806) 41 = .ok (.getfield 23, 3) := by decide +kernel
theorem d_806_44 : decode (mB 806) 44 = .ok (.getfield 175, 3) := by decide +kernel
theorem d_806_47 : decode (mB 806) 47 = .ok (.iload_n 1, 1) := by decide +kernel
theorem d_806_48 : decode (mB 806) 48 = .ok (.iaload, 1) := by decide +kernel
theorem d_806_49 : decode (mB 806) 49 = .ok (.ireturn, 1) := by decide +kernel
theorem d_806_50 : decode (mB 806) 50 = .ok (.aload_n 0, 1) := by decide +kernel
theorem d_806_51 : decode (mB 806) 51 = .ok (.getfield 23, 3) := by decide +kernel
theorem d_806_54 : decode (mB 806) 54 = .ok (.getfield 178, 3) := by decide +kernel
theorem d_806_57 : decode (mB 806) 57 = .ok (.iload_n 1, 1) := by decide +kernel
theorem d_806_58 : decode (mB 806) 58 = .ok (.iaload, 1) := by decide +kernel
theorem d_806_59 : decode (mB 806) 59 = .ok (.ireturn, 1) := by decide +kernel
theorem d_806_60 : decode (mB 806) 60 = .ok (.aload_n 0, 1) := by decide +kernel
theorem d_806_61 : decode (mB 806) 61 = .ok (.iload_n 1, 1) := by decide +kernel
theorem d_806_62 : decode (mB 806) 62 = .ok (.invokevirtual 181, 3) := by decide +kernel
theorem d_806_65 : decode (mB 806) 65 = .ok (.ireturn, 1) := by decide +kernel
theorem d_806_66 : decode (mB 806) 66 = .ok (.ldc 82, 2) := by decide +kernel
theorem d_806_68 : decode (mB 806) 68 = .ok (.ireturn, 1) := by decide +kernel
theorem d_808_0 : decode (mB 808) 0 = .ok (.aload_n 0, 1) := by decide +kernel
theorem d_808_1 : decode (mB 808) 1 = .ok (.getfield 23, 3) := by decide +kernel
theorem d_808_4 : decode (mB 808) 4 = .ok (.iload_n 1, 1) := by decide +kernel
theorem d_808_5 : decode (mB 808) 5 = .ok (.invokevirtual 187, 3) := by decide +kernel
theorem d_808_8 : decode (mB 808) 8 = .ok (.ifCond .ne 6, 3) := by decide +kernel
theorem d_808_11 : decode (mB 808) 11 = .ok (.ldc 174, 2) := by decide +kernel
theorem d_808_13 : decode (mB 808) 13 = .ok (.ireturn, 1) := by decide +kernel
theorem d_808_14 : decode (mB 808) 14 = .ok (.iload_n 2, 1) := by decide +kernel
theorem d_808_15 : decode (mB 808) 15 = .ok (.tableswitch 158 0 8 #[49, 59, 69, 79, 89, 99, 108, 124, 148], 49) := by decide +kernel
theorem d_808_64 : decode (mB 808) 64 = .ok (.aload_n 0, 1) := by decide +kernel
theorem d_808_65 : decode (mB 808) 65 = .ok (.getfield 29, 3) := by decide +kernel
theorem d_808_68 : decode (mB 808) 68 = .ok (.getfield 184, 3) := by decide +kernel
theorem d_808_71 : decode (mB 808) 71 = .ok (.iload_n 1, 1) := by decide +kernel
theorem d_808_72 : decode (mB 808) 72 = .ok (.iaload, 1) := by decide +kernel
theorem d_808_73 : decode (mB 808) 73 = .ok (.ireturn, 1) := by decide +kernel
theorem d_808_74 : decode (mB 808) 74 = .ok (.aload_n 0, 1) := by decide +kernel
theorem d_808_75 : decode (mB 808) 75 = .ok (.getfield 23, 3) := by decide +kernel
theorem d_808_78 : decode (mB 808) 78 = .ok (.getfield 190, 3) := by decide +kernel
theorem d_808_81 : decode (mB 808) 81 = .ok (.iload_n 1, 1) := by decide +kernel
theorem d_808_82 : decode (mB 808) 82 = .ok (.iaload, 1) := by decide +kernel
theorem d_808_83 : decode (mB 808) 83 = .ok (.ireturn, 1) := by decide +kernel
theorem d_808_84 : decode (mB 808) 84 = .ok (.aload_n 0, 1) := by decide +kernel
theorem d_808_85 : decode (mB 808) 85 = .ok (.getfield 23, 3) := by decide +kernel
theorem d_808_88 : decode (mB 808) 88 = .ok (.getfield 192, 3) := by decide +kernel
theorem d_808_91 : decode (mB 808) 91 = .ok (.iload_n 1, 1) := by decide +kernel
theorem d_808_92 : decode (mB 808) 92 = .ok (.iaload, 1) := by decide +kernel
theorem d_808_93 : decode (mB 808) 93 = .ok (.ireturn, 1) := by decide +kernel
theorem d_808_94 : decode (mB 808) 94 = .ok (.aload_n 0, 1) := by decide +kernel
theorem d_808_95 : decode (mB 808) 95 = .ok (.getfield 23, 3) := by decide +kernel
theorem d_808_98 : decode (mB 808) 98 = .ok (.getfield 195, 3) := by decide +kernel
theorem d_808_101 : decode (mB 808) 101 = .ok (.iload_n 1, 1) := by decide +kernel
theorem d_808_102 : decode (mB 808) 102 = .ok (.iaload, 1) := by decide +kernel
theorem d_808_103 : decode (mB 808) 103 = .ok (.ireturn, 1) := by decide +kernel
theorem d_808_104 : decode (mB 808) 104 = .ok (.aload_n 0, 1) := by decide +kernel
theorem d_808_105 : decode (mB 808) 105 = .ok (.getfield 29, 3) := by decide +kernel
theorem d_808_108 : decode (mB 808) 108 = .ok (.getfield 198, 3) := by decide +kernel
theorem d_808_111 : decode (mB 808) 111 = .ok (.iload_n 1, 1) := by decide +kernel
theorem d_808_112 : decode (mB 808) 112 = .ok (.iaload, 1) := by decide +kernel
theorem d_808_113 : decode (mB 808) 113 = .ok (.ireturn, 1) := by decide +kernel
theorem d_808_114 : decode (mB 808) 114 = .ok (.aload_n 0, 1) := by decide +kernel
theorem d_808_115 : decode (mB 808) 115 = .ok (.getfield 46, 3) := by decide +kernel
theorem d_808_118 : decode (mB 808) 118 = .ok (.iload_n 1, 1) := by decide +kernel
theorem d_808_119 : decode (mB 808) 119 = .ok (.invokevirtual 201, 3) := by decide +kernel
theorem d_808_122 : decode (mB 808) 122 = .ok (.ireturn, 1) := by decide +kernel
theorem d_808_123 : decode (mB 808) 123 = .ok (.aload_n 0, 1) := by decide +kernel
theorem d_808_124 : decode (mB 808) 124 = .ok (.getfield 46, 3) := by decide +kernel
theorem d_808_127 : decode (mB 808) 127 = .ok (.iload_n 1, 1) := by decide +kernel
theorem d_808_128 : decode (mB 808) 128 = .ok (.aload_n 0, 1) := by decide +kernel
theorem d_808_129 : decode (mB 808) 129 = .ok (.getfield 29, 3) := by decide +kernel
theorem d_808_132 : decode (mB 808) 132 = .ok (.getfield 141, 3) := by decide +kernel
theorem d_808_135 : decode (mB 808) 135 = .ok (.invokevirtual 204, 3) := by decide +kernel
theorem d_808_138 : decode (mB 808) 138 = .ok (.ireturn, 1) := by decide +kernel
theorem d_808_139 : decode (mB 808) 139 = .ok (.aload_n 0, 1) := by decide +kernel
theorem d_808_140 : decode (mB 808) 140 = .ok (.getfield 46, 3) := by decide +kernel
theorem d_808_143 : decode (mB 808) 143 = .ok (.iload_n 1, 1) := by decide +kernel
theorem d_808_144 : decode (mB 808) 144 = .ok (.aload_n 0, 1) := by decide +kernel
theorem d_808_145 : decode (mB 808) 145 = .ok (.getfield 29, 3) := by decide +kernel
theorem d_808_148 : decode (mB 808) 148 = .ok (.getfield 141, 3) := by decide +kernel
theorem d_808_151 : decode (mB 808) 151 = .ok (.invokevirtual 208, 3) := by decide +kernel
theorem d_808_154 : decode (mB 808) 154 = .ok (.ifCond .eq 7, 3) := by decide +kernel
theorem d_808_157 : decode (mB 808) 157 = .ok (.iconst 1, 1) := by decide +kernel
theorem d_808_158 : decode (mB 808) 158 = .ok (.goto 4, 3) := by decide +kernel
theorem d_808_161 : decode (mB 808) 161 = .ok (.iconst 0, 1) := by decide +kernel
theorem d_808_162 : decode (mB 808) 162 = .ok (.ireturn, 1) := by decide +kernel
theorem d_808_163 : decode (mB 808) 163 = .ok (.aload_n 0, 1) := by decide +kernel
theorem d_808_164 : decode (mB 808) 164 = .ok (.getfield 23, 3) := by decide +kernel
theorem d_808_167 : decode (mB 808) 167 = .ok (.getfield 212, 3) := by decide +kernel
theorem d_808_170 : decode (mB 808) 170 = .ok (.iload_n 1, 1) := by decide +kernel
theorem d_808_171 : decode (mB 808) 171 = .ok (.iaload, 1) := by decide +kernel
theorem d_808_172 : decode (mB 808) 172 = .ok (.ireturn, 1) := by decide +kernel
theorem d_808_173 : decode (mB 808) 173 = .ok (.ldc 82, 2) := by decide +kernel
theorem d_808_175 : decode (mB 808) 175 = .ok (.ireturn, 1) := by decide +kernel
theorem d_809_0 : decode (mB 809) 0 = .ok (.aload_n 0, 1) := by decide +kernel
theorem d_809_1 : decode (mB 809) 1 = .ok (.getfield 23, 3) := by decide +kernel
theorem d_809_4 : decode (mB 809) 4 = .ok (.iload_n 1, 1) := by decide +kernel
theorem d_809_5 : decode (mB 809) 5 = .ok (.invokevirtual 187, 3) := by decide +kernel
theorem d_809_8 : decode (mB 809) 8 = .ok (.ifCond .ne 6, 3) := by decide +kernel
theorem d_809_11 : decode (mB 809) 11 = .ok (.ldc 174, 2) := by decide +kernel
theorem d_809_13 : decode (mB 809) 13 = .ok (.ireturn, 1) := by decide +kernel
theorem d_809_14 : decode (mB 809) 14 = .ok (.iload_n 2, 1) := by decide +kernel
theorem d_809_15 : decode (mB 809) 15 = .ok (.ifCond .lt 9, 3) := by decide +kernel
theorem d_809_18 : decode (mB 809) 18 = .ok (.iload_n 2, 1) := by decide +kernel
theorem d_809_19 : decode (mB 809) 19 = .ok (.ldc 215, 2) := by decide +kernel
theorem d_809_21 : decode (mB 809) 21 = .ok (.if_icmp .le 6, 3) := by decide +kernel
theorem d_809_24 : decode (mB 809) 24 = .ok (.ldc 82, 2) := by decide +kernel
theorem d_809_26 : decode (mB 809) 26 = .ok (.ireturn, 1) := by decide +kernel
theorem d_809_27 : decode (mB 809) 27 = .ok (.aload_n 0, 1) := by decide +kernel
theorem d_809_28 : decode (mB 809) 28 = .ok (.getfield 46, 3) := by decide +kernel
theorem d_809_31 : decode (mB 809) 31 = .ok (.iload_n 1, 1) := by decide +kernel
theorem d_809_32 : decode (mB 809) 32 = .ok (.iload_n 2, 1) := by decide +kernel
theorem d_809_33 : decode (mB 809) 33 = .ok (.invokevirtual 204, 3) := by decide +kernel
theorem d_809_36 : decode (mB 809) 36 = .ok (.ireturn, 1) := by decide +kernel
theorem d_810_0 : decode (mB 810) 0 = .ok (.iload_n 1, 1) := by decide +kernel
theorem d_810_1 : decode (mB 810) 1 = .ok (.iconst 1, 1) := by decide +kernel
theorem d_810_2 : decode (mB 810) 2 = .ok (.if_icmp .lt 10, 3) := by decide +kernel
theorem d_810_5 : decode (mB 810) 5 = .ok (.iload_n 1, 1) := by decide +kernel
theorem d_810_6 : decode (mB 810) 6 = .ok (.sipush 999, 3) := by decide +kernel
theorem d_810_9 : decode (mB 810) 9 = .ok (.if_icmp .le 6, 3) := by decide +kernel
theorem d_810_12 : decode (mB 810) 12 = .ok (.ldc 82, 2) := by decide +kernel
theorem d_810_14 : decode (mB 810) 14 = .ok (.ireturn, 1) := by decide +kernel
theorem d_810_15 : decode (mB 810) 15 = .ok (.aload_n 0, 1) := by decide +kernel
theorem d_810_16 : decode (mB 810) 16 = .ok (.getfield 29, 3) := by decide +kernel
theorem d_810_19 : decode (mB 810) 19 = .ok (.dup, 1) := by decide +kernel
theorem d_810_20 : decode (mB 810) 20 = .ok (.getfield 141, 3) := by decide +kernel
theorem d_810_23 : decode (mB 810) 23 = .ok (.iload_n 1, 1) := by decide +kernel
theorem d_810_24 : decode (mB 810) 24 = .ok (.iadd, 1) := by decide +kernel
theorem d_810_25 : decode (mB 810) 25 = .ok (.putfield 141, 3) := by decide +kernel
theorem d_810_28 : decode (mB 810) 28 = .ok (.aload_n 0, 1) := by decide +kernel
theorem d_810_29 : decode (mB 810) 29 = .ok (.getfield 29, 3) := by decide +kernel
theorem d_810_32 : decode (mB 810) 32 = .ok (.getfield 141, 3) := by decide +kernel
theorem d_810_35 : decode (mB 810) 35 = .ok (.ireturn, 1) := by decide +kernel
theorem d_811_0 : decode (mB 811) 0 = .ok (.aload_n 0, 1) := by decide +kernel
theorem d_811_1 : decode (mB 811) 1 = .ok (.getfield 23, 3) := by decide +kernel
theorem d_811_4 : decode (mB 811) 4 = .ok (.iload_n 1, 1) := by decide +kernel
theorem d_811_5 : decode (mB 811) 5 = .ok (.invokevirtual 170, 3) := by decide +kernel
theorem d_811_8 : decode (mB 811) 8 = .ok (.ifCond .ne 6, 3) := by decide +kernel
theorem d_811_11 : decode (mB 811) 11 = .ok (.ldc 174, 2) := by decide +kernel
theorem d_811_13 : decode (mB 811) 13 = .ok (.ireturn, 1) := by decide +kernel
theorem d_811_14 : decode (mB 811) 14 = .ok (.aload_n 0, 1) := by decide +kernel
theorem d_811_15 : decode (mB 811) 15 = .ok (.getfield 23, 3) := by decide +kernel
theorem d_811_18 : decode (mB 811) 18 = .ok (.aload_n 0, 1) := by decide +kernel
theorem d_811_19 : decode (mB 811) 19 = .ok (.getfield 29, 3) := by decide +kernel
theorem d_811_22 : decode (mB 811) 22 = .ok (.getfield 144, 3) := by decide +kernel
theorem d_811_25 : decode (mB 811) 25 = .ok (.invokevirtual 216, 3) := by decide +kernel
theorem d_811_28 : decode (mB 811) 28 = .ok (.iload_n 1, 1) := by decide +kernel
theorem d_811_29 : decode (mB 811) 29 = .ok (.invokestatic 219, 3) := by decide +kernel
theorem d_811_32 : decode (mB 811) 32 = .ok (.ifCond .ne 6, 3) := by decide +kernel
theorem d_811_35 : decode (mB 811) 35 = .ok (.ldc 222, 2) := by decide +kernel
theorem d_811_37 : decode (mB 811) 37 = .ok (.ireturn, 1) := by decide +kernel
theorem d_811_38 : decode (mB 811) 38 = .ok (.aload_n 0, 1) := by decide +kernel
theorem d_811_39 : decode (mB 811) 39 = .ok (.getfield 29, 3) := by decide +kernel
theorem d_811_42 : decode (mB 811) 42 = .ok (.iload_n 1, 1) := by decide +kernel
theorem d_811_43 : decode (mB 811) 43 = .ok (.putfield 144, 3) := by decide +kernel
theorem d_811_46 : decode (mB 811) 46 = .ok (.aload_n 0, 1) := by decide +kernel
theorem d_811_47 : decode (mB 811) 47 = .ok (.getfield 29, 3) := by decide +kernel
theorem d_811_50 : decode (mB 811) 50 = .ok (.dup, 1) := by decide +kernel
theorem d_811_51 : decode (mB 811) 51 = .ok (.getfield 141, 3) := by decide +kernel
theorem d_811_54 : decode (mB 811) 54 = .ok (.iconst 1, 1) := by decide +kernel
theorem d_811_55 : decode (mB 811) 55 = .ok (.iadd, 1) := by decide +kernel
theorem d_811_56 : decode (mB 811) 56 = .ok (.putfield 141, 3) := by decide +kernel
theorem d_811_59 : decode (mB 811) 59 = .ok (.aload_n 0, 1) := by decide +kernel
theorem d_811_60 : decode (mB 811) 60 = .ok (.getfield 29, 3) := by decide +kernel
theorem d_811_63 : decode (mB 811) 63 = .ok (.getfield 141, 3) := by decide +kernel
theorem d_811_66 : decode (mB 811) 66 = .ok (.ireturn, 1) := by decide +kernel
theorem d_812_0 : decode (mB 812) 0 = .ok (.aload_n 0, 1) := by decide +kernel
theorem d_812_1 : decode (mB 812) 1 = .ok (.getfield 23, 3) := by decide +kernel
theorem d_812_4 : decode (mB 812) 4 = .ok (.getfield 120, 3) := by decide +kernel
theorem d_812_7 : decode (mB 812) 7 = .ok (.ifCond .ne 6, 3) := by decide +kernel
theorem d_812_10 : decode (mB 812) 10 = .ok (.ldc 222, 2) := by decide +kernel
theorem d_812_12 : decode (mB 812) 12 = .ok (.ireturn, 1) := by decide +kernel
theorem d_812_13 : decode (mB 812) 13 = .ok (.iconst 0, 1) := by decide +kernel
theorem d_812_14 : decode (mB 812) 14 = .ok (.istore_n 1, 1) := by decide +kernel
theorem d_812_15 : decode (mB 812) 15 = .ok (.iconst 0, 1) := by decide +kernel
theorem d_812_16 : decode (mB 812) 16 = .ok (.istore_n 2, 1) := by decide +kernel
theorem d_812_17 : decode (mB 812) 17 = .ok (.iload_n 2, 1) := by decide +kernel
theorem d_812_18 : decode (mB 812) 18 = .ok (.aload_n 0, 1) := by decide +kernel
theorem d_812_19 : decode (mB 812) 19 = .ok (.getfield 23, 3) := by decide +kernel
theorem d_812_22 : decode (mB 812) 22 = .ok (.getfield 107, 3) := by decide +kernel
theorem d_812_25 : decode (mB 812) 25 = .ok (.if_icmp .ge 56, 3) := by decide +kernel
theorem d_812_28 : decode (mB 812) 28 = .ok (.aload_n 0, 1) := by decide +kernel
theorem d_812_29 : decode (mB 812) 29 = .ok (.getfield 29, 3) := by decide +kernel
theorem d_812_32 : decode (mB 812) 32 = .ok (.getfield 184, 3) := by decide +kernel
theorem d_812_35 : decode (mB 812) 35 = .ok (.iload_n 2, 1) := by decide +kernel
theorem d_812_36 : decode (mB 812) 36 = .ok (.iaload, 1) := by decide +kernel
theorem d_812_37 : decode (mB 812) 37 = .ok (.aload_n 0, 1) := by decide +kernel
theorem d_812_38 : decode (mB 812) 38 = .ok (.getfield 29, 3) := by decide +kernel
theorem d_812_41 : decode (mB 812) 41 = .ok (.getfield 144, 3) := by decide +kernel
theorem d_812_44 : decode (mB 812) 44 = .ok (.if_icmp .ne 31, 3) := by decide +kernel
theorem d_812_47 : decode (mB 812) 47 = .ok (.aload_n 0, 1) := by decide +kernel
theorem d_812_48 : decode (mB 812) 48 = .ok (.getfield 29, 3) := by decide +kernel
theorem d_812_51 : decode (mB 812) 51 = .ok (.getfield 154, 3) := by decide +kernel
theorem d_812_54 : decode (mB 812) 54 = .ok (.iload_n 2, 1) := by decide +kernel
theorem d_812_55 : decode (mB 812) 55 = .ok (.invokestatic 219, 3) := by decide +kernel
theorem d_812_58 : decode (mB 812) 58 = .ok (.ifCond .ne 17, 3) := by decide +kernel
theorem d_812_61 : decode (mB 812) 61 = .ok (.aload_n 0, 1) := by decide +kernel
theorem d_812_62 : decode (mB 812) 62 = .ok (.iload_n 2, 1) := by decide +kernel
theorem d_812_63 : decode (mB 812) 63 = .ok (.invokevirtual 223, 3) := by decide +kernel
theorem d_812_66 : decode (mB 812) 66 = .ok (.ifCond .eq 9, 3) := by decide +kernel
theorem d_812_69 : decode (mB 812) 69 = .ok (.iload_n 1, 1) := by decide +kernel
theorem d_812_70 : decode (mB 812) 70 = .ok (.iconst 1, 1) := by decide +kernel
theorem d_812_71 : decode (mB 812) 71 = .ok (.iload_n 2, 1) := by decide +kernel
theorem d_812_72 : decode (mB 812) 72 = .ok (.ishl, 1) := by decide +kernel
theorem d_812_73 : decode (mB 812) 73 = .ok (.ior, 1) := by decide +kernel
theorem d_812_74 : decode (mB 812) 74 = .ok (.istore_n 1, 1) := by decide +kernel
theorem d_812_75 : decode (mB 812) 75 = .ok (.iinc 2 1, 3) := by decide +kernel
theorem d_812_78 : decode (mB 812) 78 = .ok (.goto (-61), 3) := by decide +kernel
theorem d_812_81 : decode (mB 812) 81 = .ok (.iload_n 1, 1) := by decide +kernel
theorem d_812_82 : decode (mB 812) 82 = .ok (.ireturn, 1) := by decide +kernel
theorem d_814_0 : decode (mB 814) 0 = .ok (.aload_n 0, 1) := by decide +kernel
theorem d_814_1 : decode (mB 814) 1 = .ok (.getfield 23, 3) := by decide +kernel
theorem d_814_4 : decode (mB 814) 4 = .ok (.iload_n 1, 1) := by decide +kernel
theorem d_814_5 : decode (mB 814) 5 = .ok (.invokevirtual 187, 3) := by decide +kernel
theorem d_814_8 : decode (mB 814) 8 = .ok (.ifCond .ne 6, 3) := by decide +kernel
theorem d_814_11 : decode (mB 814) 11 = .ok (.ldc 174, 2) := by decide +kernel
theorem d_814_13 : decode (mB 814) 13 = .ok (.ireturn, 1) := by decide +kernel
theorem d_814_14 : decode (mB 814) 14 = .ok (.aload_n 0, 1) := by decide +kernel
theorem d_814_15 : decode (mB 814) 15 = .ok (.getfield 46, 3) := by decide +kernel
theorem d_814_18 : decode (mB 814) 18 = .ok (.iload_n 1, 1) := by decide +kernel
theorem d_814_19 : decode (mB 814) 19 = .ok (.aload_n 0, 1) := by decide +kernel
theorem d_814_20 : decode (mB 814) 20 = .ok (.getfield 29, 3) := by decide +kernel
theorem d_814_23 : decode (mB 814) 23 = .ok (.getfield 141, 3) := by decide +kernel
theorem d_814_26 : decode (mB 814) 26 = .ok (.invokevirtual 231, 3) := by decide +kernel
theorem d_814_29 : decode (mB 814) 29 = .ok (.ifCond .eq 7, 3) := by decide +kernel
theorem d_814_32 : decode (mB 814) 32 = .ok (.iconst 1, 1) := by decide +kernel
theorem d_814_33 : decode (mB 814) 33 = .ok (.goto 4, 3) := by decide +kernel
theorem d_814_36 : decode (mB 814) 36 = .ok (.iconst 0, 1) := by decide +kernel
theorem d_814_37 : decode (mB 814) 37 = .ok (.istore_n 2, 1) := by decide +kernel
theorem d_814_38 : decode (mB 814) 38 = .ok (.aload_n 0, 1) := by decide +kernel
theorem d_814_39 : decode (mB 814) 39 = .ok (.getfield 29, 3) := by decide +kernel
theorem d_814_42 : decode (mB 814) 42 = .ok (.getfield 234, 3) := by decide +kernel
theorem d_814_45 : decode (mB 814) 45 = .ok (.iload_n 1, 1) := by decide +kernel
theorem d_814_46 : decode (mB 814) 46 = .ok (.aload_n 0, 1) := by decide +kernel
theorem d_814_47 : decode (mB 814) 47 = .ok (.getfield 29, 3) := by decide +kernel
theorem d_814_50 : decode (mB 814) 50 = .ok (.getfield 141, 3) := by decide +kernel
theorem d_814_53 : decode (mB 814) 53 = .ok (.iastore, 1) := by decide +kernel
theorem d_814_54 : decode (mB 814) 54 = .ok (.iload_n 2, 1) := by decide +kernel
theorem d_814_55 : decode (mB 814) 55 = .ok (.ireturn, 1) := by decide +kernel
theorem d_815_0 : decode (mB 815) 0 = .ok (.aload_n 0, 1) := by decide +kernel
theorem d_815_1 : decode (mB 815) 1 = .ok (.getfield 23, 3) := by decide +kernel
theorem d_815_4 : decode (mB 815) 4 = .ok (.iload_n 1, 1) := by decide +kernel
theorem d_815_5 : decode (mB 815) 5 = .ok (.invokevirtual 187, 3) := by decide +kernel
theorem d_815_8 : decode (mB 815) 8 = .ok (.ifCond .ne 6, 3) := by decide +kernel
theorem d_815_11 : decode (mB 815) 11 = .ok (.ldc 174, 2) := by decide +kernel
theorem d_815_13 : decode (mB 815) 13 = .ok (.ireturn, 1) := by decide +kernel
theorem d_815_14 : decode (mB 815) 14 = .ok (.iload_n 2, 1) := by decide +kernel
theorem d_815_15 : decode (mB 815) 15 = .ok (.ifCond .lt 8, 3) := by decide +kernel
theorem d_815_18 : decode (mB 815) 18 = .ok (.iload_n 2, 1) := by decide +kernel
theorem d_815_19 : decode (mB 815) 19 = .ok (.iconst 5, 1) := by decide +kernel
theorem d_815_20 : decode (mB 815) 20 = .ok (.if_icmp .le 6, 3) := by decide +kernel
theorem d_815_23 : decode (mB 815) 23 = .ok (.ldc 82, 2) := by decide +kernel
theorem d_815_25 : decode (mB 815) 25 = .ok (.ireturn, 1) := by decide +kernel
theorem d_815_26 : decode (mB 815) 26 = .ok (.aload_n 0, 1) := by decide +kernel
theorem d_815_27 : decode (mB 815) 27 = .ok (.getfield 29, 3) := by decide +kernel
theorem d_815_30 : decode (mB 815) 30 = .ok (.getfield 198, 3) := by decide +kernel
theorem d_815_33 : decode (mB 815) 33 = .ok (.iload_n 1, 1) := by decide +kernel
theorem d_815_34 : decode (mB 815) 34 = .ok (.iaload, 1) := by decide +kernel
theorem d_815_35 : decode (mB 815) 35 = .ok (.istore_n 3, 1) := by decide +kernel
theorem d_815_36 : decode (mB 815) 36 = .ok (.aload_n 0, 1) := by decide +kernel
theorem d_815_37 : decode (mB 815) 37 = .ok (.getfield 29, 3) := by decide +kernel
theorem d_815_40 : decode (mB 815) 40 = .ok (.getfield 198, 3) := by decide +kernel
theorem d_815_43 : decode (mB 815) 43 = .ok (.iload_n 1, 1) := by decide +kernel
theorem d_815_44 : decode (mB 815) 44 = .ok (.iload_n 2, 1) := by decide +kernel
theorem d_815_45 : decode (mB 815) 45 = .ok (.iastore, 1) := by decide +kernel
theorem d_815_46 : decode (mB 815) 46 = .ok (.iload_n 3, 1) := by decide +kernel
theorem d_815_47 : decode (mB 815) 47 = .ok (.ireturn, 1) := by decide +kernel
theorem d_816_0 : decode (mB 816) 0 = .ok (.aload_n 0, 1) := by decide +kernel
theorem d_816_1 : decode (mB 816) 1 = .ok (.getfield 23, 3) := by decide +kernel
theorem d_816_4 : decode (mB 816) 4 = .ok (.iload_n 1, 1) := by decide +kernel
theorem d_816_5 : decode (mB 816) 5 = .ok (.invokevirtual 187, 3) := by decide +kernel
theorem d_816_8 : decode (mB 816) 8 = .ok (.ifCond .eq 14, 3) := by decide +kernel
theorem d_816_11 : decode (mB 816) 11 = .ok (.aload_n 0, 1) := by decide +kernel
theorem d_816_12 : decode (mB 816) 12 = .ok (.getfield 23, 3) := by decide +kernel
theorem d_816_15 : decode (mB 816) 15 = .ok (.iload_n 2, 1) := by decide +kernel
theorem d_816_16 : decode (mB 816) 16 = .ok (.invokevirtual 170, 3) := by decide +kernel
theorem d_816_19 : decode (mB 816) 19 = .ok (.ifCond .ne 6, 3) := by decide +kernel
theorem d_816_22 : decode (mB 816) 22 = .ok (.ldc 174, 2) := by decide +kernel
theorem d_816_24 : decode (mB 816) 24 = .ok (.ireturn, 1) := by decide +kernel
theorem d_816_25 : decode (mB 816) 25 = .ok (.aload_n 0, 1) := by decide +kernel
theorem d_816_26 : decode (mB 816) 26 = .ok (.getfield 29, 3) := by decide +kernel
theorem d_816_29 : decode (mB 816) 29 = .ok (.getfield 184, 3) := by decide +kernel
theorem d_816_32 : decode (mB 816) 32 = .ok (.iload_n 1, 1) := by decide +kernel
theorem d_816_33 : decode (mB 816) 33 = .ok (.iaload, 1) := by decide +kernel
theorem d_816_34 : decode (mB 816) 34 = .ok (.istore_n 3, 1) := by decide +kernel
theorem d_816_35 : decode (mB 816) 35 = .ok (.aload_n 0, 1) := by decide +kernel
theorem d_816_36 : decode (mB 816) 36 = .ok (.getfield 29, 3) := by decide +kernel
theorem d_816_39 : decode (mB 816) 39 = .ok (.getfield 184, 3) := by decide +kernel
theorem d_816_42 : decode (mB 816) 42 = .ok (.iload_n 1, 1) := by decide +kernel
theorem d_816_43 : decode (mB 816) 43 = .ok (.iload_n 2, 1) := by decide +kernel
theorem d_816_44 : decode (mB 816) 44 = .ok (.iastore, 1) := by decide +kernel
theorem d_816_45 : decode (mB 816) 45 = .ok (.iload_n 3, 1) := by decide +kernel
theorem d_816_46 : decode (mB 816) 46 = .ok (.ireturn, 1) := by decide +kernel
theorem d_817_0 : decode (mB 817) 0 = .ok (.iload_n 1, 1) := by decide +kernel
theorem d_817_1 : decode (mB 817) 1 = .ok (.iconst 1, 1) := by decide +kernel
theorem d_817_2 : decode (mB 817) 2 = .ok (.if_icmp .lt 9, 3) := by decide +kernel
theorem d_817_5 : decode (mB 817) 5 = .ok (.iload_n 1, 1) := by decide +kernel
theorem d_817_6 : decode (mB 817) 6 = .ok (.bipush 99, 2) := by decide +kernel
theorem d_817_8 : decode (mB 817) 8 = .ok (.if_icmp .le 6, 3) := by decide +kernel
theorem d_817_11 : decode (mB 817) 11 = .ok (.ldc 82, 2) := by decide +kernel
theorem d_817_13 : decode (mB 817) 13 = .ok (.ireturn, 1) := by decide +kernel
theorem d_817_14 : decode (mB 817) 14 = .ok (.aload_n 0, 1) := by decide +kernel
theorem d_817_15 : decode (mB 817) 15 = .ok (.getfield 23, 3) := by decide +kernel
theorem d_817_18 : decode (mB 817) 18 = .ok (.aload_n 0, 1) := by decide +kernel
theorem d_817_19 : decode (mB 817) 19 = .ok (.getfield 23, 3) := by decide +kernel
theorem d_817_22 : decode (mB 817) 22 = .ok (.getfield 138, 3) := by decide +kernel
theorem d_817_25 : decode (mB 817) 25 = .ok (.invokevirtual 187, 3) := by decide +kernel
theorem d_817_28 : decode (mB 817) 28 = .ok (.ifCond .ne 6, 3) := by decide +kernel
theorem d_817_31 : decode (mB 817) 31 = .ok (.ldc 222, 2) := by decide +kernel
theorem d_817_33 : decode (mB 817) 33 = .ok (.ireturn, 1) := by decide +kernel
theorem d_817_34 : decode (mB 817) 34 = .ok (.iconst 0, 1) := by decide +kernel
theorem d_817_35 : decode (mB 817) 35 = .ok (.istore_n 2, 1) := by decide +kernel
theorem d_817_36 : decode (mB 817) 36 = .ok (.iload_n 2, 1) := by decide +kernel
theorem d_817_37 : decode (mB 817) 37 = .ok (.iload_n 1, 1) := by decide +kernel
theorem d_817_38 : decode (mB 817) 38 = .ok (.if_icmp .ge 30, 3) := by decide +kernel
theorem d_817_41 : decode (mB 817) 41 = .ok (.aload_n 0, 1) := by decide +kernel
theorem d_817_42 : decode (mB 817) 42 = .ok (.invokevirtual 237, 3) := by decide +kernel
theorem d_817_45 : decode (mB 817) 45 = .ok (.aload_n 0, 1) := by decide +kernel
theorem d_817_46 : decode (mB 817) 46 = .ok (.getfield 29, 3) := by decide +kernel
theorem d_817_49 : decode (mB 817) 49 = .ok (.dup, 1) := by decide +kernel
theorem d_817_50 : decode (mB 817) 50 = .ok (.getfield 141, 3) := by decide +kernel
theorem d_817_53 : decode (mB 817) 53 = .ok (.iconst 1, 1) := by decide +kernel
theorem d_817_54 : decode (mB 817) 54 = .ok (.iadd, 1) := by decide +kernel
theorem d_817_55 : decode (mB 817) 55 = .ok (.putfield 141, 3) := by decide +kernel
theorem d_817_58 : decode (mB 817) 58 = .ok (.aload_n 0, 1) := by decide +kernel
theorem d_817_59 : decode (mB 817) 59 = .ok (.invokevirtual 240, 3) := by decide +kernel
theorem d_817_62 : decode (mB 817) 62 = .ok (.iinc 2 1, 3) := by decide +kernel
theorem d_817_65 : decode (mB 817) 65 = .ok (.goto (-29), 3) := by decide +kernel
theorem d_817_68 : decode (mB 817) 68 = .ok (.aload_n 0, 1) := by decide +kernel
theorem d_817_69 : decode (mB 817) 69 = .ok (.getfield 29, 3) := by decide +kernel
theorem d_817_72 : decode (mB 817) 72 = .ok (.getfield 184, 3) := by decide +kernel
theorem d_817_75 : decode (mB 817) 75 = .ok (.aload_n 0, 1) := by decide +kernel
theorem d_817_76 : decode (mB 817) 76 = .ok (.getfield 23, 3) := by decide +kernel
theorem d_817_79 : decode (mB 817) 79 = .ok (.getfield 138, 3) := by decide +kernel
theorem d_817_82 : decode (mB 817) 82 = .ok (.iaload, 1) := by decide +kernel
theorem d_817_83 : decode (mB 817) 83 = .ok (.ireturn, 1) := by decide +kernel
theorem d_821_0 : decode (mB 821) 0 = .ok (.aload_n 0, 1) := by decide +kernel
theorem d_821_1 : decode (mB 821) 1 = .ok (.getfield 23, 3) := by decide +kernel
theorem d_821_4 : decode (mB 821) 4 = .ok (.iload_n 1, 1) := by decide +kernel
theorem d_821_5 : decode (mB 821) 5 = .ok (.invokevirtual 187, 3) := by decide +kernel
theorem d_821_8 : decode (mB 821) 8 = .ok (.ifCond .ne 6, 3) := by decide +kernel
theorem d_821_11 : decode (mB 821) 11 = .ok (.ldc 174, 2) := by decide +kernel
theorem d_821_13 : decode (mB 821) 13 = .ok (.ireturn, 1) := by decide +kernel
theorem d_821_14 : decode (mB 821) 14 = .ok (.aload_n 0, 1) := by decide +kernel
theorem d_821_15 : decode (mB 821) 15 = .ok (.getfield 62, 3) := by decide +kernel
theorem d_821_18 : decode (mB 821) 18 = .ok (.iload_n 1, 1) := by decide +kernel
theorem d_821_19 : decode (mB 821) 19 = .ok (.invokevirtual 255, 3) := by decide +kernel
theorem d_821_22 : decode (mB 821) 22 = .ok (.istore_n 3, 1) := by decide +kernel
theorem d_821_23 : decode (mB 821) 23 = .ok (.iload_n 2, 1) := by decide +kernel
theorem d_821_24 : decode (mB 821) 24 = .ok (.iconst (-1), 1) := by decide +kernel
theorem d_821_25 : decode (mB 821) 25 = .ok (.if_icmp .eq 8, 3) := by decide +kernel
theorem d_821_28 : decode (mB 821) 28 = .ok (.iload_n 3, 1) := by decide +kernel
theorem d_821_29 : decode (mB 821) 29 = .ok (.iconst (-1), 1) := by decide +kernel
theorem d_821_30 : decode (mB 821) 30 = .ok (.if_icmp .ne 5, 3) := by decide +kernel
theorem d_821_33 : decode (mB 821) 33 = .ok (.iload_n 3, 1) := by decide +kernel
theorem d_821_34 : decode (mB 821) 34 = .ok (.ireturn, 1) := by decide +kernel
theorem d_821_35 : decode (mB 821) 35 = .ok (.iload_n 2, 1) := by decide +kernel
theorem d_821_36 : decode (mB 821) 36 = .ok (.ifCond .lt 8, 3) := by decide +kernel
theorem d_821_39 : decode (mB 821) 39 = .ok (.iload_n 2, 1) := by decide +kernel
theorem d_821_40 : decode (mB 821) 40 = .ok (.iload_n 3, 1) := by decide +kernel
theorem d_821_41 : decode (mB 821) 41 = .ok (.if_icmp .le 7, 3) := by decide +kernel
theorem d_821_44 : decode (mB 821) 44 = .ok (.iconst (-1), 1) := by decide +kernel
theorem d_821_45 : decode (mB 821) 45 = .ok (.goto 12, 3) := by decide +kernel
theorem d_821_48 : decode (mB 821) 48 = .ok (.aload_n 0, 1) := by decide +kernel
theorem d_821_49 : decode (mB 821) 49 = .ok (.getfield 62, 3) := by decide +kernel
theorem d_821_52 : decode (mB 821) 52 = .ok (.iload_n 2, 1) := by decide +kernel
theorem d_821_53 : decode (mB 821) 53 = .ok (.iload_n 3, 1) := by decide +kernel
theorem d_821_54 : decode (mB 821) 54 = .ok (.invokevirtual 258, 3) := by decide +kernel
theorem d_821_57 : decode (mB 821) 57 = .ok (.ireturn, 1) := by decide +kernel
theorem d_822_0 : decode (mB 822) 0 = .ok (.iload_n 1, 1) := by decide +kernel
theorem d_822_1 : decode (mB 822) 1 = .ok (.iconst 1, 1) := by decide +kernel
theorem d_822_2 : decode (mB 822) 2 = .ok (.if_icmp .lt 8, 3) := by decide +kernel
theorem d_822_5 : decode (mB 822) 5 = .ok (.iload_n 1, 1) := by decide +kernel
theorem d_822_6 : decode (mB 822) 6 = .ok (.iconst 2, 1) := by decide +kernel
theorem d_822_7 : decode (mB 822) 7 = .ok (.if_icmp .le 6, 3) := by decide +kernel
theorem d_822_10 : decode (mB 822) 10 = .ok (.ldc 82, 2) := by decide +kernel
theorem d_822_12 : decode (mB 822) 12 = .ok (.ireturn, 1) := by decide +kernel
theorem d_822_13 : decode (mB 822) 13 = .ok (.aload_n 0, 1) := by decide +kernel
theorem d_822_14 : decode (mB 822) 14 = .ok (.getfield 23, 3) := by decide +kernel
theorem d_822_17 : decode (mB 822) 17 = .ok (.getfield 120, 3) := by decide +kernel
theorem d_822_20 : decode (mB 822) 20 = .ok (.ifCond .ne 6, 3) := by decide +kernel
theorem d_822_23 : decode (mB 822) 23 = .ok (.ldc 222, 2) := by decide +kernel
theorem d_822_25 : decode (mB 822) 25 = .ok (.ireturn, 1) := by decide +kernel
theorem d_822_26 : decode (mB 822) 26 = .ok (.aload_n 0, 1) := by decide +kernel
theorem d_822_27 : decode (mB 822) 27 = .ok (.getfield 71, 3) := by decide +kernel
theorem d_822_30 : decode (mB 822) 30 = .ok (.iload_n 1, 1) := by decide +kernel
theorem d_822_31 : decode (mB 822) 31 = .ok (.iconst 1, 1) := by decide +kernel
theorem d_822_32 : decode (mB 822) 32 = .ok (.if_icmp .ne 7, 3) := by decide +kernel
theorem d_822_35 : decode (mB 822) 35 = .ok (.iconst 1, 1) := by decide +kernel
theorem d_822_36 : decode (mB 822) 36 = .ok (.goto 4, 3) := by decide +kernel
theorem d_822_39 : decode (mB 822) 39 = .ok (.iconst 0, 1) := by decide +kernel
theorem d_822_40 : decode (mB 822) 40 = .ok (.invokevirtual 261, 3) := by decide +kernel
theorem d_822_43 : decode (mB 822) 43 = .ok (.ireturn, 1) := by decide +kernel
theorem d_823_0 : decode (mB 823) 0 = .ok (.aload_n 0, 1) := by decide +kernel
theorem d_823_1 : decode (mB 823) 1 = .ok (.getfield 23, 3) := by decide +kernel
theorem d_823_4 : decode (mB 823) 4 = .ok (.getfield 120, 3) := by decide +kernel
theorem d_823_7 : decode (mB 823) 7 = .ok (.ifCond .ne 5, 3) := by decide +kernel
theorem d_823_10 : decode (mB 823) 10 = .ok (.iconst (-1), 1) := by decide +kernel
theorem d_823_11 : decode (mB 823) 11 = .ok (.ireturn, 1) := by decide +kernel
theorem d_823_12 : decode (mB 823) 12 = .ok (.aload_n 0, 1) := by decide +kernel
theorem d_823_13 : decode (mB 823) 13 = .ok (.getfield 71, 3) := by decide +kernel
theorem d_823_16 : decode (mB 823) 16 = .ok (.iconst 1, 1) := by decide +kernel
theorem d_823_17 : decode (mB 823) 17 = .ok (.invokevirtual 261, 3) := by decide +kernel
theorem d_823_20 : decode (mB 823) 20 = .ok (.iconst (-1), 1) := by decide +kernel
theorem d_823_21 : decode (mB 823) 21 = .ok (.if_icmp .eq 5, 3) := by decide +kernel
theorem d_823_24 : decode (mB 823) 24 = .ok (.iconst 1, 1) := by decide +kernel
theorem d_823_25 : decode (mB 823) 25 = .ok (.ireturn, 1) := by decide +kernel
theorem d_823_26 : decode (mB 823) 26 = .ok (.aload_n 0, 1) := by decide +kernel
theorem d_823_27 : decode (mB 823) 27 = .ok (.getfield 71, 3) := by decide +kernel
theorem d_823_30 : decode (mB 823) 30 = .ok (.iconst 0, 1) := by decide +kernel
theorem d_823_31 : decode (mB 823) 31 = .ok (.invokevirtual 261, 3) := by decide +kernel
theorem d_823_34 : decode (mB 823) 34 = .ok (.iconst (-1), 1) := by decide +kernel
theorem d_823_35 : decode (mB 823) 35 = .ok (.if_icmp .eq 7, 3) := by decide +kernel
theorem d_823_38 : decode (mB 823) 38 = .ok (.iconst 2, 1) := by decide +kernel
theorem d_823_39 : decode (mB 823) 39 = .ok (.goto 4, 3) := by decide +kernel
theorem d_823_42 : decode (mB 823) 42 = .ok (.iconst (-1), 1) := by decide +kernel
theorem d_823_43 : decode (mB 823) 43 = .ok (.ireturn, 1) := by decide +kernel
theorem d_824_0 : decode (mB 824) 0 = .ok (.aload_n 0, 1) := by decide +kernel
theorem d_824_1 : decode (mB 824) 1 = .ok (.getfield 23, 3) := by decide +kernel
theorem d_824_4 : decode (mB 824) 4 = .ok (.iload_n 1, 1) := by decide +kernel
theorem d_824_5 : decode (mB 824) 5 = .ok (.invokevirtual 187, 3) := by decide +kernel
theorem d_824_8 : decode (mB 824) 8 = .ok (.ifCond .ne 6, 3) := by decide +kernel
theorem d_824_11 : decode (mB 824) 11 = .ok (.ldc 174, 2) := by decide +kernel
theorem d_824_13 : decode (mB 824) 13 = .ok (.ireturn, 1) := by decide +kernel
theorem d_824_14 : decode (mB 824) 14 = .ok (.iload_n 2, 1) := by decide +kernel
theorem d_824_15 : decode (mB 824) 15 = .ok (.ifCond .lt 8, 3) := by decide +kernel
theorem d_824_18 : decode (mB 824) 18 = .ok (.iload_n 2, 1) := by decide +kernel
theorem d_824_19 : decode (mB 824) 19 = .ok (.iconst 1, 1) := by decide +kernel
theorem d_824_20 : decode (mB 824) 20 = .ok (.if_icmp .le 6, 3) := by decide +kernel
theorem d_824_23 : decode (mB 824) 23 = .ok (.ldc 82, 2) := by decide +kernel
theorem d_824_25 : decode (mB 824) 25 = .ok (.ireturn, 1) := by decide +kernel
theorem d_824_26 : decode (mB 824) 26 = .ok (.iconst 0, 1) := by decide +kernel
theorem d_824_27 : decode (mB 824) 27 = .ok (.istore_n 3, 1) := by decide +kernel
theorem d_824_28 : decode (mB 824) 28 = .ok (.iload_n 3, 1) := by decide +kernel
theorem d_824_29 : decode (mB 824) 29 = .ok (.bipush 24, 2) := by decide +kernel
theorem d_824_31 : decode (mB 824) 31 = .ok (.if_icmp .ge 49, 3) := by decide +kernel
theorem d_824_34 : decode (mB 824) 34 = .ok (.iload_n 3, 1) := by decide +kernel
theorem d_824_35 : decode (mB 824) 35 = .ok (.iconst 1, 1) := by decide +kernel
theorem d_824_36 : decode (mB 824) 36 = .ok (.iadd, 1) := by decide +kernel
theorem d_824_37 : decode (mB 824) 37 = .ok (.istore 4, 2) := by decide +kernel
theorem d_824_39 : decode (mB 824) 39 = .ok (.iload 4, 2) := by decide +kernel
theorem d_824_41 : decode (mB 824) 41 = .ok (.bipush 24, 2) := by decide +kernel
theorem d_824_43 : decode (mB 824) 43 = .ok (.if_icmp .ge 31, 3) := by decide +kernel
theorem d_824_46 : decode (mB 824) 46 = .ok (.aload_n 0, 1) := by decide +kernel
theorem d_824_47 : decode (mB 824) 47 = .ok (.iload_n 1, 1) := by decide +kernel
theorem d_824_48 : decode (mB 824) 48 = .ok (.iload_n 3, 1) := by decide +kernel
theorem d_824_49 : decode (mB 824) 49 = .ok (.iload 4, 2) := by decide +kernel
theorem d_824_51 : decode (mB 824) 51 = .ok (.invokevirtual 265, 3) := by decide +kernel
theorem d_824_54 : decode (mB 824) 54 = .ok (.ifCond .eq 14, 3) := by decide +kernel
theorem d_824_57 : decode (mB 824) 57 = .ok (.iload_n 2, 1) := by decide +kernel
theorem d_824_58 : decode (mB 824) 58 = .ok (.ifCond .ne 7, 3) := by decide +kernel
theorem d_824_61 : decode (mB 824) 61 = .ok (.iload_n 3, 1) := by decide +kernel
theorem d_824_62 : decode (mB 824) 62 = .ok (.goto 5, 3) := by decide +kernel
theorem d_824_65 : decode (mB 824) 65 = .ok (.iload 4, 2) := by decide +kernel
theorem d_824_67 : decode (mB 824) 67 = .ok (.ireturn, 1) := by decide +kernel
theorem d_824_68 : decode (mB 824) 68 = .ok (.iinc 4 1, 3) := by decide +kernel
theorem d_824_71 : decode (mB 824) 71 = .ok (.goto (-32), 3) := by decide +kernel
theorem d_824_74 : decode (mB 824) 74 = .ok (.iinc 3 1, 3) := by decide +kernel
theorem d_824_77 : decode (mB 824) 77 = .ok (.goto (-49), 3) := by decide +kernel
theorem d_824_80 : decode (mB 824) 80 = .ok (.iconst (-1), 1) := by decide +kernel
theorem d_824_81 : decode (mB 824) 81 = .ok (.ireturn, 1) := by decide +kernel
theorem d_826_0 : decode (mB 826) 0 = .ok (.aload_n 0, 1) := by decide +kernel
theorem d_826_1 : decode (mB 826) 1 = .ok (.getfield 23, 3) := by decide +kernel
theorem d_826_4 : decode (mB 826) 4 = .ok (.iload_n 1, 1) := by decide +kernel
theorem d_826_5 : decode (mB 826) 5 = .ok (.invokevirtual 187, 3) := by decide +kernel
theorem d_826_8 : decode (mB 826) 8 = .ok (.ifCond .ne 6, 3) := by decide +kernel
theorem d_826_11 : decode (mB 826) 11 = .ok (.ldc 174, 2) := by decide +kernel
theorem d_826_13 : decode (mB 826) 13 = .ok (.ireturn, 1) := by decide +kernel
theorem d_826_14 : decode (mB 826) 14 = .ok (.iload_n 2, 1) := by decide +kernel
theorem d_826_15 : decode (mB 826) 15 = .ok (.invokestatic 275, 3) := by decide +kernel
theorem d_826_18 : decode (mB 826) 18 = .ok (.ifCond .eq 10, 3) := by decide +kernel
theorem d_826_21 : decode (mB 826) 21 = .ok (.iload_n 3, 1) := by decide +kernel
theorem d_826_22 : decode (mB 826) 22 = .ok (.invokestatic 275, 3) := by decide +kernel
theorem d_826_25 : decode (mB 826) 25 = .ok (.ifCond .ne 6, 3) := by decide +kernel
theorem d_826_28 : decode (mB 826) 28 = .ok (.ldc 82, 2) := by decide +kernel
theorem d_826_30 : decode (mB 826) 30 = .ok (.ireturn, 1) := by decide +kernel
theorem d_826_31 : decode (mB 826) 31 = .ok (.aload_n 0, 1) := by decide +kernel
theorem d_826_32 : decode (mB 826) 32 = .ok (.getfield 46, 3) := by decide +kernel
theorem d_826_35 : decode (mB 826) 35 = .ok (.iload_n 1, 1) := by decide +kernel
theorem d_826_36 : decode (mB 826) 36 = .ok (.iload_n 2, 1) := by decide +kernel
theorem d_826_37 : decode (mB 826) 37 = .ok (.iload_n 3, 1) := by decide +kernel
theorem d_826_38 : decode (mB 826) 38 = .ok (.invokevirtual 272, 3) := by decide +kernel
theorem d_826_41 : decode (mB 826) 41 = .ok (.ireturn, 1) := by decide +kernel
theorem d_827_0 : decode (mB 827) 0 = .ok (.aload_n 0, 1) := by decide +kernel
theorem d_827_1 : decode (mB 827) 1 = .ok (.iload_n 1, 1) := by decide +kernel
theorem d_827_2 : decode (mB 827) 2 = .ok (.iload_n 2, 1) := by decide +kernel
theorem d_827_3 : decode (mB 827) 3 = .ok (.invokevirtual 278, 3) := by decide +kernel
theorem d_827_6 : decode (mB 827) 6 = .ok (.ifCond .ne 6, 3) := by decide +kernel
theorem d_827_9 : decode (mB 827) 9 = .ok (.ldc 174, 2) := by decide +kernel
theorem d_827_11 : decode (mB 827) 11 = .ok (.ireturn, 1) := by decide +kernel
theorem d_827_12 : decode (mB 827) 12 = .ok (.aload_n 0, 1) := by decide +kernel
theorem d_827_13 : decode (mB 827) 13 = .ok (.getfield 46, 3) := by decide +kernel
theorem d_827_16 : decode (mB 827) 16 = .ok (.iload_n 1, 1) := by decide +kernel
theorem d_827_17 : decode (mB 827) 17 = .ok (.invokevirtual 281, 3) := by decide +kernel
theorem d_827_20 : decode (mB 827) 20 = .ok (.aload_n 0, 1) := by decide +kernel
theorem d_827_21 : decode (mB 827) 21 = .ok (.getfield 46, 3) := by decide +kernel
theorem d_827_24 : decode (mB 827) 24 = .ok (.iload_n 2, 1) := by decide +kernel
theorem d_827_25 : decode (mB 827) 25 = .ok (.invokevirtual 281, 3) := by decide +kernel
theorem d_827_28 : decode (mB 827) 28 = .ok (.ixor, 1) := by decide +kernel
theorem d_827_29 : decode (mB 827) 29 = .ok (.ireturn, 1) := by decide +kernel
theorem d_828_0 : decode (mB 828) 0 = .ok (.aload_n 0, 1) := by decide +kernel
theorem d_828_1 : decode (mB 828) 1 = .ok (.iload_n 1, 1) := by decide +kernel
theorem d_828_2 : decode (mB 828) 2 = .ok (.iload_n 2, 1) := by decide +kernel
theorem d_828_3 : decode (mB 828) 3 = .ok (.invokevirtual 278, 3) := by decide +kernel
theorem d_828_6 : decode (mB 828) 6 = .ok (.ifCond .ne 6, 3) := by decide +kernel
theorem d_828_9 : decode (mB 828) 9 = .ok (.ldc 174, 2) := by decide +kernel
theorem d_828_11 : decode (mB 828) 11 = .ok (.ireturn, 1) := by decide +kernel
theorem d_828_12 : decode (mB 828) 12 = .ok (.iload_n 3, 1) := by decide +kernel
theorem d_828_13 : decode (mB 828) 13 = .ok (.invokestatic 275, 3) := by decide +kernel
theorem d_828_16 : decode (mB 828) 16 = .ok (.ifCond .ne 6, 3) := by decide +kernel
theorem d_828_19 : decode (mB 828) 19 = .ok (.ldc 82, 2) := by decide +kernel
theorem d_828_21 : decode (mB 828) 21 = .ok (.ireturn, 1) := by decide +kernel
theorem d_828_22 : decode (mB 828) 22 = .ok (.aload_n 0, 1) := by decide +kernel
theorem d_828_23 : decode (mB 828) 23 = .ok (.getfield 46, 3) := by decide +kernel
theorem d_828_26 : decode (mB 828) 26 = .ok (.aload_n 0, 1) := by decide +kernel
theorem d_828_27 : decode (mB 828) 27 = .ok (.getfield 46, 3) := by decide +kernel
theorem d_828_30 : decode (mB 828) 30 = .ok (.iload_n 1, 1) := by decide +kernel
theorem d_828_31 : decode (mB 828) 31 = .ok (.iload_n 3, 1) := by decide +kernel
theorem d_828_32 : decode (mB 828) 32 = .ok (.invokevirtual 284, 3) := by decide +kernel
theorem d_828_35 : decode (mB 828) 35 = .ok (.aload_n 0, 1) := by decide +kernel
theorem d_828_36 : decode (mB 828) 36 = .ok (.getfield 46, 3) := by decide +kernel
theorem d_828_39 : decode (mB 828) 39 = .ok (.iload_n 2, 1) := by decide +kernel
theorem d_828_40 : decode (mB 828) 40 = .ok (.iload_n 3, 1) := by decide +kernel
theorem d_828_41 : decode (mB 828) 41 = .ok (.invokevirtual 284, 3) := by decide +kernel
theorem d_828_44 : decode (mB 828) 44 = .ok (.invokevirtual 287, 3) := by decide +kernel
theorem d_828_47 : decode (mB 828) 47 = .ok (.ireturn, 1) := by decide +kernel
theorem d_830_0 : decode (mB 830) 0 = .ok (.iload_n 1, 1) := by decide +kernel
theorem d_830_1 : decode (mB 830) 1 = .ok (.iconst 2, 1) := by decide +kernel
theorem d_830_2 : decode (mB 830) 2 = .ok (.if_icmp .ne 17, 3) := by decide +kernel
theorem d_830_5 : decode (mB 830) 5 = .ok (.aload_n 0, 1) := by decide +kernel
theorem d_830_6 : decode (mB 830) 6 = .ok (.getfield 23, 3) := by decide +kernel
theorem d_830_9 : decode (mB 830) 9 = .ok (.iload_n 2, 1) := by decide +kernel
theorem d_830_10 : decode (mB 830) 10 = .ok (.invokevirtual 187, 3) := by decide +kernel
theorem d_830_13 : decode (mB 830) 13 = .ok (.ifCond .ne 6, 3) := by decide +kernel
theorem d_830_16 : decode (mB 830) 16 = .ok (.ldc 174, 2) := by decide +kernel
theorem d_830_18 : decode (mB 830) 18 = .ok (.ireturn, 1) := by decide +kernel
theorem d_830_19 : decode (mB 830) 19 = .ok (.iload_n 1, 1) := by decide +kernel
theorem d_830_20 : decode (mB 830) 20 = .ok (.ifCond .lt 8, 3) := by decide +kernel
theorem d_830_23 : decode (mB 830) 23 = .ok (.iload_n 1, 1) := by decide +kernel
theorem d_830_24 : decode (mB 830) 24 = .ok (.iconst 2, 1) := by decide +kernel
theorem d_830_25 : decode (mB 830) 25 = .ok (.if_icmp .le 6, 3) := by decide +kernel
theorem d_830_28 : decode (mB 830) 28 = .ok (.ldc 82, 2) := by decide +kernel
theorem d_830_30 : decode (mB 830) 30 = .ok (.ireturn, 1) := by decide +kernel
theorem d_830_31 : decode (mB 830) 31 = .ok (.aload_n 0, 1) := by decide +kernel
theorem d_830_32 : decode (mB 830) 32 = .ok (.getfield 78, 3) := by decide +kernel
theorem d_830_35 : decode (mB 830) 35 = .ok (.invokevirtual 290, 3) := by decide +kernel
theorem d_830_38 : decode (mB 830) 38 = .ok (.istore_n 3, 1) := by decide +kernel
theorem d_830_39 : decode (mB 830) 39 = .ok (.iload_n 1, 1) := by decide +kernel
theorem d_830_40 : decode (mB 830) 40 = .ok (.ifCond .ne 5, 3) := by decide +kernel
theorem d_830_43 : decode (mB 830) 43 = .ok (.iload_n 3, 1) := by decide +kernel
theorem d_830_44 : decode (mB 830) 44 = .ok (.ireturn, 1) := by decide +kernel
theorem d_830_45 : decode (mB 830) 45 = .ok (.iload_n 1, 1) := by decide +kernel
theorem d_830_46 : decode (mB 830) 46 = .ok (.iconst 1, 1) := by decide +kernel
theorem d_830_47 : decode (mB 830) 47 = .ok (.if_icmp .ne 13, 3) := by decide +kernel
theorem d_830_50 : decode (mB 830) 50 = .ok (.aload_n 0, 1) := by decide +kernel
theorem d_830_51 : decode (mB 830) 51 = .ok (.getfield 78, 3) := by decide +kernel
theorem d_830_54 : decode (mB 830) 54 = .ok (.invokevirtual 293, 3) := by decide +kernel
theorem d_830_57 : decode (mB 830) 57 = .ok (.goto 12, 3) := by decide +kernel
theorem d_830_60 : decode (mB 830) 60 = .ok (.aload_n 0, 1) := by decide +kernel
theorem d_830_61 : decode (mB 830) 61 = .ok (.getfield 78, 3) := by decide +kernel
theorem d_830_64 : decode (mB 830) 64 = .ok (.getfield 296, 3) := by decide +kernel
theorem d_830_67 : decode (mB 830) 67 = .ok (.iload_n 2, 1) := by decide +kernel
theorem d_830_68 : decode (mB 830) 68 = .ok (.iaload, 1) := by decide +kernel
theorem d_830_69 : decode (mB 830) 69 = .ok (.ireturn, 1) := by decide +kernel
theorem d_831_0 : decode (mB 831) 0 = .ok (.aload_n 0, 1) := by decide +kernel
theorem d_831_1 : decode (mB 831) 1 = .ok (.getfield 23, 3) := by decide +kernel
theorem d_831_4 : decode (mB 831) 4 = .ok (.iload_n 1, 1) := by decide +kernel
theorem d_831_5 : decode (mB 831) 5 = .ok (.invokevirtual 187, 3) := by decide +kernel
theorem d_831_8 : decode (mB 831) 8 = .ok (.ifCond .ne 6, 3) := by decide +kernel
theorem d_831_11 : decode (mB 831) 11 = .ok (.ldc 174, 2) := by decide +kernel
theorem d_831_13 : decode (mB 831) 13 = .ok (.ireturn, 1) := by decide +kernel
theorem d_831_14 : decode (mB 831) 14 = .ok (.iload_n 2, 1) := by decide +kernel
theorem d_831_15 : decode (mB 831) 15 = .ok (.invokestatic 275, 3) := by decide +kernel
theorem d_831_18 : decode (mB 831) 18 = .ok (.ifCond .eq 12, 3) := by decide +kernel
theorem d_831_21 : decode (mB 831) 21 = .ok (.iload_n 3, 1) := by decide +kernel
theorem d_831_22 : decode (mB 831) 22 = .ok (.ifCond .lt 8, 3) := by decide +kernel
theorem d_831_25 : decode (mB 831) 25 = .ok (.iload_n 3, 1) := by decide +kernel
theorem d_831_26 : decode (mB 831) 26 = .ok (.iconst 1, 1) := by decide +kernel
theorem d_831_27 : decode (mB 831) 27 = .ok (.if_icmp .le 6, 3) := by decide +kernel
theorem d_831_30 : decode (mB 831) 30 = .ok (.ldc 82, 2) := by decide +kernel
theorem d_831_32 : decode (mB 831) 32 = .ok (.ireturn, 1) := by decide +kernel
theorem d_831_33 : decode (mB 831) 33 = .ok (.aload_n 0, 1) := by decide +kernel
theorem d_831_34 : decode (mB 831) 34 = .ok (.getfield 46, 3) := by decide +kernel
theorem d_831_37 : decode (mB 831) 37 = .ok (.iload_n 1, 1) := by decide +kernel
theorem d_831_38 : decode (mB 831) 38 = .ok (.iload_n 2, 1) := by decide +kernel
theorem d_831_39 : decode (mB 831) 39 = .ok (.invokevirtual 299, 3) := by decide +kernel
theorem d_831_42 : decode (mB 831) 42 = .ok (.istore 4, 2) := by decide +kernel
theorem d_831_44 : decode (mB 831) 44 = .ok (.bipush 8, 2) := by decide +kernel
theorem d_831_46 : decode (mB 831) 46 = .ok (.istore 5, 2) := by decide +kernel
theorem d_831_48 : decode (mB 831) 48 = .ok (.iconst 0, 1) := by decide +kernel
theorem d_831_49 : decode (mB 831) 49 = .ok (.istore 6, 2) := by decide +kernel
theorem d_831_51 : decode (mB 831) 51 = .ok (.iload 6, 2) := by decide +kernel
theorem d_831_53 : decode (mB 831) 53 = .ok (.iconst 3, 1) := by decide +kernel
theorem d_831_54 : decode (mB 831) 54 = .ok (.if_icmp .ge 28, 3) := by decide +kernel
theorem d_831_57 : decode (mB 831) 57 = .ok (.iload 4, 2) := by decide +kernel
theorem d_831_59 : decode (mB 831) 59 = .ok (.iconst 2, 1) := by decide +kernel
theorem d_831_60 : decode (mB 831) 60 = .ok (.irem, 1) := by decide +kernel
theorem d_831_61 : decode (mB 831) 61 = .ok (.ifCond .ne 21, 3) := by decide +kernel
theorem d_831_64 : decode (mB 831) 64 = .ok (.iload 4, 2) := by decide +kernel
theorem d_831_66 : decode (mB 831) 66 = .ok (.iconst 2, 1) := by decide +kernel
theorem d_831_67 : decode (mB 831) 67 = .ok (.idiv, 1) := by decide +kernel
theorem d_831_68 : decode (mB 831) 68 = .ok (.istore 4, 2) := by decide +kernel
theorem d_831_70 : decode (mB 831) 70 = .ok (.iload 5, 2) := by decide +kernel
theorem d_831_72 : decode (mB 831) 72 = .ok (.iconst 2, 1) := by decide +kernel
theorem d_831_73 : decode (mB 831) 73 = .ok (.idiv, 1) := by decide +kernel
theorem d_831_74 : decode (mB 831) 74 = .ok (.istore 5, 2) := by decide +kernel
theorem d_831_76 : decode (mB 831) 76 = .ok (.iinc 6 1, 3) := by decide +kernel
theorem d_831_79 : decode (mB 831) 79 = .ok (.goto (-28), 3) := by decide +kernel
theorem d_831_82 : decode (mB 831) 82 = .ok (.iload_n 3, 1) := by decide +kernel
theorem d_831_83 : decode (mB 831) 83 = .ok (.ifCond .ne 8, 3) := by decide +kernel
theorem d_831_86 : decode (mB 831) 86 = .ok (.iload 4, 2) := by decide +kernel
theorem d_831_88 : decode (mB 831) 88 = .ok (.goto 5, 3) := by decide +kernel
theorem d_831_91 : decode (mB 831) 91 = .ok (.iload 5, 2) := by decide +kernel
theorem d_831_93 : decode (mB 831) 93 = .ok (.ireturn, 1) := by decide +kernel
theorem d_832_0 : decode (mB 832) 0 = .ok (.iload_n 1, 1) := by decide +kernel
theorem d_832_1 : decode (mB 832) 1 = .ok (.invokestatic 275, 3) := by decide +kernel
theorem d_832_4 : decode (mB 832) 4 = .ok (.ifCond .ne 6, 3) := by decide +kernel
theorem d_832_7 : decode (mB 832) 7 = .ok (.ldc 82, 2) := by decide +kernel
theorem d_832_9 : decode (mB 832) 9 = .ok (.ireturn, 1) := by decide +kernel
theorem d_832_10 : decode (mB 832) 10 = .ok (.aload_n 0, 1) := by decide +kernel
theorem d_832_11 : decode (mB 832) 11 = .ok (.getfield 53, 3) := by decide +kernel
theorem d_832_14 : decode (mB 832) 14 = .ok (.getfield 161, 3) := by decide +kernel
theorem d_832_17 : decode (mB 832) 17 = .ok (.bipush 20, 2) := by decide +kernel
theorem d_832_19 : decode (mB 832) 19 = .ok (.if_icmp .lt 6, 3) := by decide +kernel
theorem d_832_22 : decode (mB 832) 22 = .ok (.ldc 86, 2) := by decide +kernel
theorem d_832_24 : decode (mB 832) 24 = .ok (.ireturn, 1) := by decide +kernel
theorem d_832_25 : decode (mB 832) 25 = .ok (.aload_n 0, 1) := by decide +kernel
theorem d_832_26 : decode (mB 832) 26 = .ok (.getfield 53, 3) := by decide +kernel
theorem d_832_29 : decode (mB 832) 29 = .ok (.getfield 302, 3) := by decide +kernel
theorem d_832_32 : decode (mB 832) 32 = .ok (.aload_n 0, 1) := by decide +kernel
theorem d_832_33 : decode (mB 832) 33 = .ok (.getfield 53, 3) := by decide +kernel
theorem d_832_36 : decode (mB 832) 36 = .ok (.getfield 161, 3) := by decide +kernel
theorem d_832_39 : decode (mB 832) 39 = .ok (.iload_n 1, 1) := by decide +kernel
theorem d_832_40 : decode (mB 832) 40 = .ok (.iastore, 1) := by decide +kernel
theorem d_832_41 : decode (mB 832) 41 = .ok (.aload_n 0, 1) := by decide +kernel
theorem d_832_42 : decode (mB 832) 42 = .ok (.getfield 53, 3) := by decide +kernel
theorem d_832_45 : decode (mB 832) 45 = .ok (.getfield 305, 3) := by decide +kernel
theorem d_832_48 : decode (mB 832) 48 = .ok (.aload_n 0, 1) := by decide +kernel
theorem d_832_49 : decode (mB 832) 49 = .ok (.getfield 53, 3) := by decide +kernel
theorem d_832_52 : decode (mB 832) 52 = .ok (.getfield 161, 3) := by decide +kernel
theorem d_832_55 : decode (mB 832) 55 = .ok (.iload_n 2, 1) := by decide +kernel
theorem d_832_56 : decode (mB 832) 56 = .ok (.bastore, 1) := by decide +kernel
theorem d_832_57 : decode (mB 832) 57 = .ok (.aload_n 0, 1) := by decide +kernel
theorem d_832_58 : decode (mB 832) 58 = .ok (.getfield 53, 3) := by decide +kernel
theorem d_832_61 : decode (mB 832) 61 = .ok (.dup, 1) := by decide +kernel
theorem d_832_62 : decode (mB 832) 62 = .ok (.getfield 161, 3) := by decide +kernel
theorem d_832_65 : decode (mB 832) 65 = .ok (.iconst 1, 1) := by decide +kernel
theorem d_832_66 : decode (mB 832) 66 = .ok (.iadd, 1) := by decide +kernel
theorem d_832_67 : decode (mB 832) 67 = .ok (.putfield 161, 3) := by decide +kernel
theorem d_832_70 : decode (mB 832) 70 = .ok (.aload_n 0, 1) := by decide +kernel
theorem d_832_71 : decode (mB 832) 71 = .ok (.getfield 53, 3) := by decide +kernel
theorem d_832_74 : decode (mB 832) 74 = .ok (.getfield 161, 3) := by decide +kernel
theorem d_832_77 : decode (mB 832) 77 = .ok (.ireturn, 1) := by decide +kernel
theorem d_833_0 : decode (mB 833) 0 = .ok (.aload_n 0, 1) := by decide +kernel
theorem d_833_1 : decode (mB 833) 1 = .ok (.invokevirtual 309, 3) := by decide +kernel
theorem d_833_4 : decode (mB 833) 4 = .ok (.ireturn, 1) := by decide +kernel
theorem d_836_0 : decode (mB 836) 0 = .ok (.aload_n 0, 1) := by decide +kernel
theorem d_836_1 : decode (mB 836) 1 = .ok (.invokevirtual 309, 3) := by decide +kernel
theorem d_836_4 : decode (mB 836) 4 = .ok (.istore_n 1, 1) := by decide +kernel
theorem d_836_5 : decode (mB 836) 5 = .ok (.iload_n 1, 1) := by decide +kernel
theorem d_836_6 : decode (mB 836) 6 = .ok (.invokestatic 243, 3) := by decide +kernel
theorem d_836_9 : decode (mB 836) 9 = .ok (.istore_n 2, 1) := by decide +kernel
theorem d_836_10 : decode (mB 836) 10 = .ok (.iconst (-1), 1) := by decide +kernel
theorem d_836_11 : decode (mB 836) 11 = .ok (.istore_n 3, 1) := by decide +kernel
theorem d_836_12 : decode (mB 836) 12 = .ok (.iload_n 2, 1) := by decide +kernel
theorem d_836_13 : decode (mB 836) 13 = .ok (.istore 4, 2) := by decide +kernel
theorem d_836_15 : decode (mB 836) 15 = .ok (.iconst 0, 1) := by decide +kernel
theorem d_836_16 : decode (mB 836) 16 = .ok (.istore 5, 2) := by decide +kernel
theorem d_836_18 : decode (mB 836) 18 = .ok (.iload 5, 2) := by decide +kernel
theorem d_836_20 : decode (mB 836) 20 = .ok (.bipush 24, 2) := by decide +kernel
theorem d_836_22 : decode (mB 836) 22 = .ok (.if_icmp .ge 43, 3) := by decide +kernel
theorem d_836_25 : decode (mB 836) 25 = .ok (.aload_n 0, 1) := by decide +kernel
theorem d_836_26 : decode (mB 836) 26 = .ok (.iload_n 1, 1) := by decide +kernel
theorem d_836_27 : decode (mB 836) 27 = .ok (.iload 5, 2) := by decide +kernel
theorem d_836_29 : decode (mB 836) 29 = .ok (.invokevirtual 315, 3) := by decide +kernel
theorem d_836_32 : decode (mB 836) 32 = .ok (.istore 6, 2) := by decide +kernel
theorem d_836_34 : decode (mB 836) 34 = .ok (.iload 6, 2) := by decide +kernel
theorem d_836_36 : decode (mB 836) 36 = .ok (.iload_n 2, 1) := by decide +kernel
theorem d_836_37 : decode (mB 836) 37 = .ok (.iload 6, 2) := by decide +kernel
theorem d_836_39 : decode (mB 836) 39 = .ok (.isub, 1) := by decide +kernel
theorem d_836_40 : decode (mB 836) 40 = .ok (.invokestatic 318, 3) := by decide +kernel
theorem d_836_43 : decode (mB 836) 43 = .ok (.istore 7, 2) := by decide +kernel
theorem d_836_45 : decode (mB 836) 45 = .ok (.iload 7, 2) := by decide +kernel
theorem d_836_47 : decode (mB 836) 47 = .ok (.iload 4, 2) := by decide +kernel
theorem d_836_49 : decode (mB 836) 49 = .ok (.if_icmp .ge 10, 3) := by decide +kernel
theorem d_836_52 : decode (mB 836) 52 = .ok (.iload 7, 2) := by decide +kernel
theorem d_836_54 : decode (mB 836) 54 = .ok (.istore 4, 2) := by decide +kernel
theorem d_836_56 : decode (mB 836) 56 = .ok (.iload 5, 2) := by decide +kernel
theorem d_836_58 : decode (mB 836) 58 = .ok (.istore_n 3, 1) := by decide +kernel
theorem d_836_59 : decode (mB 836) 59 = .ok (.iinc 5 1, 3) := by decide +kernel
theorem d_836_62 : decode (mB 836) 62 = .ok (.goto (-44), 3) := by decide +kernel
theorem d_836_65 : decode (mB 836) 65 = .ok (.iload_n 3, 1) := by decide +kernel
theorem d_836_66 : decode (mB 836) 66 = .ok (.ireturn, 1) := by decide +kernel
theorem d_838_0 : decode (mB 838) 0 = .ok (.iload_n 1, 1) := by decide +kernel
theorem d_838_1 : decode (mB 838) 1 = .ok (.ifCond .lt 8, 3) := by decide +kernel
theorem d_838_4 : decode (mB 838) 4 = .ok (.iload_n 1, 1) := by decide +kernel
theorem d_838_5 : decode (mB 838) 5 = .ok (.iconst 2, 1) := by decide +kernel
theorem d_838_6 : decode (mB 838) 6 = .ok (.if_icmp .le 6, 3) := by decide +kernel
theorem d_838_9 : decode (mB 838) 9 = .ok (.ldc 82, 2) := by decide +kernel
theorem d_838_11 : decode (mB 838) 11 = .ok (.ireturn, 1) := by decide +kernel
theorem d_838_12 : decode (mB 838) 12 = .ok (.aload_n 0, 1) := by decide +kernel
theorem d_838_13 : decode (mB 838) 13 = .ok (.getfield 53, 3) := by decide +kernel
theorem d_838_16 : decode (mB 838) 16 = .ok (.getfield 164, 3) := by decide +kernel
theorem d_838_19 : decode (mB 838) 19 = .ok (.bipush 12, 2) := by decide +kernel
theorem d_838_21 : decode (mB 838) 21 = .ok (.if_icmp .lt 6, 3) := by decide +kernel
theorem d_838_24 : decode (mB 838) 24 = .ok (.ldc 86, 2) := by decide +kernel
theorem d_838_26 : decode (mB 838) 26 = .ok (.ireturn, 1) := by decide +kernel
theorem d_838_27 : decode (mB 838) 27 = .ok (.aload_n 0, 1) := by decide +kernel
theorem d_838_28 : decode (mB 838) 28 = .ok (.getfield 53, 3) := by decide +kernel
theorem d_838_31 : decode (mB 838) 31 = .ok (.getfield 321, 3) := by decide +kernel
theorem d_838_34 : decode (mB 838) 34 = .ok (.aload_n 0, 1) := by decide +kernel
theorem d_838_35 : decode (mB 838) 35 = .ok (.getfield 53, 3) := by decide +kernel
theorem d_838_38 : decode (mB 838) 38 = .ok (.getfield 164, 3) := by decide +kernel
theorem d_838_41 : decode (mB 838) 41 = .ok (.iload_n 1, 1) := by decide +kernel
theorem d_838_42 : decode (mB 838) 42 = .ok (.iastore, 1) := by decide +kernel
theorem d_838_43 : decode (mB 838) 43 = .ok (.aload_n 0, 1) := by decide +kernel
theorem d_838_44 : decode (mB 838) 44 = .ok (.getfield 53, 3) := by decide +kernel
theorem d_838_47 : decode (mB 838) 47 = .ok (.dup, 1) := by decide +kernel
theorem d_838_48 : decode (mB 838) 48 = .ok (.getfield 164, 3) := by decide +kernel
theorem d_838_51 : decode (mB 838) 51 = .ok (.iconst 1, 1) := by decide +kernel
theorem d_838_52 : decode (mB 838) 52 = .ok (.iadd, 1) := by decide +kernel
theorem d_838_53 : decode (mB 838) 53 = .ok (.putfield 164, 3) := by decide +kernel
theorem d_838_56 : decode (mB 838) 56 = .ok (.aload_n 0, 1) := by decide +kernel
theorem d_838_57 : decode (mB 838) 57 = .ok (.getfield 53, 3) := by decide +kernel
theorem d_838_60 : decode (mB 838) 60 = .ok (.getfield 164, 3) := by decide +kernel
theorem d_838_63 : decode (mB 838) 63 = .ok (.ireturn, 1) := by decide +kernel
theorem d_839_0 : decode (mB 839) 0 = .ok (.iconst 0, 1) := by decide +kernel
theorem d_839_1 : decode (mB 839) 1 = .ok (.istore_n 1, 1) := by decide +kernel
theorem d_839_2 : decode (mB 839) 2 = .ok (.iconst 0, 1) := by decide +kernel
theorem d_839_3 : decode (mB 839) 3 = .ok (.istore_n 2, 1) := by decide +kernel
theorem d_839_4 : decode (mB 839) 4 = .ok (.iload_n 2, 1) := by decide +kernel
theorem d_839_5 : decode (mB 839) 5 = .ok (.aload_n 0, 1) := by decide +kernel
theorem d_839_6 : decode (mB 839) 6 = .ok (.getfield 23, 3) := by decide +kernel
theorem d_839_9 : decode (mB 839) 9 = .ok (.getfield 107, 3) := by decide +kernel
theorem d_839_12 : decode (mB 839) 12 = .ok (.if_icmp .ge 23, 3) := by decide +kernel
theorem d_839_15 : decode (mB 839) 15 = .ok (.aload_n 0, 1) := by decide +kernel
theorem d_839_16 : decode (mB 839) 16 = .ok (.iload_n 2, 1) := by decide +kernel
theorem d_839_17 : decode (mB 839) 17 = .ok (.invokevirtual 324, 3) := by decide +kernel
theorem d_839_20 : decode (mB 839) 20 = .ok (.ifCond .eq 9, 3) := by decide +kernel
theorem d_839_23 : decode (mB 839) 23 = .ok (.iload_n 1, 1) := by decide +kernel
theorem d_839_24 : decode (mB 839) 24 = .ok (.iconst 1, 1) := by decide +kernel
theorem d_839_25 : decode (mB 839) 25 = .ok (.iload_n 2, 1) := by decide +kernel
theorem d_839_26 : decode (mB 839) 26 = .ok (.ishl, 1) := by decide +kernel
theorem d_839_27 : decode (mB 839) 27 = .ok (.ior, 1) := by decide +kernel
theorem d_839_28 : decode (mB 839) 28 = .ok (.istore_n 1, 1) := by decide +kernel
theorem d_839_29 : decode (mB 839) 29 = .ok (.iinc 2 1, 3) := by decide +kernel
theorem d_839_32 : decode (mB 839) 32 = .ok (.goto (-28), 3) := by decide +kernel
theorem d_839_35 : decode (mB 839) 35 = .ok (.iload_n 1, 1) := by decide +kernel
theorem d_839_36 : decode (mB 839) 36 = .ok (.ireturn, 1) := by decide +kernel
theorem d_842_0 : decode (mB 842) 0 = .ok (.aload_n 0, 1) := by decide +kernel
theorem d_842_1 : decode (mB 842) 1 = .ok (.getfield 23, 3) := by decide +kernel
theorem d_842_4 : decode (mB 842) 4 = .ok (.iload_n 2, 1) := by decide +kernel
theorem d_842_5 : decode (mB 842) 5 = .ok (.invokevirtual 187, 3) := by decide +kernel
theorem d_842_8 : decode (mB 842) 8 = .ok (.ifCond .ne 6, 3) := by decide +kernel
theorem d_842_11 : decode (mB 842) 11 = .ok (.ldc 174, 2) := by decide +kernel
theorem d_842_13 : decode (mB 842) 13 = .ok (.ireturn, 1) := by decide +kernel
theorem d_842_14 : decode (mB 842) 14 = .ok (.iload_n 1, 1) := by decide +kernel
theorem d_842_15 : decode (mB 842) 15 = .ok (.ifCond .lt 9, 3) := by decide +kernel
theorem d_842_18 : decode (mB 842) 18 = .ok (.iload_n 1, 1) := by decide +kernel
theorem d_842_19 : decode (mB 842) 19 = .ok (.ldc 215, 2) := by decide +kernel
theorem d_842_21 : decode (mB 842) 21 = .ok (.if_icmp .le 6, 3) := by decide +kernel
theorem d_842_24 : decode (mB 842) 24 = .ok (.ldc 82, 2) := by decide +kernel
theorem d_842_26 : decode (mB 842) 26 = .ok (.ireturn, 1) := by decide +kernel
theorem d_842_27 : decode (mB 842) 27 = .ok (.aload_n 0, 1) := by decide +kernel
theorem d_842_28 : decode (mB 842) 28 = .ok (.getfield 53, 3) := by decide +kernel
theorem d_842_31 : decode (mB 842) 31 = .ok (.getfield 167, 3) := by decide +kernel
theorem d_842_34 : decode (mB 842) 34 = .ok (.bipush 30, 2) := by decide +kernel
theorem d_842_36 : decode (mB 842) 36 = .ok (.if_icmp .lt 6, 3) := by decide +kernel
theorem d_842_39 : decode (mB 842) 39 = .ok (.ldc 86, 2) := by decide +kernel
theorem d_842_41 : decode (mB 842) 41 = .ok (.ireturn, 1) := by decide +kernel
theorem d_842_42 : decode (mB 842) 42 = .ok (.aload_n 0, 1) := by decide +kernel
theorem d_842_43 : decode (mB 842) 43 = .ok (.getfield 53, 3) := by decide +kernel
theorem d_842_46 : decode (mB 842) 46 = .ok (.getfield 333, 3) := by decide +kernel
theorem d_842_49 : decode (mB 842) 49 = .ok (.aload_n 0, 1) := by decide +kernel
theorem d_842_50 : decode (mB 842) 50 = .ok (.getfield 53, 3) := by decide +kernel
theorem d_842_53 : decode (mB 842) 53 = .ok (.getfield 167, 3) := by decide +kernel
theorem d_842_56 : decode (mB 842) 56 = .ok (.iload_n 1, 1) := by decide +kernel
theorem d_842_57 : decode (mB 842) 57 = .ok (.iastore, 1) := by decide +kernel
theorem d_842_58 : decode (mB 842) 58 = .ok (.aload_n 0, 1) := by decide +kernel
theorem d_842_59 : decode (mB 842) 59 = .ok (.getfield 53, 3) := by decide +kernel
theorem d_842_62 : decode (mB 842) 62 = .ok (.getfield 336, 3) := by decide +kernel
theorem d_842_65 : decode (mB 842) 65 = .ok (.aload_n 0, 1) := by decide +kernel
theorem d_842_66 : decode (mB 842) 66 = .ok (.getfield 53, 3) := by decide +kernel
theorem d_842_69 : decode (mB 842) 69 = .ok (.getfield 167, 3) := by decide +kernel
theorem d_842_72 : decode (mB 842) 72 = .ok (.iload_n 2, 1) := by decide +kernel
theorem d_842_73 : decode (mB 842) 73 = .ok (.iastore, 1) := by decide +kernel
theorem d_842_74 : decode (mB 842) 74 = .ok (.aload_n 0, 1) := by decide +kernel
theorem d_842_75 : decode (mB 842) 75 = .ok (.getfield 53, 3) := by decide +kernel
theorem d_842_78 : decode (mB 842) 78 = .ok (.getfield 339, 3) := by decide +kernel
theorem d_842_81 : decode (mB 842) 81 = .ok (.aload_n 0, 1) := by decide +kernel
theorem d_842_82 : decode (mB 842) 82 = .ok (.getfield 53, 3) := by decide +kernel
theorem d_842_85 : decode (mB 842) 85 = .ok (.getfield 167, 3) := by decide +kernel
theorem d_842_88 : decode (mB 842) 88 = .ok (.iload_n 3, 1) := by decide +kernel
theorem d_842_89 : decode (mB 842) 89 = .ok (.bastore, 1) := by decide +kernel
theorem d_842_90 : decode (mB 842) 90 = .ok (.aload_n 0, 1) := by decide +kernel
theorem d_842_91 : decode (mB 842) 91 = .ok (.getfield 53, 3) := by decide +kernel
theorem d_842_94 : decode (mB 842) 94 = .ok (.dup, 1) := by decide +kernel
theorem d_842_95 : decode (mB 842) 95 = .ok (.getfield 167, 3) := by decide +kernel
theorem d_842_98 : decode (mB 842) 98 = .ok (.iconst 1, 1) := by decide +kernel
theorem d_842_99 : decode (mB 842) 99 = .ok (.iadd, 1) := by decide +kernel
theorem d_842_100 : decode (mB 842) 100 = .ok (.putfield 167, 3) := by decide +kernel
theorem d_842_103 : decode (mB 842) 103 = .ok (.aload_n 0, 1) := by decide +kernel
theorem d_842_104 : decode (mB 842) 104 = .ok (.getfield 53, 3) := by decide +kernel
theorem d_842_107 : decode (mB 842) 107 = .ok (.getfield 167, 3) := by decide +kernel
theorem d_842_110 : decode (mB 842) 110 = .ok (.ireturn, 1) := by decide +kernel
theorem d_843_0 : decode (mB 843) 0 = .ok (.aload_n 0, 1) := by decide +kernel
theorem d_843_1 : decode (mB 843) 1 = .ok (.getfield 53, 3) := by decide +kernel
theorem d_843_4 : decode (mB 843) 4 = .ok (.getfield 161, 3) := by decide +kernel
theorem d_843_7 : decode (mB 843) 7 = .ok (.aload_n 0, 1) := by decide +kernel
theorem d_843_8 : decode (mB 843) 8 = .ok (.getfield 53, 3) := by decide +kernel
theorem d_843_11 : decode (mB 843) 11 = .ok (.getfield 164, 3) := by decide +kernel
theorem d_843_14 : decode (mB 843) 14 = .ok (.iadd, 1) := by decide +kernel
theorem d_843_15 : decode (mB 843) 15 = .ok (.aload_n 0, 1) := by decide +kernel
theorem d_843_16 : decode (mB 843) 16 = .ok (.getfield 53, 3) := by decide +kernel
theorem d_843_19 : decode (mB 843) 19 = .ok (.getfield 167, 3) := by decide +kernel
theorem d_843_22 : decode (mB 843) 22 = .ok (.iadd, 1) := by decide +kernel
theorem d_843_23 : decode (mB 843) 23 = .ok (.istore_n 1, 1) := by decide +kernel
theorem d_843_24 : decode (mB 843) 24 = .ok (.aload_n 0, 1) := by decide +kernel
theorem d_843_25 : decode (mB 843) 25 = .ok (.getfield 53, 3) := by decide +kernel
theorem d_843_28 : decode (mB 843) 28 = .ok (.invokevirtual 104, 3) := by decide +kernel
theorem d_843_31 : decode (mB 843) 31 = .ok (.iload_n 1, 1) := by decide +kernel
theorem d_843_32 : decode (mB 843) 32 = .ok (.ireturn, 1) := by decide +kernel
theorem d_844_0 : decode (mB 844) 0 = .ok (.iconst 0, 1) := by decide +kernel
theorem d_844_1 : decode (mB 844) 1 = .ok (.istore_n 1, 1) := by decide +kernel
theorem d_844_2 : decode (mB 844) 2 = .ok (.iload_n 1, 1) := by decide +kernel
theorem d_844_3 : decode (mB 844) 3 = .ok (.aload_n 0, 1) := by decide +kernel
theorem d_844_4 : decode (mB 844) 4 = .ok (.getfield 53, 3) := by decide +kernel
theorem d_844_7 : decode (mB 844) 7 = .ok (.getfield 167, 3) := by decide +kernel
theorem d_844_10 : decode (mB 844) 10 = .ok (.if_icmp .ge 64, 3) := by decide +kernel
theorem d_844_13 : decode (mB 844) 13 = .ok (.aload_n 0, 1) := by decide +kernel
theorem d_844_14 : decode (mB 844) 14 = .ok (.getfield 46, 3) := by decide +kernel
theorem d_844_17 : decode (mB 844) 17 = .ok (.aload_n 0, 1) := by decide +kernel
theorem d_844_18 : decode (mB 844) 18 = .ok (.getfield 53, 3) := by decide +kernel
theorem d_844_21 : decode (mB 844) 21 = .ok (.getfield 336, 3) := by decide +kernel
theorem d_844_24 : decode (mB 844) 24 = .ok (.iload_n 1, 1) := by decide +kernel
theorem d_844_25 : decode (mB 844) 25 = .ok (.iaload, 1) := by decide +kernel
theorem d_844_26 : decode (mB 844) 26 = .ok (.aload_n 0, 1) := by decide +kernel
theorem d_844_27 : decode (mB 844) 27 = .ok (.getfield 53, 3) := by decide +kernel
theorem d_844_30 : decode (mB 844) 30 = .ok (.getfield 333, 3) := by decide +kernel
theorem d_844_33 : decode (mB 844) 33 = .ok (.iload_n 1, 1) := by decide +kernel
theorem d_844_34 : decode (mB 844) 34 = .ok (.iaload, 1) := by decide +kernel
theorem d_844_35 : decode (mB 844) 35 = .ok (.invokevirtual 284, 3) := by decide +kernel
theorem d_844_38 : decode (mB 844) 38 = .ok (.istore_n 2, 1) := by decide +kernel
theorem d_844_39 : decode (mB 844) 39 = .ok (.aload_n 0, 1) := by decide +kernel
theorem d_844_40 : decode (mB 844) 40 = .ok (.getfield 23, 3) := by decide +kernel
theorem d_844_43 : decode (mB 844) 43 = .ok (.iload_n 2, 1) := by decide +kernel
theorem d_844_44 : decode (mB 844) 44 = .ok (.aload_n 0, 1) := by decide +kernel
theorem d_844_45 : decode (mB 844) 45 = .ok (.getfield 23, 3) := by decide +kernel
theorem d_844_48 : decode (mB 844) 48 = .ok (.getfield 126, 3) := by decide +kernel
theorem d_844_51 : decode (mB 844) 51 = .ok (.invokevirtual 342, 3) := by decide +kernel
theorem d_844_54 : decode (mB 844) 54 = .ok (.aload_n 0, 1) := by decide +kernel
theorem d_844_55 : decode (mB 844) 55 = .ok (.getfield 53, 3) := by decide +kernel
theorem d_844_58 : decode (mB 844) 58 = .ok (.getfield 339, 3) := by decide +kernel
theorem d_844_61 : decode (mB 844) 61 = .ok (.iload_n 1, 1) := by decide +kernel
theorem d_844_62 : decode (mB 844) 62 = .ok (.baload, 1) := by decide +kernel
theorem d_844_63 : decode (mB 844) 63 = .ok (.if_icmp .eq 5, 3) := by decide +kernel
theorem d_844_66 : decode (mB 844) 66 = .ok (.iload_n 1, 1) := by decide +kernel
theorem d_844_67 : decode (mB 844) 67 = .ok (.ireturn, 1) := by decide +kernel
theorem d_844_68 : decode (mB 844) 68 = .ok (.iinc 1 1, 3) := by decide +kernel
theorem d_844_71 : decode (mB 844) 71 = .ok (.goto (-69), 3) := by decide +kernel
theorem d_844_74 : decode (mB 844) 74 = .ok (.iconst (-1), 1) := by decide +kernel
theorem d_844_75 : decode (mB 844) 75 = .ok (.ireturn, 1) := by decide +kernel
theorem d_845_0 : decode (mB 845) 0 = .ok (.iload_n 1, 1) := by decide +kernel
theorem d_845_1 : decode (mB 845) 1 = .ok (.ifCond .ge 6, 3) := by decide +kernel
theorem d_845_4 : decode (mB 845) 4 = .ok (.ldc 82, 2) := by decide +kernel
theorem d_845_6 : decode (mB 845) 6 = .ok (.ireturn, 1) := by decide +kernel
theorem d_845_7 : decode (mB 845) 7 = .ok (.aload_n 0, 1) := by decide +kernel
theorem d_845_8 : decode (mB 845) 8 = .ok (.getfield 29, 3) := by decide +kernel
theorem d_845_11 : decode (mB 845) 11 = .ok (.getfield 345, 3) := by decide +kernel
theorem d_845_14 : decode (mB 845) 14 = .ok (.istore_n 2, 1) := by decide +kernel
theorem d_845_15 : decode (mB 845) 15 = .ok (.aload_n 0, 1) := by decide +kernel
theorem d_845_16 : decode (mB 845) 16 = .ok (.getfield 29, 3) := by decide +kernel
theorem d_845_19 : decode (mB 845) 19 = .ok (.iload_n 1, 1) := by decide +kernel
theorem d_845_20 : decode (mB 845) 20 = .ok (.putfield 345, 3) := by decide +kernel
theorem d_845_23 : decode (mB 845) 23 = .ok (.iload_n 2, 1) := by decide +kernel
theorem d_845_24 : decode (mB 845) 24 = .ok (.ireturn, 1) := by decide +kernel
theorem d_846_0 : decode (mB 846) 0 = .ok (.iload_n 1, 1) := by decide +kernel
theorem d_846_1 : decode (mB 846) 1 = .ok (.ifCond .lt 8, 3) := by decide +kernel
theorem d_846_4 : decode (mB 846) 4 = .ok (.iload_n 1, 1) := by decide +kernel
theorem d_846_5 : decode (mB 846) 5 = .ok (.iconst 2, 1) := by decide +kernel
theorem d_846_6 : decode (mB 846) 6 = .ok (.if_icmp .lt 6, 3) := by decide +kernel
theorem d_846_9 : decode (mB 846) 9 = .ok (.ldc 174, 2) := by decide +kernel
theorem d_846_11 : decode (mB 846) 11 = .ok (.ireturn, 1) := by decide +kernel
theorem d_846_12 : decode (mB 846) 12 = .ok (.aload_n 0, 1) := by decide +kernel
theorem d_846_13 : decode (mB 846) 13 = .ok (.getfield 33, 3) := by decide +kernel
theorem d_846_16 : decode (mB 846) 16 = .ok (.iload_n 1, 1) := by decide +kernel
theorem d_846_17 : decode (mB 846) 17 = .ok (.aaload, 1) := by decide +kernel
theorem d_846_18 : decode (mB 846) 18 = .ok (.aload_n 0, 1) := by decide +kernel
theorem d_846_19 : decode (mB 846) 19 = .ok (.getfield 29, 3) := by decide +kernel
theorem d_846_22 : decode (mB 846) 22 = .ok (.invokevirtual 348, 3) := by decide +kernel
theorem d_846_25 : decode (mB 846) 25 = .ok (.aload_n 0, 1) := by decide +kernel
theorem d_846_26 : decode (mB 846) 26 = .ok (.dup, 1) := by decide +kernel
theorem d_846_27 : decode (mB 846) 27 = .ok (.getfield 37, 3) := by decide +kernel
theorem d_846_30 : decode (mB 846) 30 = .ok (.iconst 1, 1) := by decide +kernel
theorem d_846_31 : decode (mB 846) 31 = .ok (.iload_n 1, 1) := by decide +kernel
theorem d_846_32 : decode (mB 846) 32 = .ok (.ishl, 1) := by decide +kernel
theorem d_846_33 : decode (mB 846) 33 = .ok (.ior, 1) := by decide +kernel
theorem d_846_34 : decode (mB 846) 34 = .ok (.putfield 37, 3) := by decide +kernel
theorem d_846_37 : decode (mB 846) 37 = .ok (.iconst 1, 1) := by decide +kernel
theorem d_846_38 : decode (mB 846) 38 = .ok (.ireturn, 1) := by decide +kernel
theorem d_847_0 : decode (mB 847) 0 = .ok (.iload_n 1, 1) := by decide +kernel
theorem d_847_1 : decode (mB 847) 1 = .ok (.ifCond .lt 8, 3) := by decide +kernel
theorem d_847_4 : decode (mB 847) 4 = .ok (.iload_n 1, 1) := by decide +kernel
theorem d_847_5 : decode (mB 847) 5 = .ok (.iconst 2, 1) := by decide +kernel
theorem d_847_6 : decode (mB 847) 6 = .ok (.if_icmp .lt 6, 3) := by decide +kernel
theorem d_847_9 : decode (mB 847) 9 = .ok (.ldc 174, 2) := by decide +kernel
theorem d_847_11 : decode (mB 847) 11 = .ok (.ireturn, 1) := by decide +kernel
theorem d_847_12 : decode (mB 847) 12 = .ok (.aload_n 0, 1) := by decide +kernel
theorem d_847_13 : decode (mB 847) 13 = .ok (.getfield 37, 3) := by decide +kernel
theorem d_847_16 : decode (mB 847) 16 = .ok (.iload_n 1, 1) := by decide +kernel
theorem d_847_17 : decode (mB 847) 17 = .ok (.invokestatic 219, 3) := by decide +kernel
theorem d_847_20 : decode (mB 847) 20 = .ok (.ifCond .ne 6, 3) := by decide +kernel
theorem d_847_23 : decode (mB 847) 23 = .ok (.ldc 222, 2) := by decide +kernel
theorem d_847_25 : decode (mB 847) 25 = .ok (.ireturn, 1) := by decide +kernel
theorem d_847_26 : decode (mB 847) 26 = .ok (.aload_n 0, 1) := by decide +kernel
theorem d_847_27 : decode (mB 847) 27 = .ok (.getfield 29, 3) := by decide +kernel
theorem d_847_30 : decode (mB 847) 30 = .ok (.aload_n 0, 1) := by decide +kernel
theorem d_847_31 : decode (mB 847) 31 = .ok (.getfield 33, 3) := by decide +kernel
theorem d_847_34 : decode (mB 847) 34 = .ok (.iload_n 1, 1) := by decide +kernel
theorem d_847_35 : decode (mB 847) 35 = .ok (.aaload, 1) := by decide +kernel
theorem d_847_36 : decode (mB 847) 36 = .ok (.invokevirtual 348, 3) := by decide +kernel
theorem d_847_39 : decode (mB 847) 39 = .ok (.iconst 1, 1) := by decide +kernel
theorem d_847_40 : decode (mB 847) 40 = .ok (.ireturn, 1) := by decide +kernel
theorem d_804_0 : decode (mB 804) 0 = .ok (.iload_n 1, 1) := by decide +kernel
theorem d_804_1 : decode (mB 804) 1 = .ok (.tableswitch 111 0 7 #[47, 55, 63, 71, 79, 87, 95, 103], 47) := by decide +kernel
theorem d_804_48 : decode (mB 804) 48 = .ok (.aload_n 0, 1) := by decide +kernel
theorem d_804_49 : decode (mB 804) 49 = .ok (.getfield 23, 3) := by decide +kernel
theorem d_804_52 : decode (mB 804) 52 = .ok (.getfield 120, 3) := by decide +kernel
theorem d_804_55 : decode (mB 804) 55 = .ok (.ireturn, 1) := by decide +kernel
theorem d_804_56 : decode (mB 804) 56 = .ok (.aload_n 0, 1) := by decide +kernel
theorem d_804_57 : decode (mB 804) 57 = .ok (.getfield 23, 3) := by decide +kernel
theorem d_804_60 : decode (mB 804) 60 = .ok (.getfield 123, 3) := by decide +kernel
theorem d_804_63 : decode (mB 804) 63 = .ok (.ireturn, 1) := by decide +kernel
theorem d_804_64 : decode (mB 804) 64 = .ok (.aload_n 0, 1) := by decide +kernel
theorem d_804_65 : decode (mB 804) 65 = .ok (.getfield 23, 3) := by decide +kernel
theorem d_804_68 : decode (mB 804) 68 = .ok (.getfield 107, 3) := by decide +kernel
theorem d_804_71 : decode (mB 804) 71 = .ok (.ireturn, 1) := by decide +kernel
theorem d_804_72 : decode (mB 804) 72 = .ok (.aload_n 0, 1) := by decide +kernel
theorem d_804_73 : decode (mB 804) 73 = .ok (.getfield 10, 3) := by decide +kernel
theorem d_804_76 : decode (mB 804) 76 = .ok (.getfield 83, 3) := by decide +kernel
theorem d_804_79 : decode (mB 804) 79 = .ok (.ireturn, 1) := by decide +kernel
theorem d_804_80 : decode (mB 804) 80 = .ok (.aload_n 0, 1) := by decide +kernel
theorem d_804_81 : decode (mB 804) 81 = .ok (.getfield 23, 3) := by decide +kernel
theorem d_804_84 : decode (mB 804) 84 = .ok (.getfield 126, 3) := by decide +kernel
theorem d_804_87 : decode (mB 804) 87 = .ok (.ireturn, 1) := by decide +kernel
theorem d_804_88 : decode (mB 804) 88 = .ok (.aload_n 0, 1) := by decide +kernel
theorem d_804_89 : decode (mB 804) 89 = .ok (.getfield 23, 3) := by decide +kernel
theorem d_804_92 : decode (mB 804) 92 = .ok (.getfield 129, 3) := by decide +kernel
theorem d_804_95 : decode (mB 804) 95 = .ok (.ireturn, 1) := by decide +kernel
theorem d_804_96 : decode (mB 804) 96 = .ok (.aload_n 0, 1) := by decide +kernel
theorem d_804_97 : decode (mB 804) 97 = .ok (.getfield 23, 3) := by decide +kernel
theorem d_804_100 : decode (mB 804) 100 = .ok (.getfield 132, 3) := by decide +kernel
theorem d_804_103 : decode (mB 804) 103 = .ok (.ireturn, 1) := by decide +kernel
theorem d_804_104 : decode (mB 804) 104 = .ok (.aload_n 0, 1) := by decide +kernel
theorem d_804_105 : decode (mB 804) 105 = .ok (.getfield 23, 3) := by decide +kernel
theorem d_804_108 : decode (mB 804) 108 = .ok (.getfield 135, 3) := by decide +kernel
theorem d_804_111 : decode (mB 804) 111 = .ok (.ireturn, 1) := by decide +kernel
theorem d_804_112 : decode (mB 804) 112 = .ok (.aload_n 0, 1) := by decide +kernel
theorem d_804_113 : decode (mB 804) 113 = .ok (.getfield 23, 3) := by decide +kernel
theorem d_804_116 : decode (mB 804) 116 = .ok (.getfield 107, 3) := by decide +kernel
theorem d_804_119 : decode (mB 804) 119 = .ok (.ifCond .ne 7, 3) := by decide +kernel
theorem d_804_122 : decode (mB 804) 122 = .ok (.iconst (-1), 1) := by decide +kernel
theorem d_804_123 : decode (mB 804) 123 = .ok (.goto 10, 3) := by decide +kernel
theorem d_804_126 : decode (mB 804) 126 = .ok (.aload_n 0, 1) := by decide +kernel
theorem d_804_127 : decode (mB 804) 127 = .ok (.getfield 23, 3) := by decide +kernel
theorem d_804_130 : decode (mB 804) 130 = .ok (.getfield 138, 3) := by decide +kernel
theorem d_804_133 : decode (mB 804) 133 = .ok (.ireturn, 1) := by decide +kernel
theorem d_805_0 : decode (mB 805) 0 = .ok (.iload_n 1, 1) := by decide +kernel
theorem d_805_1 : decode (mB 805) 1 = .ok (.tableswitch 133 9 16 #[47, 55, 77, 85, 93, 101, 117, 125], 47) := by decide +kernel
theorem d_805_48 : decode (mB 805) 48 = .ok (.aload_n 0, 1) := by decide +kernel
theorem d_805_49 : decode (mB 805) 49 = .ok (.getfield 29, 3) := by decide +kernel
theorem d_805_52 : decode (mB 805) 52 = .ok (.getfield 141, 3) := by decide +kernel
theorem d_805_55 : decode (mB 805) 55 = .ok (.ireturn, 1) := by decide +kernel
theorem d_805_56 : decode (mB 805) 56 = .ok (.aload_n 0, 1) := by decide +kernel
theorem d_805_57 : decode (mB 805) 57 = .ok (.getfield 23, 3) := by decide +kernel
theorem d_805_60 : decode (mB 805) 60 = .ok (.getfield 120, 3) := by decide +kernel
theorem d_805_63 : decode (mB 805) 63 = .ok (.ifCond .ne 7, 3) := by decide +kernel
theorem d_805_66 : decode (mB 805) 66 = .ok (.iconst (-1), 1) := by decide +kernel
theorem d_805_67 : decode (mB 805) 67 = .ok (.goto 10, 3) := by decide +kernel
theorem d_805_70 : decode (mB 805) 70 = .ok (.aload_n 0, 1) := by decide +kernel
theorem d_805_71 : decode (mB 805) 71 = .ok (.getfield 29, 3) := by decide +kernel
theorem d_805_74 : decode (mB 805) 74 = .ok (.getfield 144, 3) := by decide +kernel
theorem d_805_77 : decode (mB 805) 77 = .ok (.ireturn, 1) := by decide +kernel
theorem d_805_78 : decode (mB 805) 78 = .ok (.aload_n 0, 1) := by decide +kernel
theorem d_805_79 : decode (mB 805) 79 = .ok (.getfield 29, 3) := by decide +kernel
theorem d_805_82 : decode (mB 805) 82 = .ok (.getfield 147, 3) := by decide +kernel
theorem d_805_85 : decode (mB 805) 85 = .ok (.ireturn, 1) := by decide +kernel
theorem d_805_86 : decode (mB 805) 86 = .ok (.aload_n 0, 1) := by decide +kernel
theorem d_805_87 : decode (mB 805) 87 = .ok (.getfield 46, 3) := by decide +kernel
theorem d_805_90 : decode (mB 805) 90 = .ok (.invokevirtual 150, 3) := by decide +kernel
theorem d_805_93 : decode (mB 805) 93 = .ok (.ireturn, 1) := by decide +kernel
theorem d_805_94 : decode (mB 805) 94 = .ok (.aload_n 0, 1) := by decide +kernel
theorem d_805_95 : decode (mB 805) 95 = .ok (.getfield 29, 3) := by decide +kernel
theorem d_805_98 : decode (mB 805) 98 = .ok (.getfield 154, 3) := by decide +kernel
theorem d_805_101 : decode (mB 805) 101 = .ok (.ireturn, 1) := by decide +kernel
theorem d_805_102 : decode (mB 805) 102 = .ok (.aload_n 0, 1) := by decide +kernel
theorem d_805_103 : decode (mB 805) 103 = .ok (.getfield 29, 3) := by decide +kernel
theorem d_805_106 : decode (mB 805) 106 = .ok (.getfield 157, 3) := by decide +kernel
theorem d_805_109 : decode (mB 805) 109 = .ok (.ifCond .eq 7, 3) := by decide +kernel
theorem d_805_112 : decode (mB 805) 112 = .ok (.iconst 1, 1) := by decide +kernel
theorem d_805_113 : decode (mB 805) 113 = .ok (.goto 4, 3) := by decide +kernel
theorem d_805_116 : decode (mB 805) 116 = .ok (.iconst 0, 1) := by decide +kernel
theorem d_805_117 : decode (mB 805) 117 = .ok (.ireturn, 1) := by decide +kernel
theorem d_805_118 : decode (mB 805) 118 = .ok (.aload_n 0, 1) := by decide +kernel
theorem d_805_119 : decode (mB 805) 119 = .ok (.getfield 53, 3) := by decide +kernel
theorem d_805_122 : decode (mB 805) 122 = .ok (.getfield 161, 3) := by decide +kernel
theorem d_805_125 : decode (mB 805) 125 = .ok (.ireturn, 1) := by decide +kernel
theorem d_805_126 : decode (mB 805) 126 = .ok (.aload_n 0, 1) := by decide +kernel
theorem d_805_127 : decode (mB 805) 127 = .ok (.getfield 53, 3) := by decide +kernel
theorem d_805_130 : decode (mB 805) 130 = .ok (.getfield 164, 3) := by decide +kernel
theorem d_805_133 : decode (mB 805) 133 = .ok (.ireturn, 1) := by decide +kernel
theorem d_805_134 : decode (mB 805) 134 = .ok (.aload_n 0, 1) := by decide +kernel
theorem d_805_135 : decode (mB 805) 135 = .ok (.getfield 53, 3) := by decide +kernel
theorem d_805_138 : decode (mB 805) 138 = .ok (.getfield 167, 3) := by decide +kernel
theorem d_805_141 : decode (mB 805) 141 = .ok (.ireturn, 1) := by decide +kernel
theorem d_807_0 : decode (mB 807) 0 = .ok (.iconst 0, 1) := by decide +kernel
theorem d_807_1 : decode (mB 807) 1 = .ok (.istore_n 2, 1) := by decide +kernel
theorem d_807_2 : decode (mB 807) 2 = .ok (.iconst 0, 1) := by decide +kernel
theorem d_807_3 : decode (mB 807) 3 = .ok (.istore_n 3, 1) := by decide +kernel
theorem d_807_4 : decode (mB 807) 4 = .ok (.iload_n 3, 1) := by decide +kernel
theorem d_807_5 : decode (mB 807) 5 = .ok (.aload_n 0, 1) := by decide +kernel
theorem d_807_6 : decode (mB 807) 6 = .ok (.getfield 23, 3) := by decide +kernel
theorem d_807_9 : decode (mB 807) 9 = .ok (.getfield 107, 3) := by decide +kernel
theorem d_807_12 : decode (mB 807) 12 = .ok (.if_icmp .ge 28, 3) := by decide +kernel
theorem d_807_15 : decode (mB 807) 15 = .ok (.aload_n 0, 1) := by decide +kernel
theorem d_807_16 : decode (mB 807) 16 = .ok (.getfield 29, 3) := by decide +kernel
theorem d_807_19 : decode (mB 807) 19 = .ok (.getfield 184, 3) := by decide +kernel
theorem d_807_22 : decode (mB 807) 22 = .ok (.iload_n 3, 1) := by decide +kernel
theorem d_807_23 : decode (mB 807) 23 = .ok (.iaload, 1) := by decide +kernel
theorem d_807_24 : decode (mB 807) 24 = .ok (.iload_n 1, 1) := by decide +kernel
theorem d_807_25 : decode (mB 807) 25 = .ok (.if_icmp .ne 9, 3) := by decide +kernel
theorem d_807_28 : decode (mB 807) 28 = .ok (.iload_n 2, 1) := by decide +kernel
theorem d_807_29 : decode (mB 807) 29 = .ok (.iconst 1, 1) := by decide +kernel
theorem d_807_30 : decode (mB 807) 30 = .ok (.iload_n 3, 1) := by decide +kernel
theorem d_807_31 : decode (mB 807) 31 = .ok (.ishl, 1) := by decide +kernel
theorem d_807_32 : decode (mB 807) 32 = .ok (.ior, 1) := by decide +kernel
theorem d_807_33 : decode (mB 807) 33 = .ok (.istore_n 2, 1) := by decide +kernel
theorem d_807_34 : decode (mB 807) 34 = .ok (.iinc 3 1, 3) := by decide +kernel
theorem d_807_37 : decode (mB 807) 37 = .ok (.goto (-33), 3) := by decide +kernel
theorem d_807_40 : decode (mB 807) 40 = .ok (.iload_n 2, 1) := by decide +kernel
theorem d_807_41 : decode (mB 807) 41 = .ok (.ireturn, 1) := by decide +kernel
theorem d_848_0 : decode (mB 848) 0 = .ok (.iload_n 1, 1) := by decide +kernel
theorem d_848_1 : decode (mB 848) 1 = .ok (.ifCond .lt 22, 3) := by decide +kernel
theorem d_848_4 : decode (mB 848) 4 = .ok (.iload_n 1, 1) := by decide +kernel
theorem d_848_5 : decode (mB 848) 5 = .ok (.bipush 32, 2) := by decide +kernel
theorem d_848_7 : decode (mB 848) 7 = .ok (.if_icmp .ge 16, 3) := by decide +kernel
theorem d_848_10 : decode (mB 848) 10 = .ok (.iload_n 0, 1) := by decide +kernel
theorem d_848_11 : decode (mB 848) 11 = .ok (.iload_n 1, 1) := by decide +kernel
theorem d_848_12 : decode (mB 848) 12 = .ok (.ishr, 1) := by decide +kernel
theorem d_848_13 : decode (mB 848) 13 = .ok (.iconst 1, 1) := by decide +kernel
theorem d_848_14 : decode (mB 848) 14 = .ok (.iand, 1) := by decide +kernel
theorem d_848_15 : decode (mB 848) 15 = .ok (.iconst 1, 1) := by decide +kernel
theorem d_848_16 : decode (mB 848) 16 = .ok (.if_icmp .ne 7, 3) := by decide +kernel
theorem d_848_19 : decode (mB 848) 19 = .ok (.iconst 1, 1) := by decide +kernel
theorem d_848_20 : decode (mB 848) 20 = .ok (.goto 4, 3) := by decide +kernel
theorem d_848_23 : decode (mB 848) 23 = .ok (.iconst 0, 1) := by decide +kernel
theorem d_848_24 : decode (mB 848) 24 = .ok (.ireturn, 1) := by decide +kernel
theorem d_813_0 : decode (mB 813) 0 = .ok (.aload_n 0, 1) := by decide +kernel
theorem d_813_1 : decode (mB 813) 1 = .ok (.getfield 46, 3) := by decide +kernel
theorem d_813_4 : decode (mB 813) 4 = .ok (.iload_n 1, 1) := by decide +kernel
theorem d_813_5 : decode (mB 813) 5 = .ok (.aload_n 0, 1) := by decide +kernel
theorem d_813_6 : decode (mB 813) 6 = .ok (.getfield 29, 3) := by decide +kernel
theorem d_813_9 : decode (mB 813) 9 = .ok (.getfield 141, 3) := by decide +kernel
theorem d_813_12 : decode (mB 813) 12 = .ok (.invokevirtual 208, 3) := by decide +kernel
theorem d_813_15 : decode (mB 813) 15 = .ok (.istore_n 2, 1) := by decide +kernel
theorem d_813_16 : decode (mB 813) 16 = .ok (.iload_n 2, 1) := by decide +kernel
theorem d_813_17 : decode (mB 813) 17 = .ok (.ifCond .eq 25, 3) := by decide +kernel
theorem d_813_20 : decode (mB 813) 20 = .ok (.iload_n 1, 1) := by decide +kernel
theorem d_813_21 : decode (mB 813) 21 = .ok (.aload_n 0, 1) := by decide +kernel
theorem d_813_22 : decode (mB 813) 22 = .ok (.getfield 23, 3) := by decide +kernel
theorem d_813_25 : decode (mB 813) 25 = .ok (.getfield 138, 3) := by decide +kernel
theorem d_813_28 : decode (mB 813) 28 = .ok (.if_icmp .ne 14, 3) := by decide +kernel
theorem d_813_31 : decode (mB 813) 31 = .ok (.aload_n 0, 1) := by decide +kernel
theorem d_813_32 : decode (mB 813) 32 = .ok (.getfield 29, 3) := by decide +kernel
theorem d_813_35 : decode (mB 813) 35 = .ok (.iconst 1, 1) := by decide +kernel
theorem d_813_36 : decode (mB 813) 36 = .ok (.putfield 157, 3) := by decide +kernel
theorem d_813_39 : decode (mB 813) 39 = .ok (.goto 22, 3) := by decide +kernel
theorem d_813_42 : decode (mB 813) 42 = .ok (.iload_n 2, 1) := by decide +kernel
theorem d_813_43 : decode (mB 813) 43 = .ok (.ifCond .eq 18, 3) := by decide +kernel
theorem d_813_46 : decode (mB 813) 46 = .ok (.aload_n 0, 1) := by decide +kernel
theorem d_813_47 : decode (mB 813) 47 = .ok (.getfield 29, 3) := by decide +kernel
theorem d_813_50 : decode (mB 813) 50 = .ok (.dup, 1) := by decide +kernel
theorem d_813_51 : decode (mB 813) 51 = .ok (.getfield 154, 3) := by decide +kernel
theorem d_813_54 : decode (mB 813) 54 = .ok (.iconst 1, 1) := by decide +kernel
theorem d_813_55 : decode (mB 813) 55 = .ok (.iload_n 1, 1) := by decide +kernel
theorem d_813_56 : decode (mB 813) 56 = .ok (.ishl, 1) := by decide +kernel
theorem d_813_57 : decode (mB 813) 57 = .ok (.ior, 1) := by decide +kernel
theorem d_813_58 : decode (mB 813) 58 = .ok (.putfield 154, 3) := by decide +kernel
theorem d_813_61 : decode (mB 813) 61 = .ok (.aload_n 0, 1) := by decide +kernel
theorem d_813_62 : decode (mB 813) 62 = .ok (.getfield 29, 3) := by decide +kernel
theorem d_813_65 : decode (mB 813) 65 = .ok (.aload_n 0, 1) := by decide +kernel
theorem d_813_66 : decode (mB 813) 66 = .ok (.getfield 29, 3) := by decide +kernel
theorem d_813_69 : decode (mB 813) 69 = .ok (.getfield 147, 3) := by decide +kernel
theorem d_813_72 : decode (mB 813) 72 = .ok (.iconst 1, 1) := by decide +kernel
theorem d_813_73 : decode (mB 813) 73 = .ok (.iadd, 1) := by decide +kernel
theorem d_813_74 : decode (mB 813) 74 = .ok (.sipush 9999, 3) := by decide +kernel
theorem d_813_77 : decode (mB 813) 77 = .ok (.invokestatic 226, 3) := by decide +kernel
theorem d_813_80 : decode (mB 813) 80 = .ok (.putfield 147, 3) := by decide +kernel
theorem d_813_83 : decode (mB 813) 83 = .ok (.iload_n 2, 1) := by decide +kernel
theorem d_813_84 : decode (mB 813) 84 = .ok (.ireturn, 1) := by decide +kernel
theorem d_818_0 : decode (mB 818) 0 = .ok (.aload_n 0, 1) := by decide +kernel
theorem d_818_1 : decode (mB 818) 1 = .ok (.getfield 29, 3) := by decide +kernel
theorem d_818_4 : decode (mB 818) 4 = .ok (.getfield 184, 3) := by decide +kernel
theorem d_818_7 : decode (mB 818) 7 = .ok (.aload_n 0, 1) := by decide +kernel
theorem d_818_8 : decode (mB 818) 8 = .ok (.getfield 23, 3) := by decide +kernel
theorem d_818_11 : decode (mB 818) 11 = .ok (.getfield 138, 3) := by decide +kernel
theorem d_818_14 : decode (mB 818) 14 = .ok (.iaload, 1) := by decide +kernel
theorem d_818_15 : decode (mB 818) 15 = .ok (.istore_n 1, 1) := by decide +kernel
theorem d_818_16 : decode (mB 818) 16 = .ok (.aload_n 0, 1) := by decide +kernel
theorem d_818_17 : decode (mB 818) 17 = .ok (.getfield 23, 3) := by decide +kernel
theorem d_818_20 : decode (mB 818) 20 = .ok (.iload_n 1, 1) := by decide +kernel
theorem d_818_21 : decode (mB 818) 21 = .ok (.invokevirtual 216, 3) := by decide +kernel
theorem d_818_24 : decode (mB 818) 24 = .ok (.istore_n 2, 1) := by decide +kernel
theorem d_818_25 : decode (mB 818) 25 = .ok (.aload_n 0, 1) := by decide +kernel
theorem d_818_26 : decode (mB 818) 26 = .ok (.getfield 29, 3) := by decide +kernel
theorem d_818_29 : decode (mB 818) 29 = .ok (.iload_n 2, 1) := by decide +kernel
theorem d_818_30 : decode (mB 818) 30 = .ok (.invokestatic 243, 3) := by decide +kernel
theorem d_818_33 : decode (mB 818) 33 = .ok (.iconst 1, 1) := by decide +kernel
theorem d_818_34 : decode (mB 818) 34 = .ok (.iadd, 1) := by decide +kernel
theorem d_818_35 : decode (mB 818) 35 = .ok (.invokevirtual 248, 3) := by decide +kernel
theorem d_818_38 : decode (mB 818) 38 = .ok (.istore_n 3, 1) := by decide +kernel
theorem d_818_39 : decode (mB 818) 39 = .ok (.aload_n 0, 1) := by decide +kernel
theorem d_818_40 : decode (mB 818) 40 = .ok (.getfield 29, 3) := by decide +kernel
theorem d_818_43 : decode (mB 818) 43 = .ok (.getfield 184, 3) := by decide +kernel
theorem d_818_46 : decode (mB 818) 46 = .ok (.aload_n 0, 1) := by decide +kernel
theorem d_818_47 : decode (mB 818) 47 = .ok (.getfield 23, 3) := by decide +kernel
theorem d_818_50 : decode (mB 818) 50 = .ok (.getfield 138, 3) := by decide +kernel
theorem d_818_53 : decode (mB 818) 53 = .ok (.iload_n 2, 1) := by decide +kernel
theorem d_818_54 : decode (mB 818) 54 = .ok (.iload_n 3, 1) := by decide +kernel
theorem d_818_55 : decode (mB 818) 55 = .ok (.iload_n 1, 1) := by decide +kernel
theorem d_818_56 : decode (mB 818) 56 = .ok (.invokestatic 251, 3) := by decide +kernel
theorem d_818_59 : decode (mB 818) 59 = .ok (.iastore, 1) := by decide +kernel
theorem d_818_60 : decode (mB 818) 60 = .ok (.return_, 1) := by decide +kernel
theorem d_820_0 : decode (mB 820) 0 = .ok (.aload_n 0, 1) := by decide +kernel
theorem d_820_1 : decode (mB 820) 1 = .ok (.getfield 29, 3) := by decide +kernel
theorem d_820_4 : decode (mB 820) 4 = .ok (.bipush 6, 2) := by decide +kernel
theorem d_820_6 : decode (mB 820) 6 = .ok (.invokevirtual 248, 3) := by decide +kernel
theorem d_820_9 : decode (mB 820) 9 = .ok (.ifCond .ne 45, 3) := by decide +kernel
theorem d_820_12 : decode (mB 820) 12 = .ok (.aload_n 0, 1) := by decide +kernel
theorem d_820_13 : decode (mB 820) 13 = .ok (.getfield 29, 3) := by decide +kernel
theorem d_820_16 : decode (mB 820) 16 = .ok (.aload_n 0, 1) := by decide +kernel
theorem d_820_17 : decode (mB 820) 17 = .ok (.getfield 23, 3) := by decide +kernel
theorem d_820_20 : decode (mB 820) 20 = .ok (.getfield 107, 3) := by decide +kernel
theorem d_820_23 : decode (mB 820) 23 = .ok (.invokevirtual 248, 3) := by decide +kernel
theorem d_820_26 : decode (mB 820) 26 = .ok (.istore_n 1, 1) := by decide +kernel
theorem d_820_27 : decode (mB 820) 27 = .ok (.aload_n 0, 1) := by decide +kernel
theorem d_820_28 : decode (mB 820) 28 = .ok (.getfield 23, 3) := by decide +kernel
theorem d_820_31 : decode (mB 820) 31 = .ok (.iload_n 1, 1) := by decide +kernel
theorem d_820_32 : decode (mB 820) 32 = .ok (.invokevirtual 187, 3) := by decide +kernel
theorem d_820_35 : decode (mB 820) 35 = .ok (.ifCond .eq 19, 3) := by decide +kernel
theorem d_820_38 : decode (mB 820) 38 = .ok (.aload_n 0, 1) := by decide +kernel
theorem d_820_39 : decode (mB 820) 39 = .ok (.getfield 29, 3) := by decide +kernel
theorem d_820_42 : decode (mB 820) 42 = .ok (.getfield 234, 3) := by decide +kernel
theorem d_820_45 : decode (mB 820) 45 = .ok (.iload_n 1, 1) := by decide +kernel
theorem d_820_46 : decode (mB 820) 46 = .ok (.aload_n 0, 1) := by decide +kernel
theorem d_820_47 : decode (mB 820) 47 = .ok (.getfield 29, 3) := by decide +kernel
theorem d_820_50 : decode (mB 820) 50 = .ok (.getfield 141, 3) := by decide +kernel
theorem d_820_53 : decode (mB 820) 53 = .ok (.iastore, 1) := by decide +kernel
theorem d_820_54 : decode (mB 820) 54 = .ok (.return_, 1) := by decide +kernel
theorem d_825_0 : decode (mB 825) 0 = .ok (.aload_n 0, 1) := by decide +kernel
theorem d_825_1 : decode (mB 825) 1 = .ok (.getfield 46, 3) := by decide +kernel
theorem d_825_4 : decode (mB 825) 4 = .ok (.iload_n 1, 1) := by decide +kernel
theorem d_825_5 : decode (mB 825) 5 = .ok (.iload_n 2, 1) := by decide +kernel
theorem d_825_6 : decode (mB 825) 6 = .ok (.invokevirtual 269, 3) := by decide +kernel
theorem d_825_9 : decode (mB 825) 9 = .ok (.ifCond .eq 15, 3) := by decide +kernel
theorem d_825_12 : decode (mB 825) 12 = .ok (.aload_n 0, 1) := by decide +kernel
theorem d_825_13 : decode (mB 825) 13 = .ok (.getfield 46, 3) := by decide +kernel
theorem d_825_16 : decode (mB 825) 16 = .ok (.iload_n 1, 1) := by decide +kernel
theorem d_825_17 : decode (mB 825) 17 = .ok (.iload_n 3, 1) := by decide +kernel
theorem d_825_18 : decode (mB 825) 18 = .ok (.invokevirtual 269, 3) := by decide +kernel
theorem d_825_21 : decode (mB 825) 21 = .ok (.ifCond .ne 5, 3) := by decide +kernel
theorem d_825_24 : decode (mB 825) 24 = .ok (.iconst 0, 1) := by decide +kernel
theorem d_825_25 : decode (mB 825) 25 = .ok (.ireturn, 1) := by decide +kernel
theorem d_825_26 : decode (mB 825) 26 = .ok (.iconst 0, 1) := by decide +kernel
theorem d_825_27 : decode (mB 825) 27 = .ok (.istore 4, 2) := by decide +kernel
theorem d_825_29 : decode (mB 825) 29 = .ok (.iload 4, 2) := by decide +kernel
theorem d_825_31 : decode (mB 825) 31 = .ok (.aload_n 0, 1) := by decide +kernel
theorem d_825_32 : decode (mB 825) 32 = .ok (.getfield 23, 3) := by decide +kernel
theorem d_825_35 : decode (mB 825) 35 = .ok (.getfield 107, 3) := by decide +kernel
theorem d_825_38 : decode (mB 825) 38 = .ok (.if_icmp .ge 32, 3) := by decide +kernel
theorem d_825_41 : decode (mB 825) 41 = .ok (.iload 4, 2) := by decide +kernel
theorem d_825_43 : decode (mB 825) 43 = .ok (.iload_n 1, 1) := by decide +kernel
theorem d_825_44 : decode (mB 825) 44 = .ok (.if_icmp .eq 20, 3) := by decide +kernel
theorem d_825_47 : decode (mB 825) 47 = .ok (.aload_n 0, 1) := by decide +kernel
theorem d_825_48 : decode (mB 825) 48 = .ok (.getfield 46, 3) := by decide +kernel
theorem d_825_51 : decode (mB 825) 51 = .ok (.iload 4, 2) := by decide +kernel
theorem d_825_53 : decode (mB 825) 53 = .ok (.iload_n 2, 1) := by decide +kernel
theorem d_825_54 : decode (mB 825) 54 = .ok (.iload_n 3, 1) := by decide +kernel
theorem d_825_55 : decode (mB 825) 55 = .ok (.invokevirtual 272, 3) := by decide +kernel
theorem d_825_58 : decode (mB 825) 58 = .ok (.iconst (-1), 1) := by decide +kernel
theorem d_825_59 : decode (mB 825) 59 = .ok (.if_icmp .eq 5, 3) := by decide +kernel
theorem d_825_62 : decode (mB 825) 62 = .ok (.iconst 0, 1) := by decide +kernel
theorem d_825_63 : decode (mB 825) 63 = .ok (.ireturn, 1) := by decide +kernel
theorem d_825_64 : decode (mB 825) 64 = .ok (.iinc 4 1, 3) := by decide +kernel
theorem d_825_67 : decode (mB 825) 67 = .ok (.goto (-38), 3) := by decide +kernel
theorem d_825_70 : decode (mB 825) 70 = .ok (.iconst 1, 1) := by decide +kernel
theorem d_825_71 : decode (mB 825) 71 = .ok (.ireturn, 1) := by decide +kernel
theorem d_849_0 : decode (mB 849) 0 = .ok (.iload_n 0, 1) := by decide +kernel
theorem d_849_1 : decode (mB 849) 1 = .ok (.ifCond .lt 13, 3) := by decide +kernel
theorem d_849_4 : decode (mB 849) 4 = .ok (.iload_n 0, 1) := by decide +kernel
theorem d_849_5 : decode (mB 849) 5 = .ok (.bipush 24, 2) := by decide +kernel
theorem d_849_7 : decode (mB 849) 7 = .ok (.if_icmp .ge 7, 3) := by decide +kernel
theorem d_849_10 : decode (mB 849) 10 = .ok (.iconst 1, 1) := by decide +kernel
theorem d_849_11 : decode (mB 849) 11 = .ok (.goto 4, 3) := by decide +kernel
theorem d_849_14 : decode (mB 849) 14 = .ok (.iconst 0, 1) := by decide +kernel
theorem d_849_15 : decode (mB 849) 15 = .ok (.ireturn, 1) := by decide +kernel
theorem d_829_0 : decode (mB 829) 0 = .ok (.aload_n 0, 1) := by decide +kernel
theorem d_829_1 : decode (mB 829) 1 = .ok (.getfield 23, 3) := by decide +kernel
theorem d_829_4 : decode (mB 829) 4 = .ok (.iload_n 1, 1) := by decide +kernel
theorem d_829_5 : decode (mB 829) 5 = .ok (.invokevirtual 187, 3) := by decide +kernel
theorem d_829_8 : decode (mB 829) 8 = .ok (.ifCond .eq 23, 3) := by decide +kernel
theorem d_829_11 : decode (mB 829) 11 = .ok (.aload_n 0, 1) := by decide +kernel
theorem d_829_12 : decode (mB 829) 12 = .ok (.getfield 23, 3) := by decide +kernel
theorem d_829_15 : decode (mB 829) 15 = .ok (.iload_n 2, 1) := by decide +kernel
theorem d_829_16 : decode (mB 829) 16 = .ok (.invokevirtual 187, 3) := by decide +kernel
theorem d_829_19 : decode (mB 829) 19 = .ok (.ifCond .eq 12, 3) := by decide +kernel
theorem d_829_22 : decode (mB 829) 22 = .ok (.iload_n 1, 1) := by decide +kernel
theorem d_829_23 : decode (mB 829) 23 = .ok (.iload_n 2, 1) := by decide +kernel
theorem d_829_24 : decode (mB 829) 24 = .ok (.if_icmp .eq 7, 3) := by decide +kernel
theorem d_829_27 : decode (mB 829) 27 = .ok (.iconst 1, 1) := by decide +kernel
theorem d_829_28 : decode (mB 829) 28 = .ok (.goto 4, 3) := by decide +kernel
theorem d_829_31 : decode (mB 829) 31 = .ok (.iconst 0, 1) := by decide +kernel
theorem d_829_32 : decode (mB 829) 32 = .ok (.ireturn, 1) := by decide +kernel
theorem d_834_0 : decode (mB 834) 0 = .ok (.iconst 0, 1) := by decide +kernel
theorem d_834_1 : decode (mB 834) 1 = .ok (.istore_n 1, 1) := by decide +kernel
theorem d_834_2 : decode (mB 834) 2 = .ok (.iconst 0, 1) := by decide +kernel
theorem d_834_3 : decode (mB 834) 3 = .ok (.istore_n 2, 1) := by decide +kernel
theorem d_834_4 : decode (mB 834) 4 = .ok (.iload_n 2, 1) := by decide +kernel
theorem d_834_5 : decode (mB 834) 5 = .ok (.aload_n 0, 1) := by decide +kernel
theorem d_834_6 : decode (mB 834) 6 = .ok (.getfield 23, 3) := by decide +kernel
theorem d_834_9 : decode (mB 834) 9 = .ok (.getfield 107, 3) := by decide +kernel
theorem d_834_12 : decode (mB 834) 12 = .ok (.if_icmp .ge 23, 3) := by decide +kernel
theorem d_834_15 : decode (mB 834) 15 = .ok (.aload_n 0, 1) := by decide +kernel
theorem d_834_16 : decode (mB 834) 16 = .ok (.iload_n 2, 1) := by decide +kernel
theorem d_834_17 : decode (mB 834) 17 = .ok (.invokevirtual 312, 3) := by decide +kernel
theorem d_834_20 : decode (mB 834) 20 = .ok (.ifCond .eq 9, 3) := by decide +kernel
theorem d_834_23 : decode (mB 834) 23 = .ok (.iload_n 1, 1) := by decide +kernel
theorem d_834_24 : decode (mB 834) 24 = .ok (.iconst 1, 1) := by decide +kernel
theorem d_834_25 : decode (mB 834) 25 = .ok (.iload_n 2, 1) := by decide +kernel
theorem d_834_26 : decode (mB 834) 26 = .ok (.ishl, 1) := by decide +kernel
theorem d_834_27 : decode (mB 834) 27 = .ok (.ior, 1) := by decide +kernel
theorem d_834_28 : decode (mB 834) 28 = .ok (.istore_n 1, 1) := by decide +kernel
theorem d_834_29 : decode (mB 834) 29 = .ok (.iinc 2 1, 3) := by decide +kernel
theorem d_834_32 : decode (mB 834) 32 = .ok (.goto (-28), 3) := by decide +kernel
theorem d_834_35 : decode (mB 834) 35 = .ok (.iload_n 1, 1) := by decide +kernel
theorem d_834_36 : decode (mB 834) 36 = .ok (.ireturn, 1) := by decide +kernel
theorem d_837_0 : decode (mB 837) 0 = .ok (.iconst 0, 1) := by decide +kernel
theorem d_837_1 : decode (mB 837) 1 = .ok (.istore_n 3, 1) := by decide +kernel
theorem d_837_2 : decode (mB 837) 2 = .ok (.iconst 0, 1) := by decide +kernel
theorem d_837_3 : decode (mB 837) 3 = .ok (.istore 4, 2) := by decide +kernel
theorem d_837_5 : decode (mB 837) 5 = .ok (.iload 4, 2) := by decide +kernel
theorem d_837_7 : decode (mB 837) 7 = .ok (.aload_n 0, 1) := by decide +kernel
theorem d_837_8 : decode (mB 837) 8 = .ok (.getfield 23, 3) := by decide +kernel
theorem d_837_11 : decode (mB 837) 11 = .ok (.getfield 107, 3) := by decide +kernel
theorem d_837_14 : decode (mB 837) 14 = .ok (.if_icmp .ge 34, 3) := by decide +kernel
theorem d_837_17 : decode (mB 837) 17 = .ok (.iload_n 1, 1) := by decide +kernel
theorem d_837_18 : decode (mB 837) 18 = .ok (.iload 4, 2) := by decide +kernel
theorem d_837_20 : decode (mB 837) 20 = .ok (.invokestatic 219, 3) := by decide +kernel
theorem d_837_23 : decode (mB 837) 23 = .ok (.ifCond .eq 19, 3) := by decide +kernel
theorem d_837_26 : decode (mB 837) 26 = .ok (.aload_n 0, 1) := by decide +kernel
theorem d_837_27 : decode (mB 837) 27 = .ok (.getfield 46, 3) := by decide +kernel
theorem d_837_30 : decode (mB 837) 30 = .ok (.iload 4, 2) := by decide +kernel
theorem d_837_32 : decode (mB 837) 32 = .ok (.iload_n 2, 1) := by decide +kernel
theorem d_837_33 : decode (mB 837) 33 = .ok (.invokevirtual 269, 3) := by decide +kernel
theorem d_837_36 : decode (mB 837) 36 = .ok (.ifCond .eq 6, 3) := by decide +kernel
theorem d_837_39 : decode (mB 837) 39 = .ok (.iinc 3 1, 3) := by decide +kernel
theorem d_837_42 : decode (mB 837) 42 = .ok (.iinc 4 1, 3) := by decide +kernel
theorem d_837_45 : decode (mB 837) 45 = .ok (.goto (-40), 3) := by decide +kernel
theorem d_837_48 : decode (mB 837) 48 = .ok (.iload_n 3, 1) := by decide +kernel
theorem d_837_49 : decode (mB 837) 49 = .ok (.ireturn, 1) := by decide +kernel
theorem d_840_0 : decode (mB 840) 0 = .ok (.iconst 0, 1) := by decide +kernel
theorem d_840_1 : decode (mB 840) 1 = .ok (.istore_n 2, 1) := by decide +kernel
theorem d_840_2 : decode (mB 840) 2 = .ok (.iload_n 2, 1) := by decide +kernel
theorem d_840_3 : decode (mB 840) 3 = .ok (.aload_n 0, 1) := by decide +kernel
theorem d_840_4 : decode (mB 840) 4 = .ok (.getfield 23, 3) := by decide +kernel
theorem d_840_7 : decode (mB 840) 7 = .ok (.getfield 212, 3) := by decide +kernel
theorem d_840_10 : decode (mB 840) 10 = .ok (.iload_n 1, 1) := by decide +kernel
theorem d_840_11 : decode (mB 840) 11 = .ok (.iaload, 1) := by decide +kernel
theorem d_840_12 : decode (mB 840) 12 = .ok (.if_icmp .ge 20, 3) := by decide +kernel
theorem d_840_15 : decode (mB 840) 15 = .ok (.aload_n 0, 1) := by decide +kernel
theorem d_840_16 : decode (mB 840) 16 = .ok (.iload_n 1, 1) := by decide +kernel
theorem d_840_17 : decode (mB 840) 17 = .ok (.iload_n 2, 1) := by decide +kernel
theorem d_840_18 : decode (mB 840) 18 = .ok (.invokevirtual 327, 3) := by decide +kernel
theorem d_840_21 : decode (mB 840) 21 = .ok (.ifCond .eq 5, 3) := by decide +kernel
theorem d_840_24 : decode (mB 840) 24 = .ok (.iconst 1, 1) := by decide +kernel
theorem d_840_25 : decode (mB 840) 25 = .ok (.ireturn, 1) := by decide +kernel
theorem d_840_26 : decode (mB 840) 26 = .ok (.iinc 2 1, 3) := by decide +kernel
theorem d_840_29 : decode (mB 840) 29 = .ok (.goto (-27), 3) := by decide +kernel
theorem d_840_32 : decode (mB 840) 32 = .ok (.iconst 0, 1) := by decide +kernel
theorem d_840_33 : decode (mB 840) 33 = .ok (.ireturn, 1) := by decide +kernel
theorem d_819_0 : decode (mB 819) 0 = .ok (.iload_n 1, 1) := by decide +kernel
theorem d_819_1 : decode (mB 819) 1 = .ok (.istore_n 3, 1) := by decide +kernel
theorem d_819_2 : decode (mB 819) 2 = .ok (.iconst 0, 1) := by decide +kernel
theorem d_819_3 : decode (mB 819) 3 = .ok (.istore 4, 2) := by decide +kernel
theorem d_819_5 : decode (mB 819) 5 = .ok (.iload 4, 2) := by decide +kernel
theorem d_819_7 : decode (mB 819) 7 = .ok (.bipush 6, 2) := by decide +kernel
theorem d_819_9 : decode (mB 819) 9 = .ok (.if_icmp .ge 28, 3) := by decide +kernel
theorem d_819_12 : decode (mB 819) 12 = .ok (.iload_n 0, 1) := by decide +kernel
theorem d_819_13 : decode (mB 819) 13 = .ok (.iload 4, 2) := by decide +kernel
theorem d_819_15 : decode (mB 819) 15 = .ok (.invokestatic 219, 3) := by decide +kernel
theorem d_819_18 : decode (mB 819) 18 = .ok (.ifCond .eq 13, 3) := by decide +kernel
theorem d_819_21 : decode (mB 819) 21 = .ok (.iload_n 3, 1) := by decide +kernel
theorem d_819_22 : decode (mB 819) 22 = .ok (.ifCond .ne 6, 3) := by decide +kernel
theorem d_819_25 : decode (mB 819) 25 = .ok (.iload 4, 2) := by decide +kernel
theorem d_819_27 : decode (mB 819) 27 = .ok (.ireturn, 1) := by decide +kernel
theorem d_819_28 : decode (mB 819) 28 = .ok (.iinc 3 (-1), 3) := by decide +kernel
theorem d_819_31 : decode (mB 819) 31 = .ok (.iinc 4 1, 3) := by decide +kernel
theorem d_819_34 : decode (mB 819) 34 = .ok (.goto (-29), 3) := by decide +kernel
theorem d_819_37 : decode (mB 819) 37 = .ok (.iload_n 2, 1) := by decide +kernel
theorem d_819_38 : decode (mB 819) 38 = .ok (.ireturn, 1) := by decide +kernel
theorem d_835_0 : decode (mB 835) 0 = .ok (.iconst 0, 1) := by decide +kernel
theorem d_835_1 : decode (mB 835) 1 = .ok (.istore_n 2, 1) := by decide +kernel
theorem d_835_2 : decode (mB 835) 2 = .ok (.iload_n 2, 1) := by decide +kernel
theorem d_835_3 : decode (mB 835) 3 = .ok (.aload_n 0, 1) := by decide +kernel
theorem d_835_4 : decode (mB 835) 4 = .ok (.getfield 53, 3) := by decide +kernel
theorem d_835_7 : decode (mB 835) 7 = .ok (.getfield 161, 3) := by decide +kernel
theorem d_835_10 : decode (mB 835) 10 = .ok (.if_icmp .ge 40, 3) := by decide +kernel
theorem d_835_13 : decode (mB 835) 13 = .ok (.aload_n 0, 1) := by decide +kernel
theorem d_835_14 : decode (mB 835) 14 = .ok (.getfield 46, 3) := by decide +kernel
theorem d_835_17 : decode (mB 835) 17 = .ok (.iload_n 1, 1) := by decide +kernel
theorem d_835_18 : decode (mB 835) 18 = .ok (.aload_n 0, 1) := by decide +kernel
theorem d_835_19 : decode (mB 835) 19 = .ok (.getfield 53, 3) := by decide +kernel
theorem d_835_22 : decode (mB 835) 22 = .ok (.getfield 302, 3) := by decide +kernel
theorem d_835_25 : decode (mB 835) 25 = .ok (.iload_n 2, 1) := by decide +kernel
theorem d_835_26 : decode (mB 835) 26 = .ok (.iaload, 1) := by decide +kernel
theorem d_835_27 : decode (mB 835) 27 = .ok (.invokevirtual 269, 3) := by decide +kernel
theorem d_835_30 : decode (mB 835) 30 = .ok (.aload_n 0, 1) := by decide +kernel
theorem d_835_31 : decode (mB 835) 31 = .ok (.getfield 53, 3) := by decide +kernel
theorem d_835_34 : decode (mB 835) 34 = .ok (.getfield 305, 3) := by decide +kernel
theorem d_835_37 : decode (mB 835) 37 = .ok (.iload_n 2, 1) := by decide +kernel
theorem d_835_38 : decode (mB 835) 38 = .ok (.baload, 1) := by decide +kernel
theorem d_835_39 : decode (mB 835) 39 = .ok (.if_icmp .eq 5, 3) := by decide +kernel
theorem d_835_42 : decode (mB 835) 42 = .ok (.iconst 0, 1) := by decide +kernel
theorem d_835_43 : decode (mB 835) 43 = .ok (.ireturn, 1) := by decide +kernel
theorem d_835_44 : decode (mB 835) 44 = .ok (.iinc 2 1, 3) := by decide +kernel
theorem d_835_47 : decode (mB 835) 47 = .ok (.goto (-45), 3) := by decide +kernel
theorem d_835_50 : decode (mB 835) 50 = .ok (.iconst 1, 1) := by decide +kernel
theorem d_835_51 : decode (mB 835) 51 = .ok (.ireturn, 1) := by decide +kernel
theorem d_841_0 : decode (mB 841) 0 = .ok (.iconst 0, 1) := by decide +kernel
theorem d_841_1 : decode (mB 841) 1 = .ok (.istore_n 3, 1) := by decide +kernel
theorem d_841_2 : decode (mB 841) 2 = .ok (.iload_n 3, 1) := by decide +kernel
theorem d_841_3 : decode (mB 841) 3 = .ok (.aload_n 0, 1) := by decide +kernel
theorem d_841_4 : decode (mB 841) 4 = .ok (.getfield 53, 3) := by decide +kernel
theorem d_841_7 : decode (mB 841) 7 = .ok (.getfield 164, 3) := by decide +kernel
theorem d_841_10 : decode (mB 841) 10 = .ok (.if_icmp .ge 34, 3) := by decide +kernel
theorem d_841_13 : decode (mB 841) 13 = .ok (.aload_n 0, 1) := by decide +kernel
theorem d_841_14 : decode (mB 841) 14 = .ok (.getfield 23, 3) := by decide +kernel
theorem d_841_17 : decode (mB 841) 17 = .ok (.iload_n 1, 1) := by decide +kernel
theorem d_841_18 : decode (mB 841) 18 = .ok (.iload_n 2, 1) := by decide +kernel
theorem d_841_19 : decode (mB 841) 19 = .ok (.iload_n 3, 1) := by decide +kernel
theorem d_841_20 : decode (mB 841) 20 = .ok (.iadd, 1) := by decide +kernel
theorem d_841_21 : decode (mB 841) 21 = .ok (.invokevirtual 330, 3) := by decide +kernel
theorem d_841_24 : decode (mB 841) 24 = .ok (.aload_n 0, 1) := by decide +kernel
theorem d_841_25 : decode (mB 841) 25 = .ok (.getfield 53, 3) := by decide +kernel
theorem d_841_28 : decode (mB 841) 28 = .ok (.getfield 321, 3) := by decide +kernel
theorem d_841_31 : decode (mB 841) 31 = .ok (.iload_n 3, 1) := by decide +kernel
theorem d_841_32 : decode (mB 841) 32 = .ok (.iaload, 1) := by decide +kernel
theorem d_841_33 : decode (mB 841) 33 = .ok (.if_icmp .eq 5, 3) := by decide +kernel
theorem d_841_36 : decode (mB 841) 36 = .ok (.iconst 0, 1) := by decide +kernel
theorem d_841_37 : decode (mB 841) 37 = .ok (.ireturn, 1) := by decide +kernel
theorem d_841_38 : decode (mB 841) 38 = .ok (.iinc 3 1, 3) := by decide +kernel
theorem d_841_41 : decode (mB 841) 41 = .ok (.goto (-39), 3) := by decide +kernel
theorem d_841_44 : decode (mB 841) 44 = .ok (.iconst 1, 1) := by decide +kernel
theorem d_841_45 : decode (mB 841) 45 = .ok (.ireturn, 1) := by decide +kernel
theorem b800_0 {x1 : Int} {σ : SS} : ev 800 0 [qR 0, qI x1] [] σ = if x1 < 0 then ev 800 11 [qR 0, qI x1] [] σ else ev 800 4 [qR 0, qI x1] [] σ :=
  Eq.trans (e_iload_n d_800_0 rfl) (e_if_lt d_800_1 (by decide))
theorem b800_4 {x1 : Int} {σ : SS} : ev 800 4 [qR 0, qI x1] [] σ = if 255 < x1 then ev 800 11 [qR 0, qI x1] [] σ else ev 800 14 [qR 0, qI x1] [] σ :=
  Eq.trans (e_iload_n d_800_4 rfl) (Eq.trans (e_sipush d_800_5 ks_255) (e_icmp_le d_800_8 (by decide)))
theorem b800_11 {x1 : Int} {σ : SS} : ev 800 11 [qR 0, qI x1] [] σ = some (some (qI (-1000000002)), σ) :=
  Eq.trans (e_ldc d_800_11 ld_8_82 k_m1000000002) (e_iret d_800_13 (q_okrI rfl))
theorem b800_14 {x1 : Int} {σ : SS} : ev 800 14 [qR 0, qI x1] [] σ = if (σ 1 1) < 300 then ev 800 30 [qR 0, qI x1] [] σ else ev 800 27 [qR 0, qI x1] [] σ :=
  Eq.trans (e_aload_n d_800_14 rfl) (Eq.trans (e_getR d_800_15 fl_8_10 sh_0 rfl) (Eq.trans (e_getI d_800_18 fl_8_83 sh_1 rfl) (Eq.trans (e_sipush d_800_21 ks_300) (e_icmp_lt d_800_24 (by decide)))))
theorem b800_27 {x1 : Int} {σ : SS} : ev 800 27 [qR 0, qI x1] [] σ = some (some (qI (-1000000004)), σ) :=
  Eq.trans (e_ldc d_800_27 ld_8_86 k_m1000000004) (e_iret d_800_29 (q_okrI rfl))
theorem b800_30 {x1 : Int} {σ : SS} (h : (0 ≤ (σ 1 1) ∧ (σ 1 1) < 300) ∧ (-2147483648 ≤ ((σ 1 1) + 1) ∧ ((σ 1 1) + 1) ≤ 2147483647)) : ev 800 30 [qR 0, qI x1] [] σ = some (some (qI ((σ 1 1) + 1)), (q_put (q_put σ 2 (σ 1 1).toNat x1) 1 1 ((σ 1 1) + 1))) :=
  Eq.trans (e_aload_n d_800_30 rfl) (Eq.trans (e_getR d_800_31 fl_8_10 sh_0 rfl) (Eq.trans (e_getR d_800_34 fl_8_87 sh_1 rfl) (Eq.trans (e_aload_n d_800_37 rfl) (Eq.trans (e_getR d_800_38 fl_8_10 sh_0 rfl) (Eq.trans (e_getI d_800_41 fl_8_83 sh_1 rfl) (Eq.trans (e_iload_n d_800_44 rfl) (Eq.trans (e_iast d_800_45 sh_2 h.1) (Eq.trans (e_aload_n d_800_46 rfl) (Eq.trans (e_getR d_800_47 fl_8_10 sh_0 rfl) (Eq.trans (e_dup d_800_50 rfl) (Eq.trans (e_getI d_800_51 fl_8_83 sh_1 rfl) (Eq.trans (e_iconst d_800_54 k_1) (Eq.trans (e_iadd d_800_55 h.2) (Eq.trans (e_put d_800_56 fl_8_83 sh_1 rfl rfl rfl) (Eq.trans (e_aload_n d_800_59 rfl) (Eq.trans (e_getR d_800_60 fl_8_10 sh_0 rfl) (Eq.trans (e_getI d_800_63 fl_8_83 sh_1 rfl) (e_iret d_800_66 (q_okrI rfl)))))))))))))))))))
theorem b801_0 {σ : SS} : ev 801 0 [qR 0] [] σ = (ev 500 0 [qR 1, qR 3, qU] [] σ).bind (fun x => ev 801 11 [qR 0] (q_push x.1 []) x.2) :=
  Eq.trans (e_aload_n d_801_0 rfl) (Eq.trans (e_getR d_801_1 fl_8_10 sh_0 rfl) (Eq.trans (e_aload_n d_801_4 rfl) (Eq.trans (e_getR d_801_5 fl_8_19 sh_0 rfl) (e_callV d_801_8 ml_8_91 fit_801_500 par_500 rfl rfl sh_1 (Nat.le_of_ble_eq_true rfl) (Nat.le_of_ble_eq_true rfl) (Nat.le_of_ble_eq_true rfl) rfl (by decide) rfl))))
theorem b801_11 {y0 : Int} {σ : SS} : ev 801 11 [qR 0] [qI y0] σ = if y0 = 0 then ev 801 14 [qR 0] [] σ else ev 801 25 [qR 0] [] σ :=
  e_if_ne d_801_11 (by decide)
theorem b801_14 {σ : SS} (h : -2147483648 ≤ ((-10) - (σ 1 2)) ∧ ((-10) - (σ 1 2)) ≤ 2147483647) : ev 801 14 [qR 0] [] σ = some (some (qI ((-10) - (σ 1 2))), σ) :=
  Eq.trans (e_bipush d_801_14 kb_m10) (Eq.trans (e_aload_n d_801_16 rfl) (Eq.trans (e_getR d_801_17 fl_8_10 sh_0 rfl) (Eq.trans (e_getI d_801_20 fl_8_95 sh_1 rfl) (Eq.trans (e_isub d_801_23 h) (e_iret d_801_24 (q_okrI rfl))))))
theorem b801_25 {σ : SS} : ev 801 25 [qR 0] [] σ = (ev 601 0 [qR 12, qR 3] [] σ).bind (fun x => ev 801 36 [qR 0] (q_push x.1 []) x.2) :=
  Eq.trans (e_aload_n d_801_25 rfl) (Eq.trans (e_getR d_801_26 fl_8_23 sh_0 rfl) (Eq.trans (e_aload_n d_801_29 rfl) (Eq.trans (e_getR d_801_30 fl_8_19 sh_0 rfl) (e_callV d_801_33 ml_8_98 fit_801_601 par_601 rfl rfl sh_12 (Nat.le_of_ble_eq_true rfl) (Nat.le_of_ble_eq_true rfl) (Nat.le_of_ble_eq_true rfl) rfl (by decide) rfl))))
theorem b801_36 {σ : SS} : ev 801 36 [qR 0] [] σ = (ev 300 0 [qR 21, qR 12, qU] [] σ).bind (fun x => ev 801 47 [qR 0] (q_push x.1 []) x.2) :=
  Eq.trans (e_aload_n d_801_36 rfl) (Eq.trans (e_getR d_801_37 fl_8_29 sh_0 rfl) (Eq.trans (e_aload_n d_801_40 rfl) (Eq.trans (e_getR d_801_41 fl_8_23 sh_0 rfl) (e_callV d_801_44 ml_8_101 fit_801_300 par_300 rfl rfl sh_21 (Nat.le_of_ble_eq_true rfl) (Nat.le_of_ble_eq_true rfl) (Nat.le_of_ble_eq_true rfl) rfl (by decide) rfl))))
theorem b801_47 {σ : SS} : ev 801 47 [qR 0] [] σ = (ev 400 0 [qR 35] [] σ).bind (fun x => ev 801 54 [qR 0] (q_push x.1 []) x.2) :=
  Eq.trans (e_aload_n d_801_47 rfl) (Eq.trans (e_getR d_801_48 fl_8_53 sh_0 rfl) (e_callV d_801_51 ml_8_104 fit_801_400 par_400 rfl rfl sh_35 (Nat.le_of_ble_eq_true rfl) (Nat.le_of_ble_eq_true rfl) (Nat.le_of_ble_eq_true rfl) rfl (by decide) rfl))
theorem b801_54 {σ : SS} : ev 801 54 [qR 0] [] σ = some (some (qI (σ 12 10)), (q_put σ 0 5 0)) :=
  Eq.trans (e_aload_n d_801_54 rfl) (Eq.trans (e_iconst d_801_55 k_0) (Eq.trans (e_put d_801_56 fl_8_37 sh_0 rfl rfl rfl) (Eq.trans (e_aload_n d_801_59 rfl) (Eq.trans (e_getR d_801_60 fl_8_23 sh_0 rfl) (Eq.trans (e_getI d_801_63 fl_8_107 sh_12 rfl) (e_iret d_801_66 (q_okrI rfl)))))))
theorem b802_0 {σ : SS} : ev 802 0 [qR 0] [] σ = some (some (qI (σ 1 3)), σ) :=
  Eq.trans (e_aload_n d_802_0 rfl) (Eq.trans (e_getR d_802_1 fl_8_10 sh_0 rfl) (Eq.trans (e_getI d_802_4 fl_8_110 sh_1 rfl) (e_iret d_802_7 (q_okrI rfl))))
theorem b803_0 {x1 : Int} {σ : SS} : ev 803 0 [qR 0, qI x1] [] σ = if x1 < 0 then ev 803 10 [qR 0, qI x1] [] σ else ev 803 4 [qR 0, qI x1] [] σ :=
  Eq.trans (e_iload_n d_803_0 rfl) (e_if_lt d_803_1 (by decide))
theorem b803_4 {x1 : Int} {σ : SS} : ev 803 4 [qR 0, qI x1] [] σ = if 17 < x1 then ev 803 10 [qR 0, qI x1] [] σ else ev 803 13 [qR 0, qI x1] [] σ :=
  Eq.trans (e_iload_n d_803_4 rfl) (Eq.trans (e_bipush d_803_5 kb_17) (e_icmp_le d_803_7 (by decide)))
theorem b803_10 {x1 : Int} {σ : SS} : ev 803 10 [qR 0, qI x1] [] σ = some (some (qI (-1000000002)), σ) :=
  Eq.trans (e_ldc d_803_10 ld_8_82 k_m1000000002) (e_iret d_803_12 (q_okrI rfl))
theorem b803_13 {x1 : Int} {σ : SS} : ev 803 13 [qR 0, qI x1] [] σ = if x1 < 9 then ev 803 19 [qR 0, qI x1] [] σ else ev 803 27 [qR 0, qI x1] [] σ :=
  Eq.trans (e_iload_n d_803_13 rfl) (Eq.trans (e_bipush d_803_14 kb_9) (e_icmp_ge d_803_16 (by decide)))
theorem b803_19 {x1 : Int} {σ : SS} : ev 803 19 [qR 0, qI x1] [] σ = (ev 804 0 [qR 0, qI x1] [] σ).bind (fun x => ev 803 24 [qR 0, qI x1] (q_push x.1 []) x.2) :=
  Eq.trans (e_aload_n d_803_19 rfl) (Eq.trans (e_iload_n d_803_20 rfl) (e_callV d_803_21 ml_8_113 fit_803_804 par_804 rfl rfl sh_0 (Nat.le_of_ble_eq_true rfl) (Nat.le_of_ble_eq_true rfl) (Nat.le_of_ble_eq_true rfl) rfl (by decide) rfl))
theorem b803_24 {x1 y0 : Int} {σ : SS} : ev 803 24 [qR 0, qI x1] [qI y0] σ = ev 803 32 [qR 0, qI x1] [qI y0] σ :=
  e_goto d_803_24 (by decide)
theorem b803_27 {x1 : Int} {σ : SS} : ev 803 27 [qR 0, qI x1] [] σ = (ev 805 0 [qR 0, qI x1] [] σ).bind (fun x => ev 803 32 [qR 0, qI x1] (q_push x.1 []) x.2) :=
  Eq.trans (e_aload_n d_803_27 rfl) (Eq.trans (e_iload_n d_803_28 rfl) (e_callV d_803_29 ml_8_117 fit_803_805 par_805 rfl rfl sh_0 (Nat.le_of_ble_eq_true rfl) (Nat.le_of_ble_eq_true rfl) (Nat.le_of_ble_eq_true rfl) rfl (by decide) rfl))
theorem b803_32 {x1 y0 : Int} {σ : SS} : ev 803 32 [qR 0, qI x1] [qI y0] σ = some (some (qI y0), σ) :=
  e_iret d_803_32 (q_okrI rfl)
theorem b806_0 {x1 x2 : Int} {σ : SS} : ev 806 0 [qR 0, qI x1, qI x2] [] σ = (ev 602 0 [qR 12, qI x1] [] σ).bind (fun x => ev 806 8 [qR 0, qI x1, qI x2] (q_push x.1 []) x.2) :=
  Eq.trans (e_aload_n d_806_0 rfl) (Eq.trans (e_getR d_806_1 fl_8_23 sh_0 rfl) (Eq.trans (e_iload_n d_806_4 rfl) (e_callV d_806_5 ml_8_170 fit_806_602 par_602 rfl rfl sh_12 (Nat.le_of_ble_eq_true rfl) (Nat.le_of_ble_eq_true rfl) (Nat.le_of_ble_eq_true rfl) rfl (by decide) rfl)))
theorem b806_8 {x1 x2 y0 : Int} {σ : SS} : ev 806 8 [qR 0, qI x1, qI x2] [qI y0] σ = if y0 = 0 then ev 806 11 [qR 0, qI x1, qI x2] [] σ else ev 806 14 [qR 0, qI x1, qI x2] [] σ :=
  e_if_ne d_806_8 (by decide)
theorem b806_11 {x1 x2 : Int} {σ : SS} : ev 806 11 [qR 0, qI x1, qI x2] [] σ = some (some (qI (-1000000001)), σ) :=
  Eq.trans (e_ldc d_806_11 ld_8_174 k_m1000000001) (e_iret d_806_13 (q_okrI rfl))
theorem b806_14_c0 {x1 x2 : Int} {σ : SS} (h : x2 = 0) : ev 806 14 [qR 0, qI x1, qI x2] [] σ = ev 806 40 [qR 0, qI x1, qI x2] [] σ :=
  Eq.trans (e_iload_n d_806_14 rfl) (e_tswI (k := 0) d_806_15 (by have := h; omega) (by decide) rfl (by decide))
theorem b806_14_c1 {x1 x2 : Int} {σ : SS} (h : x2 = 1) : ev 806 14 [qR 0, qI x1, qI x2] [] σ = ev 806 50 [qR 0, qI x1, qI x2] [] σ :=
  Eq.trans (e_iload_n d_806_14 rfl) (e_tswI (k := 1) d_806_15 (by have := h; omega) (by decide) rfl (by decide))
theorem b806_14_c2 {x1 x2 : Int} {σ : SS} (h : x2 = 2) : ev 806 14 [qR 0, qI x1, qI x2] [] σ = ev 806 60 [qR 0, qI x1, qI x2] [] σ :=
  Eq.trans (e_iload_n d_806_14 rfl) (e_tswI (k := 2) d_806_15 (by have := h; omega) (by decide) rfl (by decide))
theorem b806_14_cd {x1 x2 : Int} {σ : SS} (h : x2 < 0 ∨ 2 < x2) : ev 806 14 [qR 0, qI x1, qI x2] [] σ = ev 806 66 [qR 0, qI x1, qI x2] [] σ :=
  Eq.trans (e_iload_n d_806_14 rfl) (e_tswO d_806_15 h (by decide))
theorem b806_40 {x1 x2 : Int} {σ : SS} (h : 0 ≤ x1 ∧ x1 < 6) : ev 806 40 [qR 0, qI x1, qI x2] [] σ = some (some (qI (σ 13 x1.toNat)), σ) :=
  Eq.trans (e_aload_n d_806_40 rfl) (Eq.trans (e_getR d_806_41 fl_8_23 sh_0 rfl) (Eq.trans (e_getR d_806_44 fl_8_175 sh_12 rfl) (Eq.trans (e_iload_n d_806_47 rfl) (Eq.trans (e_iald d_806_48 sh_13 h) (e_iret d_806_49 (q_okrI rfl))))))
theorem b806_50 {x1 x2 : Int} {σ : SS} (h : 0 ≤ x1 ∧ x1 < 6) : ev 806 50 [qR 0, qI x1, qI x2] [] σ = some (some (qI (σ 14 x1.toNat)), σ) :=
  Eq.trans (e_aload_n d_806_50 rfl) (Eq.trans (e_getR d_806_51 fl_8_23 sh_0 rfl) (Eq.trans (e_getR d_806_54 fl_8_178 sh_12 rfl) (Eq.trans (e_iload_n d_806_57 rfl) (Eq.trans (e_iald d_806_58 sh_14 h) (e_iret d_806_59 (q_okrI rfl))))))
theorem b806_60 {x1 x2 : Int} {σ : SS} : ev 806 60 [qR 0, qI x1, qI x2] [] σ = (ev 807 0 [qR 0, qI x1, qU, qU] [] σ).bind (fun x => ev 806 65 [qR 0, qI x1, qI x2] (q_push x.1 []) x.2) :=
  Eq.trans (e_aload_n d_806_60 rfl) (Eq.trans (e_iload_n d_806_61 rfl) (e_callV d_806_62 ml_8_181 fit_806_807 par_807 rfl rfl sh_0 (Nat.le_of_ble_eq_true rfl) (Nat.le_of_ble_eq_true rfl) (Nat.le_of_ble_eq_true rfl) rfl (by decide) rfl))
theorem b806_65 {x1 x2 y0 : Int} {σ : SS} : ev 806 65 [qR 0, qI x1, qI x2] [qI y0] σ = some (some (qI y0), σ) :=
  e_iret d_806_65 (q_okrI rfl)
theorem b806_66 {x1 x2 : Int} {σ : SS} : ev 806 66 [qR 0, qI x1, qI x2] [] σ = some (some (qI (-1000000002)), σ) :=
  Eq.trans (e_ldc d_806_66 ld_8_82 k_m1000000002) (e_iret d_806_68 (q_okrI rfl))
theorem b808_0 {x1 x2 : Int} {σ : SS} : ev 808 0 [qR 0, qI x1, qI x2] [] σ = (ev 603 0 [qR 12, qI x1] [] σ).bind (fun x => ev 808 8 [qR 0, qI x1, qI x2] (q_push x.1 []) x.2) :=
  Eq.trans (e_aload_n d_808_0 rfl) (Eq.trans (e_getR d_808_1 fl_8_23 sh_0 rfl) (Eq.trans (e_iload_n d_808_4 rfl) (e_callV d_808_5 ml_8_187 fit_808_603 par_603 rfl rfl sh_12 (Nat.le_of_ble_eq_true rfl) (Nat.le_of_ble_eq_true rfl) (Nat.le_of_ble_eq_true rfl) rfl (by decide) rfl)))
theorem b808_8 {x1 x2 y0 : Int} {σ : SS} : ev 808 8 [qR 0, qI x1, qI x2] [qI y0] σ = if y0 = 0 then ev 808 11 [qR 0, qI x1, qI x2] [] σ else ev 808 14 [qR 0, qI x1, qI x2] [] σ :=
  e_if_ne d_808_8 (by decide)
theorem b808_11 {x1 x2 : Int} {σ : SS} : ev 808 11 [qR 0, qI x1, qI x2] [] σ = some (some (qI (-1000000001)), σ) :=
  Eq.trans (e_ldc d_808_11 ld_8_174 k_m1000000001) (e_iret d_808_13 (q_okrI rfl))
theorem b808_14_c0 {x1 x2 : Int} {σ : SS} (h : x2 = 0) : ev 808 14 [qR 0, qI x1, qI x2] [] σ = ev 808 64 [qR 0, qI x1, qI x2] [] σ :=
  Eq.trans (e_iload_n d_808_14 rfl) (e_tswI (k := 0) d_808_15 (by have := h; omega) (by decide) rfl (by decide))
theorem b808_14_c1 {x1 x2 : Int} {σ : SS} (h : x2 = 1) : ev 808 14 [qR 0, qI x1, qI x2] [] σ = ev 808 74 [qR 0, qI x1, qI x2] [] σ :=
  Eq.trans (e_iload_n d_808_14 rfl) (e_tswI (k := 1) d_808_15 (by have := h; omega) (by decide) rfl (by decide))
theorem b808_14_c2 {x1 x2 : Int} {σ : SS} (h : x2 = 2) : ev 808 14 [qR 0, qI x1, qI x2] [] σ = ev 808 84 [qR 0, qI x1, qI x2] [] σ :=
  Eq.trans (e_iload_n d_808_14 rfl) (e_tswI (k := 2) d_808_15 (by have := h; omega) (by decide) rfl (by decide))
theorem b808_14_c3 {x1 x2 : Int} {σ : SS} (h : x2 = 3) : ev 808 14 [qR 0, qI x1, qI x2] [] σ = ev 808 94 [qR 0, qI x1, qI x2] [] σ :=
  Eq.trans (e_iload_n d_808_14 rfl) (e_tswI (k := 3) d_808_15 (by have := h; omega) (by decide) rfl (by decide))
theorem b808_14_c4 {x1 x2 : Int} {σ : SS} (h : x2 = 4) : ev 808 14 [qR 0, qI x1, qI x2] [] σ = ev 808 104 [qR 0, qI x1, qI x2] [] σ :=
  Eq.trans (e_iload_n d_808_14 rfl) (e_tswI (k := 4) d_808_15 (by have := h; omega) (by decide) rfl (by decide))
theorem b808_14_c5 {x1 x2 : Int} {σ : SS} (h : x2 = 5) : ev 808 14 [qR 0, qI x1, qI x2] [] σ = ev 808 114 [qR 0, qI x1, qI x2] [] σ :=
  Eq.trans (e_iload_n d_808_14 rfl) (e_tswI (k := 5) d_808_15 (by have := h; omega) (by decide) rfl (by decide))
theorem b808_14_c6 {x1 x2 : Int} {σ : SS} (h : x2 = 6) : ev 808 14 [qR 0, qI x1, qI x2] [] σ = ev 808 123 [qR 0, qI x1, qI x2] [] σ :=
  Eq.trans (e_iload_n d_808_14 rfl) (e_tswI (k := 6) d_808_15 (by have := h; omega) (by decide) rfl (by decide))
theorem b808_14_c7 {x1 x2 : Int} {σ : SS} (h : x2 = 7) : ev 808 14 [qR 0, qI x1, qI x2] [] σ = ev 808 139 [qR 0, qI x1, qI x2] [] σ :=
  Eq.trans (e_iload_n d_808_14 rfl) (e_tswI (k := 7) d_808_15 (by have := h; omega) (by decide) rfl (by decide))
theorem b808_14_c8 {x1 x2 : Int} {σ : SS} (h : x2 = 8) : ev 808 14 [qR 0, qI x1, qI x2] [] σ = ev 808 163 [qR 0, qI x1, qI x2] [] σ :=
  Eq.trans (e_iload_n d_808_14 rfl) (e_tswI (k := 8) d_808_15 (by have := h; omega) (by decide) rfl (by decide))
theorem b808_14_cd {x1 x2 : Int} {σ : SS} (h : x2 < 0 ∨ 8 < x2) : ev 808 14 [qR 0, qI x1, qI x2] [] σ = ev 808 173 [qR 0, qI x1, qI x2] [] σ :=
  Eq.trans (e_iload_n d_808_14 rfl) (e_tswO d_808_15 h (by decide))
theorem b808_64 {x1 x2 : Int} {σ : SS} (h : 0 ≤ x1 ∧ x1 < 6) : ev 808 64 [qR 0, qI x1, qI x2] [] σ = some (some (qI (σ 22 x1.toNat)), σ) :=
  Eq.trans (e_aload_n d_808_64 rfl) (Eq.trans (e_getR d_808_65 fl_8_29 sh_0 rfl) (Eq.trans (e_getR d_808_68 fl_8_184 sh_21 rfl) (Eq.trans (e_iload_n d_808_71 rfl) (Eq.trans (e_iald d_808_72 sh_22 h) (e_iret d_808_73 (q_okrI rfl))))))
theorem b808_74 {x1 x2 : Int} {σ : SS} (h : 0 ≤ x1 ∧ x1 < 6) : ev 808 74 [qR 0, qI x1, qI x2] [] σ = some (some (qI (σ 16 x1.toNat)), σ) :=
  Eq.trans (e_aload_n d_808_74 rfl) (Eq.trans (e_getR d_808_75 fl_8_23 sh_0 rfl) (Eq.trans (e_getR d_808_78 fl_8_190 sh_12 rfl) (Eq.trans (e_iload_n d_808_81 rfl) (Eq.trans (e_iald d_808_82 sh_16 h) (e_iret d_808_83 (q_okrI rfl))))))
theorem b808_84 {x1 x2 : Int} {σ : SS} (h : 0 ≤ x1 ∧ x1 < 6) : ev 808 84 [qR 0, qI x1, qI x2] [] σ = some (some (qI (σ 17 x1.toNat)), σ) :=
  Eq.trans (e_aload_n d_808_84 rfl) (Eq.trans (e_getR d_808_85 fl_8_23 sh_0 rfl) (Eq.trans (e_getR d_808_88 fl_8_192 sh_12 rfl) (Eq.trans (e_iload_n d_808_91 rfl) (Eq.trans (e_iald d_808_92 sh_17 h) (e_iret d_808_93 (q_okrI rfl))))))
theorem b808_94 {x1 x2 : Int} {σ : SS} (h : 0 ≤ x1 ∧ x1 < 6) : ev 808 94 [qR 0, qI x1, qI x2] [] σ = some (some (qI (σ 18 x1.toNat)), σ) :=
  Eq.trans (e_aload_n d_808_94 rfl) (Eq.trans (e_getR d_808_95 fl_8_23 sh_0 rfl) (Eq.trans (e_getR d_808_98 fl_8_195 sh_12 rfl) (Eq.trans (e_iload_n d_808_101 rfl) (Eq.trans (e_iald d_808_102 sh_18 h) (e_iret d_808_103 (q_okrI rfl))))))
theorem b808_104 {x1 x2 : Int} {σ : SS} (h : 0 ≤ x1 ∧ x1 < 6) : ev 808 104 [qR 0, qI x1, qI x2] [] σ = some (some (qI (σ 23 x1.toNat)), σ) :=
  Eq.trans (e_aload_n d_808_104 rfl) (Eq.trans (e_getR d_808_105 fl_8_29 sh_0 rfl) (Eq.trans (e_getR d_808_108 fl_8_198 sh_21 rfl) (Eq.trans (e_iload_n d_808_111 rfl) (Eq.trans (e_iald d_808_112 sh_23 h) (e_iret d_808_113 (q_okrI rfl))))))
theorem b808_114 {x1 x2 : Int} {σ : SS} : ev 808 114 [qR 0, qI x1, qI x2] [] σ = (ev 206 0 [qR 34, qI x1] [] σ).bind (fun x => ev 808 122 [qR 0, qI x1, qI x2] (q_push x.1 []) x.2) :=
  Eq.trans (e_aload_n d_808_114 rfl) (Eq.trans (e_getR d_808_115 fl_8_46 sh_0 rfl) (Eq.trans (e_iload_n d_808_118 rfl) (e_callV d_808_119 ml_8_201 fit_808_206 par_206 rfl rfl sh_34 (Nat.le_of_ble_eq_true rfl) (Nat.le_of_ble_eq_true rfl) (Nat.le_of_ble_eq_true rfl) rfl (by decide) rfl)))
theorem b808_122 {x1 x2 y0 : Int} {σ : SS} : ev 808 122 [qR 0, qI x1, qI x2] [qI y0] σ = some (some (qI y0), σ) :=
  e_iret d_808_122 (q_okrI rfl)
theorem b808_123 {x1 x2 : Int} {σ : SS} : ev 808 123 [qR 0, qI x1, qI x2] [] σ = (ev 204 0 [qR 34, qI x1, qI (σ 21 3), qU] [] σ).bind (fun x => ev 808 138 [qR 0, qI x1, qI x2] (q_push x.1 []) x.2) :=
  Eq.trans (e_aload_n d_808_123 rfl) (Eq.trans (e_getR d_808_124 fl_8_46 sh_0 rfl) (Eq.trans (e_iload_n d_808_127 rfl) (Eq.trans (e_aload_n d_808_128 rfl) (Eq.trans (e_getR d_808_129 fl_8_29 sh_0 rfl) (Eq.trans (e_getI d_808_132 fl_8_141 sh_21 rfl) (e_callV d_808_135 ml_8_204 fit_808_204 par_204 rfl rfl sh_34 (Nat.le_of_ble_eq_true rfl) (Nat.le_of_ble_eq_true rfl) (Nat.le_of_ble_eq_true rfl) rfl (by decide) rfl))))))
theorem b808_138 {x1 x2 y0 : Int} {σ : SS} : ev 808 138 [qR 0, qI x1, qI x2] [qI y0] σ = some (some (qI y0), σ) :=
  e_iret d_808_138 (q_okrI rfl)
theorem b808_139 {x1 x2 : Int} {σ : SS} : ev 808 139 [qR 0, qI x1, qI x2] [] σ = (ev 208 0 [qR 34, qI x1, qI (σ 21 3)] [] σ).bind (fun x => ev 808 154 [qR 0, qI x1, qI x2] (q_push x.1 []) x.2) :=
  Eq.trans (e_aload_n d_808_139 rfl) (Eq.trans (e_getR d_808_140 fl_8_46 sh_0 rfl) (Eq.trans (e_iload_n d_808_143 rfl) (Eq.trans (e_aload_n d_808_144 rfl) (Eq.trans (e_getR d_808_145 fl_8_29 sh_0 rfl) (Eq.trans (e_getI d_808_148 fl_8_141 sh_21 rfl) (e_callV d_808_151 ml_8_208 fit_808_208 par_208 rfl rfl sh_34 (Nat.le_of_ble_eq_true rfl) (Nat.le_of_ble_eq_true rfl) (Nat.le_of_ble_eq_true rfl) rfl (by decide) rfl))))))
theorem b808_154 {x1 x2 y0 : Int} {σ : SS} : ev 808 154 [qR 0, qI x1, qI x2] [qI y0] σ = if y0 = 0 then ev 808 161 [qR 0, qI x1, qI x2] [] σ else ev 808 157 [qR 0, qI x1, qI x2] [] σ :=
  e_if_eq d_808_154 (by decide)
theorem b808_157 {x1 x2 : Int} {σ : SS} : ev 808 157 [qR 0, qI x1, qI x2] [] σ = ev 808 162 [qR 0, qI x1, qI x2] [qI 1] σ :=
  Eq.trans (e_iconst d_808_157 k_1) (e_goto d_808_158 (by decide))
theorem b808_161 {x1 x2 : Int} {σ : SS} : ev 808 161 [qR 0, qI x1, qI x2] [] σ = ev 808 162 [qR 0, qI x1, qI x2] [qI 0] σ :=
  e_iconst d_808_161 k_0
theorem b808_162 {x1 x2 y0 : Int} {σ : SS} : ev 808 162 [qR 0, qI x1, qI x2] [qI y0] σ = some (some (qI y0), σ) :=
  e_iret d_808_162 (q_okrI rfl)
theorem b808_163 {x1 x2 : Int} {σ : SS} (h : 0 ≤ x1 ∧ x1 < 6) : ev 808 163 [qR 0, qI x1, qI x2] [] σ = some (some (qI (σ 20 x1.toNat)), σ) :=
  Eq.trans (e_aload_n d_808_163 rfl) (Eq.trans (e_getR d_808_164 fl_8_23 sh_0 rfl) (Eq.trans (e_getR d_808_167 fl_8_212 sh_12 rfl) (Eq.trans (e_iload_n d_808_170 rfl) (Eq.trans (e_iald d_808_171 sh_20 h) (e_iret d_808_172 (q_okrI rfl))))))
theorem b808_173 {x1 x2 : Int} {σ : SS} : ev 808 173 [qR 0, qI x1, qI x2] [] σ = some (some (qI (-1000000002)), σ) :=
  Eq.trans (e_ldc d_808_173 ld_8_82 k_m1000000002) (e_iret d_808_175 (q_okrI rfl))
theorem b809_0 {x1 x2 : Int} {σ : SS} : ev 809 0 [qR 0, qI x1, qI x2] [] σ = (ev 603 0 [qR 12, qI x1] [] σ).bind (fun x => ev 809 8 [qR 0, qI x1, qI x2] (q_push x.1 []) x.2) :=
  Eq.trans (e_aload_n d_809_0 rfl) (Eq.trans (e_getR d_809_1 fl_8_23 sh_0 rfl) (Eq.trans (e_iload_n d_809_4 rfl) (e_callV d_809_5 ml_8_187 fit_809_603 par_603 rfl rfl sh_12 (Nat.le_of_ble_eq_true rfl) (Nat.le_of_ble_eq_true rfl) (Nat.le_of_ble_eq_true rfl) rfl (by decide) rfl)))
theorem b809_8 {x1 x2 y0 : Int} {σ : SS} : ev 809 8 [qR 0, qI x1, qI x2] [qI y0] σ = if y0 = 0 then ev 809 11 [qR 0, qI x1, qI x2] [] σ else ev 809 14 [qR 0, qI x1, qI x2] [] σ :=
  e_if_ne d_809_8 (by decide)
theorem b809_11 {x1 x2 : Int} {σ : SS} : ev 809 11 [qR 0, qI x1, qI x2] [] σ = some (some (qI (-1000000001)), σ) :=
  Eq.trans (e_ldc d_809_11 ld_8_174 k_m1000000001) (e_iret d_809_13 (q_okrI rfl))
theorem b809_14 {x1 x2 : Int} {σ : SS} : ev 809 14 [qR 0, qI x1, qI x2] [] σ = if x2 < 0 then ev 809 24 [qR 0, qI x1, qI x2] [] σ else ev 809 18 [qR 0, qI x1, qI x2] [] σ :=
  Eq.trans (e_iload_n d_809_14 rfl) (e_if_lt d_809_15 (by decide))
theorem b809_18 {x1 x2 : Int} {σ : SS} : ev 809 18 [qR 0, qI x1, qI x2] [] σ = if 99999 < x2 then ev 809 24 [qR 0, qI x1, qI x2] [] σ else ev 809 27 [qR 0, qI x1, qI x2] [] σ :=
  Eq.trans (e_iload_n d_809_18 rfl) (Eq.trans (e_ldc d_809_19 ld_8_215 k_99999) (e_icmp_le d_809_21 (by decide)))
theorem b809_24 {x1 x2 : Int} {σ : SS} : ev 809 24 [qR 0, qI x1, qI x2] [] σ = some (some (qI (-1000000002)), σ) :=
  Eq.trans (e_ldc d_809_24 ld_8_82 k_m1000000002) (e_iret d_809_26 (q_okrI rfl))
theorem b809_27 {x1 x2 : Int} {σ : SS} : ev 809 27 [qR 0, qI x1, qI x2] [] σ = (ev 204 0 [qR 34, qI x1, qI x2, qU] [] σ).bind (fun x => ev 809 36 [qR 0, qI x1, qI x2] (q_push x.1 []) x.2) :=
  Eq.trans (e_aload_n d_809_27 rfl) (Eq.trans (e_getR d_809_28 fl_8_46 sh_0 rfl) (Eq.trans (e_iload_n d_809_31 rfl) (Eq.trans (e_iload_n d_809_32 rfl) (e_callV d_809_33 ml_8_204 fit_809_204 par_204 rfl rfl sh_34 (Nat.le_of_ble_eq_true rfl) (Nat.le_of_ble_eq_true rfl) (Nat.le_of_ble_eq_true rfl) rfl (by decide) rfl))))
theorem b809_36 {x1 x2 y0 : Int} {σ : SS} : ev 809 36 [qR 0, qI x1, qI x2] [qI y0] σ = some (some (qI y0), σ) :=
  e_iret d_809_36 (q_okrI rfl)
theorem b810_0 {x1 : Int} {σ : SS} : ev 810 0 [qR 0, qI x1] [] σ = if x1 < 1 then ev 810 12 [qR 0, qI x1] [] σ else ev 810 5 [qR 0, qI x1] [] σ :=
  Eq.trans (e_iload_n d_810_0 rfl) (Eq.trans (e_iconst d_810_1 k_1) (e_icmp_lt d_810_2 (by decide)))
theorem b810_5 {x1 : Int} {σ : SS} : ev 810 5 [qR 0, qI x1] [] σ = if 999 < x1 then ev 810 12 [qR 0, qI x1] [] σ else ev 810 15 [qR 0, qI x1] [] σ :=
  Eq.trans (e_iload_n d_810_5 rfl) (Eq.trans (e_sipush d_810_6 ks_999) (e_icmp_le d_810_9 (by decide)))
theorem b810_12 {x1 : Int} {σ : SS} : ev 810 12 [qR 0, qI x1] [] σ = some (some (qI (-1000000002)), σ) :=
  Eq.trans (e_ldc d_810_12 ld_8_82 k_m1000000002) (e_iret d_810_14 (q_okrI rfl))
theorem b810_15 {x1 : Int} {σ : SS} (h : -2147483648 ≤ ((σ 21 3) + x1) ∧ ((σ 21 3) + x1) ≤ 2147483647) : ev 810 15 [qR 0, qI x1] [] σ = some (some (qI ((σ 21 3) + x1)), (q_put σ 21 3 ((σ 21 3) + x1))) :=
  Eq.trans (e_aload_n d_810_15 rfl) (Eq.trans (e_getR d_810_16 fl_8_29 sh_0 rfl) (Eq.trans (e_dup d_810_19 rfl) (Eq.trans (e_getI d_810_20 fl_8_141 sh_21 rfl) (Eq.trans (e_iload_n d_810_23 rfl) (Eq.trans (e_iadd d_810_24 h) (Eq.trans (e_put d_810_25 fl_8_141 sh_21 rfl rfl rfl) (Eq.trans (e_aload_n d_810_28 rfl) (Eq.trans (e_getR d_810_29 fl_8_29 sh_0 rfl) (Eq.trans (e_getI d_810_32 fl_8_141 sh_21 rfl) (e_iret d_810_35 (q_okrI rfl)))))))))))
theorem b811_0 {x1 : Int} {σ : SS} : ev 811 0 [qR 0, qI x1] [] σ = (ev 602 0 [qR 12, qI x1] [] σ).bind (fun x => ev 811 8 [qR 0, qI x1] (q_push x.1 []) x.2) :=
  Eq.trans (e_aload_n d_811_0 rfl) (Eq.trans (e_getR d_811_1 fl_8_23 sh_0 rfl) (Eq.trans (e_iload_n d_811_4 rfl) (e_callV d_811_5 ml_8_170 fit_811_602 par_602 rfl rfl sh_12 (Nat.le_of_ble_eq_true rfl) (Nat.le_of_ble_eq_true rfl) (Nat.le_of_ble_eq_true rfl) rfl (by decide) rfl)))
theorem b811_8 {x1 y0 : Int} {σ : SS} : ev 811 8 [qR 0, qI x1] [qI y0] σ = if y0 = 0 then ev 811 11 [qR 0, qI x1] [] σ else ev 811 14 [qR 0, qI x1] [] σ :=
  e_if_ne d_811_8 (by decide)
theorem b811_11 {x1 : Int} {σ : SS} : ev 811 11 [qR 0, qI x1] [] σ = some (some (qI (-1000000001)), σ) :=
  Eq.trans (e_ldc d_811_11 ld_8_174 k_m1000000001) (e_iret d_811_13 (q_okrI rfl))
theorem b811_14 {x1 : Int} {σ : SS} : ev 811 14 [qR 0, qI x1] [] σ = (ev 609 0 [qR 12, qI (σ 21 4)] [] σ).bind (fun x => ev 811 28 [qR 0, qI x1] (q_push x.1 []) x.2) :=
  Eq.trans (e_aload_n d_811_14 rfl) (Eq.trans (e_getR d_811_15 fl_8_23 sh_0 rfl) (Eq.trans (e_aload_n d_811_18 rfl) (Eq.trans (e_getR d_811_19 fl_8_29 sh_0 rfl) (Eq.trans (e_getI d_811_22 fl_8_144 sh_21 rfl) (e_callV d_811_25 ml_8_216 fit_811_609 par_609 rfl rfl sh_12 (Nat.le_of_ble_eq_true rfl) (Nat.le_of_ble_eq_true rfl) (Nat.le_of_ble_eq_true rfl) rfl (by decide) rfl)))))
theorem b811_28 {x1 y0 : Int} {σ : SS} : ev 811 28 [qR 0, qI x1] [qI y0] σ = (ev 848 0 [qI y0, qI x1] [] σ).bind (fun x => ev 811 32 [qR 0, qI x1] (q_push x.1 []) x.2) :=
  Eq.trans (e_iload_n d_811_28 rfl) (e_callS d_811_29 (by decide) ml_8_219 fit_811_848 par_848 rfl rfl (Nat.le_of_ble_eq_true rfl) (Nat.le_of_ble_eq_true rfl) (Nat.le_of_ble_eq_true rfl) rfl (by decide) rfl)
theorem b811_32 {x1 y0 : Int} {σ : SS} : ev 811 32 [qR 0, qI x1] [qI y0] σ = if y0 = 0 then ev 811 35 [qR 0, qI x1] [] σ else ev 811 38 [qR 0, qI x1] [] σ :=
  e_if_ne d_811_32 (by decide)
theorem b811_35 {x1 : Int} {σ : SS} : ev 811 35 [qR 0, qI x1] [] σ = some (some (qI (-1000000003)), σ) :=
  Eq.trans (e_ldc d_811_35 ld_8_222 k_m1000000003) (e_iret d_811_37 (q_okrI rfl))
theorem b811_38 {x1 : Int} {σ : SS} (h : -2147483648 ≤ ((σ 21 3) + 1) ∧ ((σ 21 3) + 1) ≤ 2147483647) : ev 811 38 [qR 0, qI x1] [] σ = some (some (qI ((σ 21 3) + 1)), (q_put (q_put σ 21 4 x1) 21 3 ((σ 21 3) + 1))) :=
  Eq.trans (e_aload_n d_811_38 rfl) (Eq.trans (e_getR d_811_39 fl_8_29 sh_0 rfl) (Eq.trans (e_iload_n d_811_42 rfl) (Eq.trans (e_put d_811_43 fl_8_144 sh_21 rfl rfl rfl) (Eq.trans (e_aload_n d_811_46 rfl) (Eq.trans (e_getR d_811_47 fl_8_29 sh_0 rfl) (Eq.trans (e_dup d_811_50 rfl) (Eq.trans (e_getI d_811_51 fl_8_141 sh_21 rfl) (Eq.trans (e_iconst d_811_54 k_1) (Eq.trans (e_iadd d_811_55 h) (Eq.trans (e_put d_811_56 fl_8_141 sh_21 rfl rfl rfl) (Eq.trans (e_aload_n d_811_59 rfl) (Eq.trans (e_getR d_811_60 fl_8_29 sh_0 rfl) (Eq.trans (e_getI d_811_63 fl_8_141 sh_21 rfl) (e_iret d_811_66 (q_okrI rfl)))))))))))))))
theorem b812_0 {σ : SS} : ev 812 0 [qR 0, qU, qU] [] σ = if (σ 12 8) = 0 then ev 812 10 [qR 0, qU, qU] [] σ else ev 812 13 [qR 0, qU, qU] [] σ :=
  Eq.trans (e_aload_n d_812_0 rfl) (Eq.trans (e_getR d_812_1 fl_8_23 sh_0 rfl) (Eq.trans (e_getI d_812_4 fl_8_120 sh_12 rfl) (e_if_ne d_812_7 (by decide))))
theorem b812_10 {σ : SS} : ev 812 10 [qR 0, qU, qU] [] σ = some (some (qI (-1000000003)), σ) :=
  Eq.trans (e_ldc d_812_10 ld_8_222 k_m1000000003) (e_iret d_812_12 (q_okrI rfl))
theorem b812_13 {σ : SS} : ev 812 13 [qR 0, qU, qU] [] σ = ev 812 17 [qR 0, qI 0, qI 0] [] σ :=
  Eq.trans (e_iconst d_812_13 k_0) (Eq.trans (e_istore_n d_812_14 (by decide) (Nat.le_of_ble_eq_true rfl) rfl) (Eq.trans (e_iconst d_812_15 k_0) (e_istore_n d_812_16 (by decide) (Nat.le_of_ble_eq_true rfl) rfl)))
theorem b812_17 {x1 x2 : Int} {σ : SS} : ev 812 17 [qR 0, qI x1, qI x2] [] σ = if x2 < (σ 12 10) then ev 812 28 [qR 0, qI x1, qI x2] [] σ else ev 812 81 [qR 0, qI x1, qI x2] [] σ :=
  Eq.trans (e_iload_n d_812_17 rfl) (Eq.trans (e_aload_n d_812_18 rfl) (Eq.trans (e_getR d_812_19 fl_8_23 sh_0 rfl) (Eq.trans (e_getI d_812_22 fl_8_107 sh_12 rfl) (e_icmp_ge d_812_25 (by decide)))))
theorem b812_28 {x1 x2 : Int} {σ : SS} (h : 0 ≤ x2 ∧ x2 < 6) : ev 812 28 [qR 0, qI x1, qI x2] [] σ = if (σ 22 x2.toNat) = (σ 21 4) then ev 812 47 [qR 0, qI x1, qI x2] [] σ else ev 812 75 [qR 0, qI x1, qI x2] [] σ :=
  Eq.trans (e_aload_n d_812_28 rfl) (Eq.trans (e_getR d_812_29 fl_8_29 sh_0 rfl) (Eq.trans (e_getR d_812_32 fl_8_184 sh_21 rfl) (Eq.trans (e_iload_n d_812_35 rfl) (Eq.trans (e_iald d_812_36 sh_22 h) (Eq.trans (e_aload_n d_812_37 rfl) (Eq.trans (e_getR d_812_38 fl_8_29 sh_0 rfl) (Eq.trans (e_getI d_812_41 fl_8_144 sh_21 rfl) (e_icmp_ne d_812_44 (by decide)))))))))
theorem b812_47 {x1 x2 : Int} {σ : SS} : ev 812 47 [qR 0, qI x1, qI x2] [] σ = (ev 848 0 [qI (σ 21 5), qI x2] [] σ).bind (fun x => ev 812 58 [qR 0, qI x1, qI x2] (q_push x.1 []) x.2) :=
  Eq.trans (e_aload_n d_812_47 rfl) (Eq.trans (e_getR d_812_48 fl_8_29 sh_0 rfl) (Eq.trans (e_getI d_812_51 fl_8_154 sh_21 rfl) (Eq.trans (e_iload_n d_812_54 rfl) (e_callS d_812_55 (by decide) ml_8_219 fit_812_848 par_848 rfl rfl (Nat.le_of_ble_eq_true rfl) (Nat.le_of_ble_eq_true rfl) (Nat.le_of_ble_eq_true rfl) rfl (by decide) rfl))))
theorem b812_58 {x1 x2 y0 : Int} {σ : SS} : ev 812 58 [qR 0, qI x1, qI x2] [qI y0] σ = if y0 = 0 then ev 812 61 [qR 0, qI x1, qI x2] [] σ else ev 812 75 [qR 0, qI x1, qI x2] [] σ :=
  e_if_ne d_812_58 (by decide)
theorem b812_61 {x1 x2 : Int} {σ : SS} : ev 812 61 [qR 0, qI x1, qI x2] [] σ = (ev 813 0 [qR 0, qI x2, qU] [] σ).bind (fun x => ev 812 66 [qR 0, qI x1, qI x2] (q_push x.1 []) x.2) :=
  Eq.trans (e_aload_n d_812_61 rfl) (Eq.trans (e_iload_n d_812_62 rfl) (e_callV d_812_63 ml_8_223 fit_812_813 par_813 rfl rfl sh_0 (Nat.le_of_ble_eq_true rfl) (Nat.le_of_ble_eq_true rfl) (Nat.le_of_ble_eq_true rfl) rfl (by decide) rfl))
theorem b812_66 {x1 x2 y0 : Int} {σ : SS} : ev 812 66 [qR 0, qI x1, qI x2] [qI y0] σ = if y0 = 0 then ev 812 75 [qR 0, qI x1, qI x2] [] σ else ev 812 69 [qR 0, qI x1, qI x2] [] σ :=
  e_if_eq d_812_66 (by decide)
theorem b812_69 {x1 x2 : Int} {σ : SS} : ev 812 69 [qR 0, qI x1, qI x2] [] σ = ev 812 75 [qR 0, qI (q_or x1 (q_shl 1 x2)), qI x2] [] σ :=
  Eq.trans (e_iload_n d_812_69 rfl) (Eq.trans (e_iconst d_812_70 k_1) (Eq.trans (e_iload_n d_812_71 rfl) (Eq.trans (e_ishl d_812_72) (Eq.trans (e_ior d_812_73) (e_istore_n d_812_74 (by decide) (Nat.le_of_ble_eq_true rfl) rfl)))))
theorem b812_75 {x1 x2 : Int} {σ : SS} (h : -2147483648 ≤ (x2 + 1) ∧ (x2 + 1) ≤ 2147483647) : ev 812 75 [qR 0, qI x1, qI x2] [] σ = ev 812 17 [qR 0, qI x1, qI (x2 + 1)] [] σ :=
  Eq.trans (e_iinc d_812_75 (by decide) rfl h rfl) (e_goto d_812_78 (by decide))
theorem b812_81 {x1 x2 : Int} {σ : SS} : ev 812 81 [qR 0, qI x1, qI x2] [] σ = some (some (qI x1), σ) :=
  Eq.trans (e_iload_n d_812_81 rfl) (e_iret d_812_82 (q_okrI rfl))
theorem b814_0 {x1 : Int} {σ : SS} : ev 814 0 [qR 0, qI x1, qU] [] σ = (ev 603 0 [qR 12, qI x1] [] σ).bind (fun x => ev 814 8 [qR 0, qI x1, qU] (q_push x.1 []) x.2) :=
  Eq.trans (e_aload_n d_814_0 rfl) (Eq.trans (e_getR d_814_1 fl_8_23 sh_0 rfl) (Eq.trans (e_iload_n d_814_4 rfl) (e_callV d_814_5 ml_8_187 fit_814_603 par_603 rfl rfl sh_12 (Nat.le_of_ble_eq_true rfl) (Nat.le_of_ble_eq_true rfl) (Nat.le_of_ble_eq_true rfl) rfl (by decide) rfl)))
theorem b814_8 {x1 y0 : Int} {σ : SS} : ev 814 8 [qR 0, qI x1, qU] [qI y0] σ = if y0 = 0 then ev 814 11 [qR 0, qI x1, qU] [] σ else ev 814 14 [qR 0, qI x1, qU] [] σ :=
  e_if_ne d_814_8 (by decide)
theorem b814_11 {x1 : Int} {σ : SS} : ev 814 11 [qR 0, qI x1, qU] [] σ = some (some (qI (-1000000001)), σ) :=
  Eq.trans (e_ldc d_814_11 ld_8_174 k_m1000000001) (e_iret d_814_13 (q_okrI rfl))
theorem b814_14 {x1 : Int} {σ : SS} : ev 814 14 [qR 0, qI x1, qU] [] σ = (ev 205 0 [qR 34, qI x1, qI (σ 21 3)] [] σ).bind (fun x => ev 814 29 [qR 0, qI x1, qU] (q_push x.1 []) x.2) :=
  Eq.trans (e_aload_n d_814_14 rfl) (Eq.trans (e_getR d_814_15 fl_8_46 sh_0 rfl) (Eq.trans (e_iload_n d_814_18 rfl) (Eq.trans (e_aload_n d_814_19 rfl) (Eq.trans (e_getR d_814_20 fl_8_29 sh_0 rfl) (Eq.trans (e_getI d_814_23 fl_8_141 sh_21 rfl) (e_callV d_814_26 ml_8_231 fit_814_205 par_205 rfl rfl sh_34 (Nat.le_of_ble_eq_true rfl) (Nat.le_of_ble_eq_true rfl) (Nat.le_of_ble_eq_true rfl) rfl (by decide) rfl))))))
theorem b814_29 {x1 y0 : Int} {σ : SS} : ev 814 29 [qR 0, qI x1, qU] [qI y0] σ = if y0 = 0 then ev 814 36 [qR 0, qI x1, qU] [] σ else ev 814 32 [qR 0, qI x1, qU] [] σ :=
  e_if_eq d_814_29 (by decide)
theorem b814_32 {x1 : Int} {σ : SS} : ev 814 32 [qR 0, qI x1, qU] [] σ = ev 814 37 [qR 0, qI x1, qU] [qI 1] σ :=
  Eq.trans (e_iconst d_814_32 k_1) (e_goto d_814_33 (by decide))
theorem b814_36 {x1 : Int} {σ : SS} : ev 814 36 [qR 0, qI x1, qU] [] σ = ev 814 37 [qR 0, qI x1, qU] [qI 0] σ :=
  e_iconst d_814_36 k_0
theorem b814_37 {x1 y0 : Int} {σ : SS} (h : 0 ≤ x1 ∧ x1 < 6) : ev 814 37 [qR 0, qI x1, qU] [qI y0] σ = some (some (qI y0), (q_put σ 24 x1.toNat (σ 21 3))) :=
  Eq.trans (e_istore_n d_814_37 (by decide) (Nat.le_of_ble_eq_true rfl) rfl) (Eq.trans (e_aload_n d_814_38 rfl) (Eq.trans (e_getR d_814_39 fl_8_29 sh_0 rfl) (Eq.trans (e_getR d_814_42 fl_8_234 sh_21 rfl) (Eq.trans (e_iload_n d_814_45 rfl) (Eq.trans (e_aload_n d_814_46 rfl) (Eq.trans (e_getR d_814_47 fl_8_29 sh_0 rfl) (Eq.trans (e_getI d_814_50 fl_8_141 sh_21 rfl) (Eq.trans (e_iast d_814_53 sh_24 h) (Eq.trans (e_iload_n d_814_54 rfl) (e_iret d_814_55 (q_okrI rfl)))))))))))
theorem b815_0 {x1 x2 : Int} {σ : SS} : ev 815 0 [qR 0, qI x1, qI x2, qU] [] σ = (ev 603 0 [qR 12, qI x1] [] σ).bind (fun x => ev 815 8 [qR 0, qI x1, qI x2, qU] (q_push x.1 []) x.2) :=
  Eq.trans (e_aload_n d_815_0 rfl) (Eq.trans (e_getR d_815_1 fl_8_23 sh_0 rfl) (Eq.trans (e_iload_n d_815_4 rfl) (e_callV d_815_5 ml_8_187 fit_815_603 par_603 rfl rfl sh_12 (Nat.le_of_ble_eq_true rfl) (Nat.le_of_ble_eq_true rfl) (Nat.le_of_ble_eq_true rfl) rfl (by decide) rfl)))
theorem b815_8 {x1 x2 y0 : Int} {σ : SS} : ev 815 8 [qR 0, qI x1, qI x2, qU] [qI y0] σ = if y0 = 0 then ev 815 11 [qR 0, qI x1, qI x2, qU] [] σ else ev 815 14 [qR 0, qI x1, qI x2, qU] [] σ :=
  e_if_ne d_815_8 (by decide)
theorem b815_11 {x1 x2 : Int} {σ : SS} : ev 815 11 [qR 0, qI x1, qI x2, qU] [] σ = some (some (qI (-1000000001)), σ) :=
  Eq.trans (e_ldc d_815_11 ld_8_174 k_m1000000001) (e_iret d_815_13 (q_okrI rfl))
theorem b815_14 {x1 x2 : Int} {σ : SS} : ev 815 14 [qR 0, qI x1, qI x2, qU] [] σ = if x2 < 0 then ev 815 23 [qR 0, qI x1, qI x2, qU] [] σ else ev 815 18 [qR 0, qI x1, qI x2, qU] [] σ :=
  Eq.trans (e_iload_n d_815_14 rfl) (e_if_lt d_815_15 (by decide))
theorem b815_18 {x1 x2 : Int} {σ : SS} : ev 815 18 [qR 0, qI x1, qI x2, qU] [] σ = if 5 < x2 then ev 815 23 [qR 0, qI x1, qI x2, qU] [] σ else ev 815 26 [qR 0, qI x1, qI x2, qU] [] σ :=
  Eq.trans (e_iload_n d_815_18 rfl) (Eq.trans (e_iconst d_815_19 k_5) (e_icmp_le d_815_20 (by decide)))
theorem b815_23 {x1 x2 : Int} {σ : SS} : ev 815 23 [qR 0, qI x1, qI x2, qU] [] σ = some (some (qI (-1000000002)), σ) :=
  Eq.trans (e_ldc d_815_23 ld_8_82 k_m1000000002) (e_iret d_815_25 (q_okrI rfl))
theorem b815_26 {x1 x2 : Int} {σ : SS} (h : 0 ≤ x1 ∧ x1 < 6) : ev 815 26 [qR 0, qI x1, qI x2, qU] [] σ = some (some (qI (σ 23 x1.toNat)), (q_put σ 23 x1.toNat x2)) :=
  Eq.trans (e_aload_n d_815_26 rfl) (Eq.trans (e_getR d_815_27 fl_8_29 sh_0 rfl) (Eq.trans (e_getR d_815_30 fl_8_198 sh_21 rfl) (Eq.trans (e_iload_n d_815_33 rfl) (Eq.trans (e_iald d_815_34 sh_23 h) (Eq.trans (e_istore_n d_815_35 (by decide) (Nat.le_of_ble_eq_true rfl) rfl) (Eq.trans (e_aload_n d_815_36 rfl) (Eq.trans (e_getR d_815_37 fl_8_29 sh_0 rfl) (Eq.trans (e_getR d_815_40 fl_8_198 sh_21 rfl) (Eq.trans (e_iload_n d_815_43 rfl) (Eq.trans (e_iload_n d_815_44 rfl) (Eq.trans (e_iast d_815_45 sh_23 h) (Eq.trans (e_iload_n d_815_46 rfl) (e_iret d_815_47 (q_okrI rfl))))))))))))))
theorem b816_0 {x1 x2 : Int} {σ : SS} : ev 816 0 [qR 0, qI x1, qI x2, qU] [] σ = (ev 603 0 [qR 12, qI x1] [] σ).bind (fun x => ev 816 8 [qR 0, qI x1, qI x2, qU] (q_push x.1 []) x.2) :=
  Eq.trans (e_aload_n d_816_0 rfl) (Eq.trans (e_getR d_816_1 fl_8_23 sh_0 rfl) (Eq.trans (e_iload_n d_816_4 rfl) (e_callV d_816_5 ml_8_187 fit_816_603 par_603 rfl rfl sh_12 (Nat.le_of_ble_eq_true rfl) (Nat.le_of_ble_eq_true rfl) (Nat.le_of_ble_eq_true rfl) rfl (by decide) rfl)))
theorem b816_8 {x1 x2 y0 : Int} {σ : SS} : ev 816 8 [qR 0, qI x1, qI x2, qU] [qI y0] σ = if y0 = 0 then ev 816 22 [qR 0, qI x1, qI x2, qU] [] σ else ev 816 11 [qR 0, qI x1, qI x2, qU] [] σ :=
  e_if_eq d_816_8 (by decide)
theorem b816_11 {x1 x2 : Int} {σ : SS} : ev 816 11 [qR 0, qI x1, qI x2, qU] [] σ = (ev 602 0 [qR 12, qI x2] [] σ).bind (fun x => ev 816 19 [qR 0, qI x1, qI x2, qU] (q_push x.1 []) x.2) :=
  Eq.trans (e_aload_n d_816_11 rfl) (Eq.trans (e_getR d_816_12 fl_8_23 sh_0 rfl) (Eq.trans (e_iload_n d_816_15 rfl) (e_callV d_816_16 ml_8_170 fit_816_602 par_602 rfl rfl sh_12 (Nat.le_of_ble_eq_true rfl) (Nat.le_of_ble_eq_true rfl) (Nat.le_of_ble_eq_true rfl) rfl (by decide) rfl)))
theorem b816_19 {x1 x2 y0 : Int} {σ : SS} : ev 816 19 [qR 0, qI x1, qI x2, qU] [qI y0] σ = if y0 = 0 then ev 816 22 [qR 0, qI x1, qI x2, qU] [] σ else ev 816 25 [qR 0, qI x1, qI x2, qU] [] σ :=
  e_if_ne d_816_19 (by decide)
theorem b816_22 {x1 x2 : Int} {σ : SS} : ev 816 22 [qR 0, qI x1, qI x2, qU] [] σ = some (some (qI (-1000000001)), σ) :=
  Eq.trans (e_ldc d_816_22 ld_8_174 k_m1000000001) (e_iret d_816_24 (q_okrI rfl))
theorem b816_25 {x1 x2 : Int} {σ : SS} (h : 0 ≤ x1 ∧ x1 < 6) : ev 816 25 [qR 0, qI x1, qI x2, qU] [] σ = some (some (qI (σ 22 x1.toNat)), (q_put σ 22 x1.toNat x2)) :=
  Eq.trans (e_aload_n d_816_25 rfl) (Eq.trans (e_getR d_816_26 fl_8_29 sh_0 rfl) (Eq.trans (e_getR d_816_29 fl_8_184 sh_21 rfl) (Eq.trans (e_iload_n d_816_32 rfl) (Eq.trans (e_iald d_816_33 sh_22 h) (Eq.trans (e_istore_n d_816_34 (by decide) (Nat.le_of_ble_eq_true rfl) rfl) (Eq.trans (e_aload_n d_816_35 rfl) (Eq.trans (e_getR d_816_36 fl_8_29 sh_0 rfl) (Eq.trans (e_getR d_816_39 fl_8_184 sh_21 rfl) (Eq.trans (e_iload_n d_816_42 rfl) (Eq.trans (e_iload_n d_816_43 rfl) (Eq.trans (e_iast d_816_44 sh_22 h) (Eq.trans (e_iload_n d_816_45 rfl) (e_iret d_816_46 (q_okrI rfl))))))))))))))
theorem b817_0 {x1 : Int} {σ : SS} : ev 817 0 [qR 0, qI x1, qU] [] σ = if x1 < 1 then ev 817 11 [qR 0, qI x1, qU] [] σ else ev 817 5 [qR 0, qI x1, qU] [] σ :=
  Eq.trans (e_iload_n d_817_0 rfl) (Eq.trans (e_iconst d_817_1 k_1) (e_icmp_lt d_817_2 (by decide)))
theorem b817_5 {x1 : Int} {σ : SS} : ev 817 5 [qR 0, qI x1, qU] [] σ = if 99 < x1 then ev 817 11 [qR 0, qI x1, qU] [] σ else ev 817 14 [qR 0, qI x1, qU] [] σ :=
  Eq.trans (e_iload_n d_817_5 rfl) (Eq.trans (e_bipush d_817_6 kb_99) (e_icmp_le d_817_8 (by decide)))
theorem b817_11 {x1 : Int} {σ : SS} : ev 817 11 [qR 0, qI x1, qU] [] σ = some (some (qI (-1000000002)), σ) :=
  Eq.trans (e_ldc d_817_11 ld_8_82 k_m1000000002) (e_iret d_817_13 (q_okrI rfl))
theorem b817_14 {x1 : Int} {σ : SS} : ev 817 14 [qR 0, qI x1, qU] [] σ = (ev 603 0 [qR 12, qI (σ 12 15)] [] σ).bind (fun x => ev 817 28 [qR 0, qI x1, qU] (q_push x.1 []) x.2) :=
  Eq.trans (e_aload_n d_817_14 rfl) (Eq.trans (e_getR d_817_15 fl_8_23 sh_0 rfl) (Eq.trans (e_aload_n d_817_18 rfl) (Eq.trans (e_getR d_817_19 fl_8_23 sh_0 rfl) (Eq.trans (e_getI d_817_22 fl_8_138 sh_12 rfl) (e_callV d_817_25 ml_8_187 fit_817_603 par_603 rfl rfl sh_12 (Nat.le_of_ble_eq_true rfl) (Nat.le_of_ble_eq_true rfl) (Nat.le_of_ble_eq_true rfl) rfl (by decide) rfl)))))
theorem b817_28 {x1 y0 : Int} {σ : SS} : ev 817 28 [qR 0, qI x1, qU] [qI y0] σ = if y0 = 0 then ev 817 31 [qR 0, qI x1, qU] [] σ else ev 817 34 [qR 0, qI x1, qU] [] σ :=
  e_if_ne d_817_28 (by decide)
theorem b817_31 {x1 : Int} {σ : SS} : ev 817 31 [qR 0, qI x1, qU] [] σ = some (some (qI (-1000000003)), σ) :=
  Eq.trans (e_ldc d_817_31 ld_8_222 k_m1000000003) (e_iret d_817_33 (q_okrI rfl))
theorem b817_34 {x1 : Int} {σ : SS} : ev 817 34 [qR 0, qI x1, qU] [] σ = ev 817 36 [qR 0, qI x1, qI 0] [] σ :=
  Eq.trans (e_iconst d_817_34 k_0) (e_istore_n d_817_35 (by decide) (Nat.le_of_ble_eq_true rfl) rfl)
theorem b817_36 {x1 x2 : Int} {σ : SS} : ev 817 36 [qR 0, qI x1, qI x2] [] σ = if x2 < x1 then ev 817 41 [qR 0, qI x1, qI x2] [] σ else ev 817 68 [qR 0, qI x1, qI x2] [] σ :=
  Eq.trans (e_iload_n d_817_36 rfl) (Eq.trans (e_iload_n d_817_37 rfl) (e_icmp_ge d_817_38 (by decide)))
theorem b817_41 {x1 x2 : Int} {σ : SS} : ev 817 41 [qR 0, qI x1, qI x2] [] σ = (ev 818 0 [qR 0, qU, qU, qU] [] σ).bind (fun x => ev 817 45 [qR 0, qI x1, qI x2] (q_push x.1 []) x.2) :=
  Eq.trans (e_aload_n d_817_41 rfl) (e_callV d_817_42 ml_8_237 fit_817_818 par_818 rfl rfl sh_0 (Nat.le_of_ble_eq_true rfl) (Nat.le_of_ble_eq_true rfl) (Nat.le_of_ble_eq_true rfl) rfl (by decide) rfl)
theorem b817_45 {x1 x2 : Int} {σ : SS} (h : -2147483648 ≤ ((σ 21 3) + 1) ∧ ((σ 21 3) + 1) ≤ 2147483647) : ev 817 45 [qR 0, qI x1, qI x2] [] σ = (ev 820 0 [qR 0, qU] [] (q_put σ 21 3 ((σ 21 3) + 1))).bind (fun x => ev 817 62 [qR 0, qI x1, qI x2] (q_push x.1 []) x.2) :=
  Eq.trans (e_aload_n d_817_45 rfl) (Eq.trans (e_getR d_817_46 fl_8_29 sh_0 rfl) (Eq.trans (e_dup d_817_49 rfl) (Eq.trans (e_getI d_817_50 fl_8_141 sh_21 rfl) (Eq.trans (e_iconst d_817_53 k_1) (Eq.trans (e_iadd d_817_54 h) (Eq.trans (e_put d_817_55 fl_8_141 sh_21 rfl rfl rfl) (Eq.trans (e_aload_n d_817_58 rfl) (e_callV d_817_59 ml_8_240 fit_817_820 par_820 rfl rfl sh_0 (Nat.le_of_ble_eq_true rfl) (Nat.le_of_ble_eq_true rfl) (Nat.le_of_ble_eq_true rfl) rfl (by decide) rfl))))))))
theorem b817_62 {x1 x2 : Int} {σ : SS} (h : -2147483648 ≤ (x2 + 1) ∧ (x2 + 1) ≤ 2147483647) : ev 817 62 [qR 0, qI x1, qI x2] [] σ = ev 817 36 [qR 0, qI x1, qI (x2 + 1)] [] σ :=
  Eq.trans (e_iinc d_817_62 (by decide) rfl h rfl) (e_goto d_817_65 (by decide))
theorem b817_68 {x1 x2 : Int} {σ : SS} (h : 0 ≤ (σ 12 15) ∧ (σ 12 15) < 6) : ev 817 68 [qR 0, qI x1, qI x2] [] σ = some (some (qI (σ 22 (σ 12 15).toNat)), σ) :=
  Eq.trans (e_aload_n d_817_68 rfl) (Eq.trans (e_getR d_817_69 fl_8_29 sh_0 rfl) (Eq.trans (e_getR d_817_72 fl_8_184 sh_21 rfl) (Eq.trans (e_aload_n d_817_75 rfl) (Eq.trans (e_getR d_817_76 fl_8_23 sh_0 rfl) (Eq.trans (e_getI d_817_79 fl_8_138 sh_12 rfl) (Eq.trans (e_iald d_817_82 sh_22 h) (e_iret d_817_83 (q_okrI rfl))))))))
theorem b821_0 {x1 x2 : Int} {σ : SS} : ev 821 0 [qR 0, qI x1, qI x2, qU] [] σ = (ev 603 0 [qR 12, qI x1] [] σ).bind (fun x => ev 821 8 [qR 0, qI x1, qI x2, qU] (q_push x.1 []) x.2) :=
  Eq.trans (e_aload_n d_821_0 rfl) (Eq.trans (e_getR d_821_1 fl_8_23 sh_0 rfl) (Eq.trans (e_iload_n d_821_4 rfl) (e_callV d_821_5 ml_8_187 fit_821_603 par_603 rfl rfl sh_12 (Nat.le_of_ble_eq_true rfl) (Nat.le_of_ble_eq_true rfl) (Nat.le_of_ble_eq_true rfl) rfl (by decide) rfl)))
theorem b821_8 {x1 x2 y0 : Int} {σ : SS} : ev 821 8 [qR 0, qI x1, qI x2, qU] [qI y0] σ = if y0 = 0 then ev 821 11 [qR 0, qI x1, qI x2, qU] [] σ else ev 821 14 [qR 0, qI x1, qI x2, qU] [] σ :=
  e_if_ne d_821_8 (by decide)
theorem b821_11 {x1 x2 : Int} {σ : SS} : ev 821 11 [qR 0, qI x1, qI x2, qU] [] σ = some (some (qI (-1000000001)), σ) :=
  Eq.trans (e_ldc d_821_11 ld_8_174 k_m1000000001) (e_iret d_821_13 (q_okrI rfl))
theorem b821_14 {x1 x2 : Int} {σ : SS} : ev 821 14 [qR 0, qI x1, qI x2, qU] [] σ = (ev 700 0 [qR 42, qI x1, qU, qU, qU] [] σ).bind (fun x => ev 821 22 [qR 0, qI x1, qI x2, qU] (q_push x.1 []) x.2) :=
  Eq.trans (e_aload_n d_821_14 rfl) (Eq.trans (e_getR d_821_15 fl_8_62 sh_0 rfl) (Eq.trans (e_iload_n d_821_18 rfl) (e_callV d_821_19 ml_8_255 fit_821_700 par_700 rfl rfl sh_42 (Nat.le_of_ble_eq_true rfl) (Nat.le_of_ble_eq_true rfl) (Nat.le_of_ble_eq_true rfl) rfl (by decide) rfl)))
theorem b821_22 {x1 x2 y0 : Int} {σ : SS} : ev 821 22 [qR 0, qI x1, qI x2, qU] [qI y0] σ = if x2 = (-1) then ev 821 33 [qR 0, qI x1, qI x2, qI y0] [] σ else ev 821 28 [qR 0, qI x1, qI x2, qI y0] [] σ :=
  Eq.trans (e_istore_n d_821_22 (by decide) (Nat.le_of_ble_eq_true rfl) rfl) (Eq.trans (e_iload_n d_821_23 rfl) (Eq.trans (e_iconst d_821_24 k_m1) (e_icmp_eq d_821_25 (by decide))))
theorem b821_28 {x1 x2 x3 : Int} {σ : SS} : ev 821 28 [qR 0, qI x1, qI x2, qI x3] [] σ = if x3 = (-1) then ev 821 33 [qR 0, qI x1, qI x2, qI x3] [] σ else ev 821 35 [qR 0, qI x1, qI x2, qI x3] [] σ :=
  Eq.trans (e_iload_n d_821_28 rfl) (Eq.trans (e_iconst d_821_29 k_m1) (e_icmp_ne d_821_30 (by decide)))
theorem b821_33 {x1 x2 x3 : Int} {σ : SS} : ev 821 33 [qR 0, qI x1, qI x2, qI x3] [] σ = some (some (qI x3), σ) :=
  Eq.trans (e_iload_n d_821_33 rfl) (e_iret d_821_34 (q_okrI rfl))
theorem b821_35 {x1 x2 x3 : Int} {σ : SS} : ev 821 35 [qR 0, qI x1, qI x2, qI x3] [] σ = if x2 < 0 then ev 821 44 [qR 0, qI x1, qI x2, qI x3] [] σ else ev 821 39 [qR 0, qI x1, qI x2, qI x3] [] σ :=
  Eq.trans (e_iload_n d_821_35 rfl) (e_if_lt d_821_36 (by decide))
theorem b821_39 {x1 x2 x3 : Int} {σ : SS} : ev 821 39 [qR 0, qI x1, qI x2, qI x3] [] σ = if x3 < x2 then ev 821 44 [qR 0, qI x1, qI x2, qI x3] [] σ else ev 821 48 [qR 0, qI x1, qI x2, qI x3] [] σ :=
  Eq.trans (e_iload_n d_821_39 rfl) (Eq.trans (e_iload_n d_821_40 rfl) (e_icmp_le d_821_41 (by decide)))
theorem b821_44 {x1 x2 x3 : Int} {σ : SS} : ev 821 44 [qR 0, qI x1, qI x2, qI x3] [] σ = ev 821 57 [qR 0, qI x1, qI x2, qI x3] [qI (-1)] σ :=
  Eq.trans (e_iconst d_821_44 k_m1) (e_goto d_821_45 (by decide))
theorem b821_48 {x1 x2 x3 : Int} {σ : SS} : ev 821 48 [qR 0, qI x1, qI x2, qI x3] [] σ = (ev 703 0 [qR 42, qI x2, qI x3, qU, qU] [] σ).bind (fun x => ev 821 57 [qR 0, qI x1, qI x2, qI x3] (q_push x.1 []) x.2) :=
  Eq.trans (e_aload_n d_821_48 rfl) (Eq.trans (e_getR d_821_49 fl_8_62 sh_0 rfl) (Eq.trans (e_iload_n d_821_52 rfl) (Eq.trans (e_iload_n d_821_53 rfl) (e_callV d_821_54 ml_8_258 fit_821_703 par_703 rfl rfl sh_42 (Nat.le_of_ble_eq_true rfl) (Nat.le_of_ble_eq_true rfl) (Nat.le_of_ble_eq_true rfl) rfl (by decide) rfl))))
theorem b821_57 {x1 x2 x3 y0 : Int} {σ : SS} : ev 821 57 [qR 0, qI x1, qI x2, qI x3] [qI y0] σ = some (some (qI y0), σ) :=
  e_iret d_821_57 (q_okrI rfl)
theorem b822_0 {x1 : Int} {σ : SS} : ev 822 0 [qR 0, qI x1] [] σ = if x1 < 1 then ev 822 10 [qR 0, qI x1] [] σ else ev 822 5 [qR 0, qI x1] [] σ :=
  Eq.trans (e_iload_n d_822_0 rfl) (Eq.trans (e_iconst d_822_1 k_1) (e_icmp_lt d_822_2 (by decide)))
theorem b822_5 {x1 : Int} {σ : SS} : ev 822 5 [qR 0, qI x1] [] σ = if 2 < x1 then ev 822 10 [qR 0, qI x1] [] σ else ev 822 13 [qR 0, qI x1] [] σ :=
  Eq.trans (e_iload_n d_822_5 rfl) (Eq.trans (e_iconst d_822_6 k_2) (e_icmp_le d_822_7 (by decide)))
theorem b822_10 {x1 : Int} {σ : SS} : ev 822 10 [qR 0, qI x1] [] σ = some (some (qI (-1000000002)), σ) :=
  Eq.trans (e_ldc d_822_10 ld_8_82 k_m1000000002) (e_iret d_822_12 (q_okrI rfl))
theorem b822_13 {x1 : Int} {σ : SS} : ev 822 13 [qR 0, qI x1] [] σ = if (σ 12 8) = 0 then ev 822 23 [qR 0, qI x1] [] σ else ev 822 26 [qR 0, qI x1] [] σ :=
  Eq.trans (e_aload_n d_822_13 rfl) (Eq.trans (e_getR d_822_14 fl_8_23 sh_0 rfl) (Eq.trans (e_getI d_822_17 fl_8_120 sh_12 rfl) (e_if_ne d_822_20 (by decide))))
theorem b822_23 {x1 : Int} {σ : SS} : ev 822 23 [qR 0, qI x1] [] σ = some (some (qI (-1000000003)), σ) :=
  Eq.trans (e_ldc d_822_23 ld_8_222 k_m1000000003) (e_iret d_822_25 (q_okrI rfl))
theorem b822_26 {x1 : Int} {σ : SS} : ev 822 26 [qR 0, qI x1] [] σ = if x1 = 1 then ev 822 35 [qR 0, qI x1] [qR 44] σ else ev 822 39 [qR 0, qI x1] [qR 44] σ :=
  Eq.trans (e_aload_n d_822_26 rfl) (Eq.trans (e_getR d_822_27 fl_8_71 sh_0 rfl) (Eq.trans (e_iload_n d_822_30 rfl) (Eq.trans (e_iconst d_822_31 k_1) (e_icmp_ne d_822_32 (by decide)))))
theorem b822_35 {x1 : Int} {σ : SS} : ev 822 35 [qR 0, qI x1] [qR 44] σ = ev 822 40 [qR 0, qI x1] [qI 1, qR 44] σ :=
  Eq.trans (e_iconst d_822_35 k_1) (e_goto d_822_36 (by decide))
theorem b822_39 {x1 : Int} {σ : SS} : ev 822 39 [qR 0, qI x1] [qR 44] σ = ev 822 40 [qR 0, qI x1] [qI 0, qR 44] σ :=
  e_iconst d_822_39 k_0
theorem b822_40 {x1 y0 : Int} {σ : SS} : ev 822 40 [qR 0, qI x1] [qI y0, qR 44] σ = (ev 100 0 [qR 44, qI y0, qU, qU] [] σ).bind (fun x => ev 822 43 [qR 0, qI x1] (q_push x.1 []) x.2) :=
  e_callV d_822_40 ml_8_261 fit_822_100 par_100 rfl rfl sh_44 (Nat.le_of_ble_eq_true rfl) (Nat.le_of_ble_eq_true rfl) (Nat.le_of_ble_eq_true rfl) rfl (by decide) rfl
theorem b822_43 {x1 y0 : Int} {σ : SS} : ev 822 43 [qR 0, qI x1] [qI y0] σ = some (some (qI y0), σ) :=
  e_iret d_822_43 (q_okrI rfl)
theorem b823_0 {σ : SS} : ev 823 0 [qR 0] [] σ = if (σ 12 8) = 0 then ev 823 10 [qR 0] [] σ else ev 823 12 [qR 0] [] σ :=
  Eq.trans (e_aload_n d_823_0 rfl) (Eq.trans (e_getR d_823_1 fl_8_23 sh_0 rfl) (Eq.trans (e_getI d_823_4 fl_8_120 sh_12 rfl) (e_if_ne d_823_7 (by decide))))
theorem b823_10 {σ : SS} : ev 823 10 [qR 0] [] σ = some (some (qI (-1)), σ) :=
  Eq.trans (e_iconst d_823_10 k_m1) (e_iret d_823_11 (q_okrI rfl))
theorem b823_12 {σ : SS} : ev 823 12 [qR 0] [] σ = (ev 100 0 [qR 44, qI 1, qU, qU] [] σ).bind (fun x => ev 823 20 [qR 0] (q_push x.1 []) x.2) :=
  Eq.trans (e_aload_n d_823_12 rfl) (Eq.trans (e_getR d_823_13 fl_8_71 sh_0 rfl) (Eq.trans (e_iconst d_823_16 k_1) (e_callV d_823_17 ml_8_261 fit_823_100 par_100 rfl rfl sh_44 (Nat.le_of_ble_eq_true rfl) (Nat.le_of_ble_eq_true rfl) (Nat.le_of_ble_eq_true rfl) rfl (by decide) rfl)))
theorem b823_20 {y0 : Int} {σ : SS} : ev 823 20 [qR 0] [qI y0] σ = if y0 = (-1) then ev 823 26 [qR 0] [] σ else ev 823 24 [qR 0] [] σ :=
  Eq.trans (e_iconst d_823_20 k_m1) (e_icmp_eq d_823_21 (by decide))
theorem b823_24 {σ : SS} : ev 823 24 [qR 0] [] σ = some (some (qI 1), σ) :=
  Eq.trans (e_iconst d_823_24 k_1) (e_iret d_823_25 (q_okrI rfl))
theorem b823_26 {σ : SS} : ev 823 26 [qR 0] [] σ = (ev 100 0 [qR 44, qI 0, qU, qU] [] σ).bind (fun x => ev 823 34 [qR 0] (q_push x.1 []) x.2) :=
  Eq.trans (e_aload_n d_823_26 rfl) (Eq.trans (e_getR d_823_27 fl_8_71 sh_0 rfl) (Eq.trans (e_iconst d_823_30 k_0) (e_callV d_823_31 ml_8_261 fit_823_100 par_100 rfl rfl sh_44 (Nat.le_of_ble_eq_true rfl) (Nat.le_of_ble_eq_true rfl) (Nat.le_of_ble_eq_true rfl) rfl (by decide) rfl)))
theorem b823_34 {y0 : Int} {σ : SS} : ev 823 34 [qR 0] [qI y0] σ = if y0 = (-1) then ev 823 42 [qR 0] [] σ else ev 823 38 [qR 0] [] σ :=
  Eq.trans (e_iconst d_823_34 k_m1) (e_icmp_eq d_823_35 (by decide))
theorem b823_38 {σ : SS} : ev 823 38 [qR 0] [] σ = ev 823 43 [qR 0] [qI 2] σ :=
  Eq.trans (e_iconst d_823_38 k_2) (e_goto d_823_39 (by decide))
theorem b823_42 {σ : SS} : ev 823 42 [qR 0] [] σ = ev 823 43 [qR 0] [qI (-1)] σ :=
  e_iconst d_823_42 k_m1
theorem b823_43 {y0 : Int} {σ : SS} : ev 823 43 [qR 0] [qI y0] σ = some (some (qI y0), σ) :=
  e_iret d_823_43 (q_okrI rfl)
theorem b824_0 {x1 x2 : Int} {σ : SS} : ev 824 0 [qR 0, qI x1, qI x2, qU, qU] [] σ = (ev 603 0 [qR 12, qI x1] [] σ).bind (fun x => ev 824 8 [qR 0, qI x1, qI x2, qU, qU] (q_push x.1 []) x.2) :=
  Eq.trans (e_aload_n d_824_0 rfl) (Eq.trans (e_getR d_824_1 fl_8_23 sh_0 rfl) (Eq.trans (e_iload_n d_824_4 rfl) (e_callV d_824_5 ml_8_187 fit_824_603 par_603 rfl rfl sh_12 (Nat.le_of_ble_eq_true rfl) (Nat.le_of_ble_eq_true rfl) (Nat.le_of_ble_eq_true rfl) rfl (by decide) rfl)))
theorem b824_8 {x1 x2 y0 : Int} {σ : SS} : ev 824 8 [qR 0, qI x1, qI x2, qU, qU] [qI y0] σ = if y0 = 0 then ev 824 11 [qR 0, qI x1, qI x2, qU, qU] [] σ else ev 824 14 [qR 0, qI x1, qI x2, qU, qU] [] σ :=
  e_if_ne d_824_8 (by decide)
theorem b824_11 {x1 x2 : Int} {σ : SS} : ev 824 11 [qR 0, qI x1, qI x2, qU, qU] [] σ = some (some (qI (-1000000001)), σ) :=
  Eq.trans (e_ldc d_824_11 ld_8_174 k_m1000000001) (e_iret d_824_13 (q_okrI rfl))
theorem b824_14 {x1 x2 : Int} {σ : SS} : ev 824 14 [qR 0, qI x1, qI x2, qU, qU] [] σ = if x2 < 0 then ev 824 23 [qR 0, qI x1, qI x2, qU, qU] [] σ else ev 824 18 [qR 0, qI x1, qI x2, qU, qU] [] σ :=
  Eq.trans (e_iload_n d_824_14 rfl) (e_if_lt d_824_15 (by decide))
theorem b824_18 {x1 x2 : Int} {σ : SS} : ev 824 18 [qR 0, qI x1, qI x2, qU, qU] [] σ = if 1 < x2 then ev 824 23 [qR 0, qI x1, qI x2, qU, qU] [] σ else ev 824 26 [qR 0, qI x1, qI x2, qU, qU] [] σ :=
  Eq.trans (e_iload_n d_824_18 rfl) (Eq.trans (e_iconst d_824_19 k_1) (e_icmp_le d_824_20 (by decide)))
theorem b824_23 {x1 x2 : Int} {σ : SS} : ev 824 23 [qR 0, qI x1, qI x2, qU, qU] [] σ = some (some (qI (-1000000002)), σ) :=
  Eq.trans (e_ldc d_824_23 ld_8_82 k_m1000000002) (e_iret d_824_25 (q_okrI rfl))
theorem b824_26 {x1 x2 : Int} {σ : SS} : ev 824 26 [qR 0, qI x1, qI x2, qU, qU] [] σ = ev 824 28 [qR 0, qI x1, qI x2, qI 0, qU] [] σ :=
  Eq.trans (e_iconst d_824_26 k_0) (e_istore_n d_824_27 (by decide) (Nat.le_of_ble_eq_true rfl) rfl)
theorem b824_28 {x1 x2 x3 : Int} {vx4 : AV} {σ : SS} : ev 824 28 [qR 0, qI x1, qI x2, qI x3, vx4] [] σ = if x3 < 24 then ev 824 34 [qR 0, qI x1, qI x2, qI x3, vx4] [] σ else ev 824 80 [qR 0, qI x1, qI x2, qI x3, vx4] [] σ :=
  Eq.trans (e_iload_n d_824_28 rfl) (Eq.trans (e_bipush d_824_29 kb_24) (e_icmp_ge d_824_31 (by decide)))
theorem b824_34 {x1 x2 x3 : Int} {vx4 : AV} {σ : SS} (h : -2147483648 ≤ (x3 + 1) ∧ (x3 + 1) ≤ 2147483647) : ev 824 34 [qR 0, qI x1, qI x2, qI x3, vx4] [] σ = ev 824 39 [qR 0, qI x1, qI x2, qI x3, qI (x3 + 1)] [] σ :=
  Eq.trans (e_iload_n d_824_34 rfl) (Eq.trans (e_iconst d_824_35 k_1) (Eq.trans (e_iadd d_824_36 h) (e_istore d_824_37 (by decide) (Nat.le_of_ble_eq_true rfl) rfl)))
theorem b824_39 {x1 x2 x3 x4 : Int} {σ : SS} : ev 824 39 [qR 0, qI x1, qI x2, qI x3, qI x4] [] σ = if x4 < 24 then ev 824 46 [qR 0, qI x1, qI x2, qI x3, qI x4] [] σ else ev 824 74 [qR 0, qI x1, qI x2, qI x3, qI x4] [] σ :=
  Eq.trans (e_iload d_824_39 rfl) (Eq.trans (e_bipush d_824_41 kb_24) (e_icmp_ge d_824_43 (by decide)))
theorem b824_46 {x1 x2 x3 x4 : Int} {σ : SS} : ev 824 46 [qR 0, qI x1, qI x2, qI x3, qI x4] [] σ = (ev 825 0 [qR 0, qI x1, qI x3, qI x4, qU] [] σ).bind (fun x => ev 824 54 [qR 0, qI x1, qI x2, qI x3, qI x4] (q_push x.1 []) x.2) :=
  Eq.trans (e_aload_n d_824_46 rfl) (Eq.trans (e_iload_n d_824_47 rfl) (Eq.trans (e_iload_n d_824_48 rfl) (Eq.trans (e_iload d_824_49 rfl) (e_callV d_824_51 ml_8_265 fit_824_825 par_825 rfl rfl sh_0 (Nat.le_of_ble_eq_true rfl) (Nat.le_of_ble_eq_true rfl) (Nat.le_of_ble_eq_true rfl) rfl (by decide) rfl))))
theorem b824_54 {x1 x2 x3 x4 y0 : Int} {σ : SS} : ev 824 54 [qR 0, qI x1, qI x2, qI x3, qI x4] [qI y0] σ = if y0 = 0 then ev 824 68 [qR 0, qI x1, qI x2, qI x3, qI x4] [] σ else ev 824 57 [qR 0, qI x1, qI x2, qI x3, qI x4] [] σ :=
  e_if_eq d_824_54 (by decide)
theorem b824_57 {x1 x2 x3 x4 : Int} {σ : SS} : ev 824 57 [qR 0, qI x1, qI x2, qI x3, qI x4] [] σ = if x2 = 0 then ev 824 61 [qR 0, qI x1, qI x2, qI x3, qI x4] [] σ else ev 824 65 [qR 0, qI x1, qI x2, qI x3, qI x4] [] σ :=
  Eq.trans (e_iload_n d_824_57 rfl) (e_if_ne d_824_58 (by decide))
theorem b824_61 {x1 x2 x3 x4 : Int} {σ : SS} : ev 824 61 [qR 0, qI x1, qI x2, qI x3, qI x4] [] σ = ev 824 67 [qR 0, qI x1, qI x2, qI x3, qI x4] [qI x3] σ :=
  Eq.trans (e_iload_n d_824_61 rfl) (e_goto d_824_62 (by decide))
theorem b824_65 {x1 x2 x3 x4 : Int} {σ : SS} : ev 824 65 [qR 0, qI x1, qI x2, qI x3, qI x4] [] σ = ev 824 67 [qR 0, qI x1, qI x2, qI x3, qI x4] [qI x4] σ :=
  e_iload d_824_65 rfl
theorem b824_67 {x1 x2 x3 x4 y0 : Int} {σ : SS} : ev 824 67 [qR 0, qI x1, qI x2, qI x3, qI x4] [qI y0] σ = some (some (qI y0), σ) :=
  e_iret d_824_67 (q_okrI rfl)
theorem b824_68 {x1 x2 x3 x4 : Int} {σ : SS} (h : -2147483648 ≤ (x4 + 1) ∧ (x4 + 1) ≤ 2147483647) : ev 824 68 [qR 0, qI x1, qI x2, qI x3, qI x4] [] σ = ev 824 39 [qR 0, qI x1, qI x2, qI x3, qI (x4 + 1)] [] σ :=
  Eq.trans (e_iinc d_824_68 (by decide) rfl h rfl) (e_goto d_824_71 (by decide))
theorem b824_74 {x1 x2 x3 x4 : Int} {σ : SS} (h : -2147483648 ≤ (x3 + 1) ∧ (x3 + 1) ≤ 2147483647) : ev 824 74 [qR 0, qI x1, qI x2, qI x3, qI x4] [] σ = ev 824 28 [qR 0, qI x1, qI x2, qI (x3 + 1), qI x4] [] σ :=
  Eq.trans (e_iinc d_824_74 (by decide) rfl h rfl) (e_goto d_824_77 (by decide))
theorem b824_80 {x1 x2 x3 : Int} {vx4 : AV} {σ : SS} : ev 824 80 [qR 0, qI x1, qI x2, qI x3, vx4] [] σ = some (some (qI (-1)), σ) :=
  Eq.trans (e_iconst d_824_80 k_m1) (e_iret d_824_81 (q_okrI rfl))
theorem b826_0 {x1 x2 x3 : Int} {σ : SS} : ev 826 0 [qR 0, qI x1, qI x2, qI x3] [] σ = (ev 603 0 [qR 12, qI x1] [] σ).bind (fun x => ev 826 8 [qR 0, qI x1, qI x2, qI x3] (q_push x.1 []) x.2) :=
  Eq.trans (e_aload_n d_826_0 rfl) (Eq.trans (e_getR d_826_1 fl_8_23 sh_0 rfl) (Eq.trans (e_iload_n d_826_4 rfl) (e_callV d_826_5 ml_8_187 fit_826_603 par_603 rfl rfl sh_12 (Nat.le_of_ble_eq_true rfl) (Nat.le_of_ble_eq_true rfl) (Nat.le_of_ble_eq_true rfl) rfl (by decide) rfl)))
theorem b826_8 {x1 x2 x3 y0 : Int} {σ : SS} : ev 826 8 [qR 0, qI x1, qI x2, qI x3] [qI y0] σ = if y0 = 0 then ev 826 11 [qR 0, qI x1, qI x2, qI x3] [] σ else ev 826 14 [qR 0, qI x1, qI x2, qI x3] [] σ :=
  e_if_ne d_826_8 (by decide)
theorem b826_11 {x1 x2 x3 : Int} {σ : SS} : ev 826 11 [qR 0, qI x1, qI x2, qI x3] [] σ = some (some (qI (-1000000001)), σ) :=
  Eq.trans (e_ldc d_826_11 ld_8_174 k_m1000000001) (e_iret d_826_13 (q_okrI rfl))
theorem b826_14 {x1 x2 x3 : Int} {σ : SS} : ev 826 14 [qR 0, qI x1, qI x2, qI x3] [] σ = (ev 849 0 [qI x2] [] σ).bind (fun x => ev 826 18 [qR 0, qI x1, qI x2, qI x3] (q_push x.1 []) x.2) :=
  Eq.trans (e_iload_n d_826_14 rfl) (e_callS d_826_15 (by decide) ml_8_275 fit_826_849 par_849 rfl rfl (Nat.le_of_ble_eq_true rfl) (Nat.le_of_ble_eq_true rfl) (Nat.le_of_ble_eq_true rfl) rfl (by decide) rfl)
theorem b826_18 {x1 x2 x3 y0 : Int} {σ : SS} : ev 826 18 [qR 0, qI x1, qI x2, qI x3] [qI y0] σ = if y0 = 0 then ev 826 28 [qR 0, qI x1, qI x2, qI x3] [] σ else ev 826 21 [qR 0, qI x1, qI x2, qI x3] [] σ :=
  e_if_eq d_826_18 (by decide)
theorem b826_21 {x1 x2 x3 : Int} {σ : SS} : ev 826 21 [qR 0, qI x1, qI x2, qI x3] [] σ = (ev 849 0 [qI x3] [] σ).bind (fun x => ev 826 25 [qR 0, qI x1, qI x2, qI x3] (q_push x.1 []) x.2) :=
  Eq.trans (e_iload_n d_826_21 rfl) (e_callS d_826_22 (by decide) ml_8_275 fit_826_849 par_849 rfl rfl (Nat.le_of_ble_eq_true rfl) (Nat.le_of_ble_eq_true rfl) (Nat.le_of_ble_eq_true rfl) rfl (by decide) rfl)
theorem b826_25 {x1 x2 x3 y0 : Int} {σ : SS} : ev 826 25 [qR 0, qI x1, qI x2, qI x3] [qI y0] σ = if y0 = 0 then ev 826 28 [qR 0, qI x1, qI x2, qI x3] [] σ else ev 826 31 [qR 0, qI x1, qI x2, qI x3] [] σ :=
  e_if_ne d_826_25 (by decide)
theorem b826_28 {x1 x2 x3 : Int} {σ : SS} : ev 826 28 [qR 0, qI x1, qI x2, qI x3] [] σ = some (some (qI (-1000000002)), σ) :=
  Eq.trans (e_ldc d_826_28 ld_8_82 k_m1000000002) (e_iret d_826_30 (q_okrI rfl))
theorem b826_31 {x1 x2 x3 : Int} {σ : SS} : ev 826 31 [qR 0, qI x1, qI x2, qI x3] [] σ = (ev 211 0 [qR 34, qI x1, qI x2, qI x3, qU, qU, qU] [] σ).bind (fun x => ev 826 41 [qR 0, qI x1, qI x2, qI x3] (q_push x.1 []) x.2) :=
  Eq.trans (e_aload_n d_826_31 rfl) (Eq.trans (e_getR d_826_32 fl_8_46 sh_0 rfl) (Eq.trans (e_iload_n d_826_35 rfl) (Eq.trans (e_iload_n d_826_36 rfl) (Eq.trans (e_iload_n d_826_37 rfl) (e_callV d_826_38 ml_8_272 fit_826_211 par_211 rfl rfl sh_34 (Nat.le_of_ble_eq_true rfl) (Nat.le_of_ble_eq_true rfl) (Nat.le_of_ble_eq_true rfl) rfl (by decide) rfl)))))
theorem b826_41 {x1 x2 x3 y0 : Int} {σ : SS} : ev 826 41 [qR 0, qI x1, qI x2, qI x3] [qI y0] σ = some (some (qI y0), σ) :=
  e_iret d_826_41 (q_okrI rfl)
theorem b827_0 {x1 x2 : Int} {σ : SS} : ev 827 0 [qR 0, qI x1, qI x2] [] σ = (ev 829 0 [qR 0, qI x1, qI x2] [] σ).bind (fun x => ev 827 6 [qR 0, qI x1, qI x2] (q_push x.1 []) x.2) :=
  Eq.trans (e_aload_n d_827_0 rfl) (Eq.trans (e_iload_n d_827_1 rfl) (Eq.trans (e_iload_n d_827_2 rfl) (e_callV d_827_3 ml_8_278 fit_827_829 par_829 rfl rfl sh_0 (Nat.le_of_ble_eq_true rfl) (Nat.le_of_ble_eq_true rfl) (Nat.le_of_ble_eq_true rfl) rfl (by decide) rfl)))
theorem b827_6 {x1 x2 y0 : Int} {σ : SS} : ev 827 6 [qR 0, qI x1, qI x2] [qI y0] σ = if y0 = 0 then ev 827 9 [qR 0, qI x1, qI x2] [] σ else ev 827 12 [qR 0, qI x1, qI x2] [] σ :=
  e_if_ne d_827_6 (by decide)
theorem b827_9 {x1 x2 : Int} {σ : SS} : ev 827 9 [qR 0, qI x1, qI x2] [] σ = some (some (qI (-1000000001)), σ) :=
  Eq.trans (e_ldc d_827_9 ld_8_174 k_m1000000001) (e_iret d_827_11 (q_okrI rfl))
theorem b827_12 {x1 x2 : Int} {σ : SS} : ev 827 12 [qR 0, qI x1, qI x2] [] σ = (ev 209 0 [qR 34, qI x1, qU, qU, qU] [] σ).bind (fun x => ev 827 20 [qR 0, qI x1, qI x2] (q_push x.1 []) x.2) :=
  Eq.trans (e_aload_n d_827_12 rfl) (Eq.trans (e_getR d_827_13 fl_8_46 sh_0 rfl) (Eq.trans (e_iload_n d_827_16 rfl) (e_callV d_827_17 ml_8_281 fit_827_209 par_209 rfl rfl sh_34 (Nat.le_of_ble_eq_true rfl) (Nat.le_of_ble_eq_true rfl) (Nat.le_of_ble_eq_true rfl) rfl (by decide) rfl)))
theorem b827_20 {x1 x2 y0 : Int} {σ : SS} : ev 827 20 [qR 0, qI x1, qI x2] [qI y0] σ = (ev 209 0 [qR 34, qI x2, qU, qU, qU] [] σ).bind (fun x => ev 827 28 [qR 0, qI x1, qI x2] (q_push x.1 [qI y0]) x.2) :=
  Eq.trans (e_aload_n d_827_20 rfl) (Eq.trans (e_getR d_827_21 fl_8_46 sh_0 rfl) (Eq.trans (e_iload_n d_827_24 rfl) (e_callV d_827_25 ml_8_281 fit_827_209 par_209 rfl rfl sh_34 (Nat.le_of_ble_eq_true rfl) (Nat.le_of_ble_eq_true rfl) (Nat.le_of_ble_eq_true rfl) rfl (by decide) rfl)))
theorem b827_28 {x1 x2 y0 y1 : Int} {σ : SS} : ev 827 28 [qR 0, qI x1, qI x2] [qI y0, qI y1] σ = some (some (qI (q_xor y1 y0)), σ) :=
  Eq.trans (e_ixor d_827_28) (e_iret d_827_29 (q_okrI rfl))
theorem b828_0 {x1 x2 x3 : Int} {σ : SS} : ev 828 0 [qR 0, qI x1, qI x2, qI x3] [] σ = (ev 829 0 [qR 0, qI x1, qI x2] [] σ).bind (fun x => ev 828 6 [qR 0, qI x1, qI x2, qI x3] (q_push x.1 []) x.2) :=
  Eq.trans (e_aload_n d_828_0 rfl) (Eq.trans (e_iload_n d_828_1 rfl) (Eq.trans (e_iload_n d_828_2 rfl) (e_callV d_828_3 ml_8_278 fit_828_829 par_829 rfl rfl sh_0 (Nat.le_of_ble_eq_true rfl) (Nat.le_of_ble_eq_true rfl) (Nat.le_of_ble_eq_true rfl) rfl (by decide) rfl)))
theorem b828_6 {x1 x2 x3 y0 : Int} {σ : SS} : ev 828 6 [qR 0, qI x1, qI x2, qI x3] [qI y0] σ = if y0 = 0 then ev 828 9 [qR 0, qI x1, qI x2, qI x3] [] σ else ev 828 12 [qR 0, qI x1, qI x2, qI x3] [] σ :=
  e_if_ne d_828_6 (by decide)
theorem b828_9 {x1 x2 x3 : Int} {σ : SS} : ev 828 9 [qR 0, qI x1, qI x2, qI x3] [] σ = some (some (qI (-1000000001)), σ) :=
  Eq.trans (e_ldc d_828_9 ld_8_174 k_m1000000001) (e_iret d_828_11 (q_okrI rfl))
theorem b828_12 {x1 x2 x3 : Int} {σ : SS} : ev 828 12 [qR 0, qI x1, qI x2, qI x3] [] σ = (ev 849 0 [qI x3] [] σ).bind (fun x => ev 828 16 [qR 0, qI x1, qI x2, qI x3] (q_push x.1 []) x.2) :=
  Eq.trans (e_iload_n d_828_12 rfl) (e_callS d_828_13 (by decide) ml_8_275 fit_828_849 par_849 rfl rfl (Nat.le_of_ble_eq_true rfl) (Nat.le_of_ble_eq_true rfl) (Nat.le_of_ble_eq_true rfl) rfl (by decide) rfl)
theorem b828_16 {x1 x2 x3 y0 : Int} {σ : SS} : ev 828 16 [qR 0, qI x1, qI x2, qI x3] [qI y0] σ = if y0 = 0 then ev 828 19 [qR 0, qI x1, qI x2, qI x3] [] σ else ev 828 22 [qR 0, qI x1, qI x2, qI x3] [] σ :=
  e_if_ne d_828_16 (by decide)
theorem b828_19 {x1 x2 x3 : Int} {σ : SS} : ev 828 19 [qR 0, qI x1, qI x2, qI x3] [] σ = some (some (qI (-1000000002)), σ) :=
  Eq.trans (e_ldc d_828_19 ld_8_82 k_m1000000002) (e_iret d_828_21 (q_okrI rfl))
theorem b828_22 {x1 x2 x3 : Int} {σ : SS} : ev 828 22 [qR 0, qI x1, qI x2, qI x3] [] σ = (ev 203 0 [qR 34, qI x1, qI x3] [] σ).bind (fun x => ev 828 35 [qR 0, qI x1, qI x2, qI x3] (q_push x.1 [qR 34]) x.2) :=
  Eq.trans (e_aload_n d_828_22 rfl) (Eq.trans (e_getR d_828_23 fl_8_46 sh_0 rfl) (Eq.trans (e_aload_n d_828_26 rfl) (Eq.trans (e_getR d_828_27 fl_8_46 sh_0 rfl) (Eq.trans (e_iload_n d_828_30 rfl) (Eq.trans (e_iload_n d_828_31 rfl) (e_callV d_828_32 ml_8_284 fit_828_203 par_203 rfl rfl sh_34 (Nat.le_of_ble_eq_true rfl) (Nat.le_of_ble_eq_true rfl) (Nat.le_of_ble_eq_true rfl) rfl (by decide) rfl))))))
theorem b828_35 {x1 x2 x3 y0 : Int} {σ : SS} : ev 828 35 [qR 0, qI x1, qI x2, qI x3] [qI y0, qR 34] σ = (ev 203 0 [qR 34, qI x2, qI x3] [] σ).bind (fun x => ev 828 44 [qR 0, qI x1, qI x2, qI x3] (q_push x.1 [qI y0, qR 34]) x.2) :=
  Eq.trans (e_aload_n d_828_35 rfl) (Eq.trans (e_getR d_828_36 fl_8_46 sh_0 rfl) (Eq.trans (e_iload_n d_828_39 rfl) (Eq.trans (e_iload_n d_828_40 rfl) (e_callV d_828_41 ml_8_284 fit_828_203 par_203 rfl rfl sh_34 (Nat.le_of_ble_eq_true rfl) (Nat.le_of_ble_eq_true rfl) (Nat.le_of_ble_eq_true rfl) rfl (by decide) rfl))))
theorem b828_44 {x1 x2 x3 y0 y1 : Int} {σ : SS} : ev 828 44 [qR 0, qI x1, qI x2, qI x3] [qI y0, qI y1, qR 34] σ = (ev 212 0 [qR 34, qI y1, qI y0, qU, qU, qU, qU] [] σ).bind (fun x => ev 828 47 [qR 0, qI x1, qI x2, qI x3] (q_push x.1 []) x.2) :=
  e_callV d_828_44 ml_8_287 fit_828_212 par_212 rfl rfl sh_34 (Nat.le_of_ble_eq_true rfl) (Nat.le_of_ble_eq_true rfl) (Nat.le_of_ble_eq_true rfl) rfl (by decide) rfl
theorem b828_47 {x1 x2 x3 y0 : Int} {σ : SS} : ev 828 47 [qR 0, qI x1, qI x2, qI x3] [qI y0] σ = some (some (qI y0), σ) :=
  e_iret d_828_47 (q_okrI rfl)
theorem b830_0 {x1 x2 : Int} {σ : SS} : ev 830 0 [qR 0, qI x1, qI x2, qU] [] σ = if x1 = 2 then ev 830 5 [qR 0, qI x1, qI x2, qU] [] σ else ev 830 19 [qR 0, qI x1, qI x2, qU] [] σ :=
  Eq.trans (e_iload_n d_830_0 rfl) (Eq.trans (e_iconst d_830_1 k_2) (e_icmp_ne d_830_2 (by decide)))
theorem b830_5 {x1 x2 : Int} {σ : SS} : ev 830 5 [qR 0, qI x1, qI x2, qU] [] σ = (ev 603 0 [qR 12, qI x2] [] σ).bind (fun x => ev 830 13 [qR 0, qI x1, qI x2, qU] (q_push x.1 []) x.2) :=
  Eq.trans (e_aload_n d_830_5 rfl) (Eq.trans (e_getR d_830_6 fl_8_23 sh_0 rfl) (Eq.trans (e_iload_n d_830_9 rfl) (e_callV d_830_10 ml_8_187 fit_830_603 par_603 rfl rfl sh_12 (Nat.le_of_ble_eq_true rfl) (Nat.le_of_ble_eq_true rfl) (Nat.le_of_ble_eq_true rfl) rfl (by decide) rfl)))
theorem b830_13 {x1 x2 y0 : Int} {σ : SS} : ev 830 13 [qR 0, qI x1, qI x2, qU] [qI y0] σ = if y0 = 0 then ev 830 16 [qR 0, qI x1, qI x2, qU] [] σ else ev 830 19 [qR 0, qI x1, qI x2, qU] [] σ :=
  e_if_ne d_830_13 (by decide)
theorem b830_16 {x1 x2 : Int} {σ : SS} : ev 830 16 [qR 0, qI x1, qI x2, qU] [] σ = some (some (qI (-1000000001)), σ) :=
  Eq.trans (e_ldc d_830_16 ld_8_174 k_m1000000001) (e_iret d_830_18 (q_okrI rfl))
theorem b830_19 {x1 x2 : Int} {σ : SS} : ev 830 19 [qR 0, qI x1, qI x2, qU] [] σ = if x1 < 0 then ev 830 28 [qR 0, qI x1, qI x2, qU] [] σ else ev 830 23 [qR 0, qI x1, qI x2, qU] [] σ :=
  Eq.trans (e_iload_n d_830_19 rfl) (e_if_lt d_830_20 (by decide))
theorem b830_23 {x1 x2 : Int} {σ : SS} : ev 830 23 [qR 0, qI x1, qI x2, qU] [] σ = if 2 < x1 then ev 830 28 [qR 0, qI x1, qI x2, qU] [] σ else ev 830 31 [qR 0, qI x1, qI x2, qU] [] σ :=
  Eq.trans (e_iload_n d_830_23 rfl) (Eq.trans (e_iconst d_830_24 k_2) (e_icmp_le d_830_25 (by decide)))
theorem b830_28 {x1 x2 : Int} {σ : SS} : ev 830 28 [qR 0, qI x1, qI x2, qU] [] σ = some (some (qI (-1000000002)), σ) :=
  Eq.trans (e_ldc d_830_28 ld_8_82 k_m1000000002) (e_iret d_830_30 (q_okrI rfl))
theorem b830_31 {x1 x2 : Int} {σ : SS} : ev 830 31 [qR 0, qI x1, qI x2, qU] [] σ = (ev 0 0 [qR 47, qU] [] σ).bind (fun x => ev 830 38 [qR 0, qI x1, qI x2, qU] (q_push x.1 []) x.2) :=
  Eq.trans (e_aload_n d_830_31 rfl) (Eq.trans (e_getR d_830_32 fl_8_78 sh_0 rfl) (e_callV d_830_35 ml_8_290 fit_830_0 par_0 rfl rfl sh_47 (Nat.le_of_ble_eq_true rfl) (Nat.le_of_ble_eq_true rfl) (Nat.le_of_ble_eq_true rfl) rfl (by decide) rfl))
theorem b830_38 {x1 x2 y0 : Int} {σ : SS} : ev 830 38 [qR 0, qI x1, qI x2, qU] [qI y0] σ = if x1 = 0 then ev 830 43 [qR 0, qI x1, qI x2, qI y0] [] σ else ev 830 45 [qR 0, qI x1, qI x2, qI y0] [] σ :=
  Eq.trans (e_istore_n d_830_38 (by decide) (Nat.le_of_ble_eq_true rfl) rfl) (Eq.trans (e_iload_n d_830_39 rfl) (e_if_ne d_830_40 (by decide)))
theorem b830_43 {x1 x2 x3 : Int} {σ : SS} : ev 830 43 [qR 0, qI x1, qI x2, qI x3] [] σ = some (some (qI x3), σ) :=
  Eq.trans (e_iload_n d_830_43 rfl) (e_iret d_830_44 (q_okrI rfl))
theorem b830_45 {x1 x2 x3 : Int} {σ : SS} : ev 830 45 [qR 0, qI x1, qI x2, qI x3] [] σ = if x1 = 1 then ev 830 50 [qR 0, qI x1, qI x2, qI x3] [] σ else ev 830 60 [qR 0, qI x1, qI x2, qI x3] [] σ :=
  Eq.trans (e_iload_n d_830_45 rfl) (Eq.trans (e_iconst d_830_46 k_1) (e_icmp_ne d_830_47 (by decide)))
theorem b830_50 {x1 x2 x3 : Int} {σ : SS} : ev 830 50 [qR 0, qI x1, qI x2, qI x3] [] σ = (ev 3 0 [qR 47, qU, qU, qU] [] σ).bind (fun x => ev 830 57 [qR 0, qI x1, qI x2, qI x3] (q_push x.1 []) x.2) :=
  Eq.trans (e_aload_n d_830_50 rfl) (Eq.trans (e_getR d_830_51 fl_8_78 sh_0 rfl) (e_callV d_830_54 ml_8_293 fit_830_3 par_3 rfl rfl sh_47 (Nat.le_of_ble_eq_true rfl) (Nat.le_of_ble_eq_true rfl) (Nat.le_of_ble_eq_true rfl) rfl (by decide) rfl))
theorem b830_57 {x1 x2 x3 y0 : Int} {σ : SS} : ev 830 57 [qR 0, qI x1, qI x2, qI x3] [qI y0] σ = ev 830 69 [qR 0, qI x1, qI x2, qI x3] [qI y0] σ :=
  e_goto d_830_57 (by decide)
theorem b830_60 {x1 x2 x3 : Int} {σ : SS} (h : 0 ≤ x2 ∧ x2 < 6) : ev 830 60 [qR 0, qI x1, qI x2, qI x3] [] σ = ev 830 69 [qR 0, qI x1, qI x2, qI x3] [qI (σ 48 x2.toNat)] σ :=
  Eq.trans (e_aload_n d_830_60 rfl) (Eq.trans (e_getR d_830_61 fl_8_78 sh_0 rfl) (Eq.trans (e_getR d_830_64 fl_8_296 sh_47 rfl) (Eq.trans (e_iload_n d_830_67 rfl) (e_iald d_830_68 sh_48 h))))
theorem b830_69 {x1 x2 x3 y0 : Int} {σ : SS} : ev 830 69 [qR 0, qI x1, qI x2, qI x3] [qI y0] σ = some (some (qI y0), σ) :=
  e_iret d_830_69 (q_okrI rfl)
theorem b831_0 {x1 x2 x3 : Int} {σ : SS} : ev 831 0 [qR 0, qI x1, qI x2, qI x3, qU, qU, qU] [] σ = (ev 603 0 [qR 12, qI x1] [] σ).bind (fun x => ev 831 8 [qR 0, qI x1, qI x2, qI x3, qU, qU, qU] (q_push x.1 []) x.2) :=
  Eq.trans (e_aload_n d_831_0 rfl) (Eq.trans (e_getR d_831_1 fl_8_23 sh_0 rfl) (Eq.trans (e_iload_n d_831_4 rfl) (e_callV d_831_5 ml_8_187 fit_831_603 par_603 rfl rfl sh_12 (Nat.le_of_ble_eq_true rfl) (Nat.le_of_ble_eq_true rfl) (Nat.le_of_ble_eq_true rfl) rfl (by decide) rfl)))
theorem b831_8 {x1 x2 x3 y0 : Int} {σ : SS} : ev 831 8 [qR 0, qI x1, qI x2, qI x3, qU, qU, qU] [qI y0] σ = if y0 = 0 then ev 831 11 [qR 0, qI x1, qI x2, qI x3, qU, qU, qU] [] σ else ev 831 14 [qR 0, qI x1, qI x2, qI x3, qU, qU, qU] [] σ :=
  e_if_ne d_831_8 (by decide)
theorem b831_11 {x1 x2 x3 : Int} {σ : SS} : ev 831 11 [qR 0, qI x1, qI x2, qI x3, qU, qU, qU] [] σ = some (some (qI (-1000000001)), σ) :=
  Eq.trans (e_ldc d_831_11 ld_8_174 k_m1000000001) (e_iret d_831_13 (q_okrI rfl))
theorem b831_14 {x1 x2 x3 : Int} {σ : SS} : ev 831 14 [qR 0, qI x1, qI x2, qI x3, qU, qU, qU] [] σ = (ev 849 0 [qI x2] [] σ).bind (fun x => ev 831 18 [qR 0, qI x1, qI x2, qI x3, qU, qU, qU] (q_push x.1 []) x.2) :=
  Eq.trans (e_iload_n d_831_14 rfl) (e_callS d_831_15 (by decide) ml_8_275 fit_831_849 par_849 rfl rfl (Nat.le_of_ble_eq_true rfl) (Nat.le_of_ble_eq_true rfl) (Nat.le_of_ble_eq_true rfl) rfl (by decide) rfl)
theorem b831_18 {x1 x2 x3 y0 : Int} {σ : SS} : ev 831 18 [qR 0, qI x1, qI x2, qI x3, qU, qU, qU] [qI y0] σ = if y0 = 0 then ev 831 30 [qR 0, qI x1, qI x2, qI x3, qU, qU, qU] [] σ else ev 831 21 [qR 0, qI x1, qI x2, qI x3, qU, qU, qU] [] σ :=
  e_if_eq d_831_18 (by decide)
theorem b831_21 {x1 x2 x3 : Int} {σ : SS} : ev 831 21 [qR 0, qI x1, qI x2, qI x3, qU, qU, qU] [] σ = if x3 < 0 then ev 831 30 [qR 0, qI x1, qI x2, qI x3, qU, qU, qU] [] σ else ev 831 25 [qR 0, qI x1, qI x2, qI x3, qU, qU, qU] [] σ :=
  Eq.trans (e_iload_n d_831_21 rfl) (e_if_lt d_831_22 (by decide))
theorem b831_25 {x1 x2 x3 : Int} {σ : SS} : ev 831 25 [qR 0, qI x1, qI x2, qI x3, qU, qU, qU] [] σ = if 1 < x3 then ev 831 30 [qR 0, qI x1, qI x2, qI x3, qU, qU, qU] [] σ else ev 831 33 [qR 0, qI x1, qI x2, qI x3, qU, qU, qU] [] σ :=
  Eq.trans (e_iload_n d_831_25 rfl) (Eq.trans (e_iconst d_831_26 k_1) (e_icmp_le d_831_27 (by decide)))
theorem b831_30 {x1 x2 x3 : Int} {σ : SS} : ev 831 30 [qR 0, qI x1, qI x2, qI x3, qU, qU, qU] [] σ = some (some (qI (-1000000002)), σ) :=
  Eq.trans (e_ldc d_831_30 ld_8_82 k_m1000000002) (e_iret d_831_32 (q_okrI rfl))
theorem b831_33 {x1 x2 x3 : Int} {σ : SS} : ev 831 33 [qR 0, qI x1, qI x2, qI x3, qU, qU, qU] [] σ = (ev 213 0 [qR 34, qI x1, qI x2, qU, qU, qU] [] σ).bind (fun x => ev 831 42 [qR 0, qI x1, qI x2, qI x3, qU, qU, qU] (q_push x.1 []) x.2) :=
  Eq.trans (e_aload_n d_831_33 rfl) (Eq.trans (e_getR d_831_34 fl_8_46 sh_0 rfl) (Eq.trans (e_iload_n d_831_37 rfl) (Eq.trans (e_iload_n d_831_38 rfl) (e_callV d_831_39 ml_8_299 fit_831_213 par_213 rfl rfl sh_34 (Nat.le_of_ble_eq_true rfl) (Nat.le_of_ble_eq_true rfl) (Nat.le_of_ble_eq_true rfl) rfl (by decide) rfl))))
theorem b831_42 {x1 x2 x3 y0 : Int} {σ : SS} : ev 831 42 [qR 0, qI x1, qI x2, qI x3, qU, qU, qU] [qI y0] σ = ev 831 51 [qR 0, qI x1, qI x2, qI x3, qI y0, qI 8, qI 0] [] σ :=
  Eq.trans (e_istore d_831_42 (by decide) (Nat.le_of_ble_eq_true rfl) rfl) (Eq.trans (e_bipush d_831_44 kb_8) (Eq.trans (e_istore d_831_46 (by decide) (Nat.le_of_ble_eq_true rfl) rfl) (Eq.trans (e_iconst d_831_48 k_0) (e_istore d_831_49 (by decide) (Nat.le_of_ble_eq_true rfl) rfl))))
theorem b831_51 {x1 x2 x3 x4 x5 x6 : Int} {σ : SS} : ev 831 51 [qR 0, qI x1, qI x2, qI x3, qI x4, qI x5, qI x6] [] σ = if x6 < 3 then ev 831 57 [qR 0, qI x1, qI x2, qI x3, qI x4, qI x5, qI x6] [] σ else ev 831 82 [qR 0, qI x1, qI x2, qI x3, qI x4, qI x5, qI x6] [] σ :=
  Eq.trans (e_iload d_831_51 rfl) (Eq.trans (e_iconst d_831_53 k_3) (e_icmp_ge d_831_54 (by decide)))
theorem b831_57 {x1 x2 x3 x4 x5 x6 : Int} {σ : SS} (h : 0 ≤ x4 ∧ x4 ≤ 2147483647 ∧ (0 : Int) < 2 ∧ (2 : Int) ≤ 2147483647) : ev 831 57 [qR 0, qI x1, qI x2, qI x3, qI x4, qI x5, qI x6] [] σ = if (x4 % 2) = 0 then ev 831 64 [qR 0, qI x1, qI x2, qI x3, qI x4, qI x5, qI x6] [] σ else ev 831 82 [qR 0, qI x1, qI x2, qI x3, qI x4, qI x5, qI x6] [] σ :=
  Eq.trans (e_iload d_831_57 rfl) (Eq.trans (e_iconst d_831_59 k_2) (Eq.trans (e_irem d_831_60 h) (e_if_ne d_831_61 (by decide))))
theorem b831_64 {x1 x2 x3 x4 x5 x6 : Int} {σ : SS} (h : (0 ≤ x4 ∧ x4 ≤ 2147483647 ∧ (0 : Int) < 2 ∧ (2 : Int) ≤ 2147483647) ∧ (0 ≤ x5 ∧ x5 ≤ 2147483647 ∧ (0 : Int) < 2 ∧ (2 : Int) ≤ 2147483647) ∧ (-2147483648 ≤ (x6 + 1) ∧ (x6 + 1) ≤ 2147483647)) : ev 831 64 [qR 0, qI x1, qI x2, qI x3, qI x4, qI x5, qI x6] [] σ = ev 831 51 [qR 0, qI x1, qI x2, qI x3, qI (x4 / 2), qI (x5 / 2), qI (x6 + 1)] [] σ :=
  Eq.trans (e_iload d_831_64 rfl) (Eq.trans (e_iconst d_831_66 k_2) (Eq.trans (e_idiv d_831_67 h.1) (Eq.trans (e_istore d_831_68 (by decide) (Nat.le_of_ble_eq_true rfl) rfl) (Eq.trans (e_iload d_831_70 rfl) (Eq.trans (e_iconst d_831_72 k_2) (Eq.trans (e_idiv d_831_73 h.2.1) (Eq.trans (e_istore d_831_74 (by decide) (Nat.le_of_ble_eq_true rfl) rfl) (Eq.trans (e_iinc d_831_76 (by decide) rfl h.2.2 rfl) (e_goto d_831_79 (by decide))))))))))
theorem b831_82 {x1 x2 x3 x4 x5 x6 : Int} {σ : SS} : ev 831 82 [qR 0, qI x1, qI x2, qI x3, qI x4, qI x5, qI x6] [] σ = if x3 = 0 then ev 831 86 [qR 0, qI x1, qI x2, qI x3, qI x4, qI x5, qI x6] [] σ else ev 831 91 [qR 0, qI x1, qI x2, qI x3, qI x4, qI x5, qI x6] [] σ :=
  Eq.trans (e_iload_n d_831_82 rfl) (e_if_ne d_831_83 (by decide))
theorem b831_86 {x1 x2 x3 x4 x5 x6 : Int} {σ : SS} : ev 831 86 [qR 0, qI x1, qI x2, qI x3, qI x4, qI x5, qI x6] [] σ = ev 831 93 [qR 0, qI x1, qI x2, qI x3, qI x4, qI x5, qI x6] [qI x4] σ :=
  Eq.trans (e_iload d_831_86 rfl) (e_goto d_831_88 (by decide))
theorem b831_91 {x1 x2 x3 x4 x5 x6 : Int} {σ : SS} : ev 831 91 [qR 0, qI x1, qI x2, qI x3, qI x4, qI x5, qI x6] [] σ = ev 831 93 [qR 0, qI x1, qI x2, qI x3, qI x4, qI x5, qI x6] [qI x5] σ :=
  e_iload d_831_91 rfl
theorem b831_93 {x1 x2 x3 x4 x5 x6 y0 : Int} {σ : SS} : ev 831 93 [qR 0, qI x1, qI x2, qI x3, qI x4, qI x5, qI x6] [qI y0] σ = some (some (qI y0), σ) :=
  e_iret d_831_93 (q_okrI rfl)
theorem b832_0 {x1 x2 : Int} {σ : SS} : ev 832 0 [qR 0, qI x1, qI x2] [] σ = (ev 849 0 [qI x1] [] σ).bind (fun x => ev 832 4 [qR 0, qI x1, qI x2] (q_push x.1 []) x.2) :=
  Eq.trans (e_iload_n d_832_0 rfl) (e_callS d_832_1 (by decide) ml_8_275 fit_832_849 par_849 rfl rfl (Nat.le_of_ble_eq_true rfl) (Nat.le_of_ble_eq_true rfl) (Nat.le_of_ble_eq_true rfl) rfl (by decide) rfl)
theorem b832_4 {x1 x2 y0 : Int} {σ : SS} : ev 832 4 [qR 0, qI x1, qI x2] [qI y0] σ = if y0 = 0 then ev 832 7 [qR 0, qI x1, qI x2] [] σ else ev 832 10 [qR 0, qI x1, qI x2] [] σ :=
  e_if_ne d_832_4 (by decide)
theorem b832_7 {x1 x2 : Int} {σ : SS} : ev 832 7 [qR 0, qI x1, qI x2] [] σ = some (some (qI (-1000000002)), σ) :=
  Eq.trans (e_ldc d_832_7 ld_8_82 k_m1000000002) (e_iret d_832_9 (q_okrI rfl))
theorem b832_10 {x1 x2 : Int} {σ : SS} : ev 832 10 [qR 0, qI x1, qI x2] [] σ = if (σ 35 2) < 20 then ev 832 25 [qR 0, qI x1, qI x2] [] σ else ev 832 22 [qR 0, qI x1, qI x2] [] σ :=
  Eq.trans (e_aload_n d_832_10 rfl) (Eq.trans (e_getR d_832_11 fl_8_53 sh_0 rfl) (Eq.trans (e_getI d_832_14 fl_8_161 sh_35 rfl) (Eq.trans (e_bipush d_832_17 kb_20) (e_icmp_lt d_832_19 (by decide)))))
theorem b832_22 {x1 x2 : Int} {σ : SS} : ev 832 22 [qR 0, qI x1, qI x2] [] σ = some (some (qI (-1000000004)), σ) :=
  Eq.trans (e_ldc d_832_22 ld_8_86 k_m1000000004) (e_iret d_832_24 (q_okrI rfl))
theorem b832_25 {x1 x2 : Int} {σ : SS} (h : (0 ≤ (σ 35 2) ∧ (σ 35 2) < 20) ∧ (x2 = 0 ∨ x2 = 1) ∧ (-2147483648 ≤ ((σ 35 2) + 1) ∧ ((σ 35 2) + 1) ≤ 2147483647)) : ev 832 25 [qR 0, qI x1, qI x2] [] σ = some (some (qI ((σ 35 2) + 1)), (q_put (q_put (q_put σ 36 (σ 35 2).toNat x1) 37 (σ 35 2).toNat x2) 35 2 ((σ 35 2) + 1))) :=
  Eq.trans (e_aload_n d_832_25 rfl) (Eq.trans (e_getR d_832_26 fl_8_53 sh_0 rfl) (Eq.trans (e_getR d_832_29 fl_8_302 sh_35 rfl) (Eq.trans (e_aload_n d_832_32 rfl) (Eq.trans (e_getR d_832_33 fl_8_53 sh_0 rfl) (Eq.trans (e_getI d_832_36 fl_8_161 sh_35 rfl) (Eq.trans (e_iload_n d_832_39 rfl) (Eq.trans (e_iast d_832_40 sh_36 h.1) (Eq.trans (e_aload_n d_832_41 rfl) (Eq.trans (e_getR d_832_42 fl_8_53 sh_0 rfl) (Eq.trans (e_getR d_832_45 fl_8_305 sh_35 rfl) (Eq.trans (e_aload_n d_832_48 rfl) (Eq.trans (e_getR d_832_49 fl_8_53 sh_0 rfl) (Eq.trans (e_getI d_832_52 fl_8_161 sh_35 rfl) (Eq.trans (e_iload_n d_832_55 rfl) (Eq.trans (e_bast d_832_56 sh_37 h.1 h.2.1) (Eq.trans (e_aload_n d_832_57 rfl) (Eq.trans (e_getR d_832_58 fl_8_53 sh_0 rfl) (Eq.trans (e_dup d_832_61 rfl) (Eq.trans (e_getI d_832_62 fl_8_161 sh_35 rfl) (Eq.trans (e_iconst d_832_65 k_1) (Eq.trans (e_iadd d_832_66 h.2.2) (Eq.trans (e_put d_832_67 fl_8_161 sh_35 rfl rfl rfl) (Eq.trans (e_aload_n d_832_70 rfl) (Eq.trans (e_getR d_832_71 fl_8_53 sh_0 rfl) (Eq.trans (e_getI d_832_74 fl_8_161 sh_35 rfl) (e_iret d_832_77 (q_okrI rfl)))))))))))))))))))))))))))
theorem b833_0 {σ : SS} : ev 833 0 [qR 0] [] σ = (ev 834 0 [qR 0, qU, qU] [] σ).bind (fun x => ev 833 4 [qR 0] (q_push x.1 []) x.2) :=
  Eq.trans (e_aload_n d_833_0 rfl) (e_callV d_833_1 ml_8_309 fit_833_834 par_834 rfl rfl sh_0 (Nat.le_of_ble_eq_true rfl) (Nat.le_of_ble_eq_true rfl) (Nat.le_of_ble_eq_true rfl) rfl (by decide) rfl)
theorem b833_4 {y0 : Int} {σ : SS} : ev 833 4 [qR 0] [qI y0] σ = some (some (qI y0), σ) :=
  e_iret d_833_4 (q_okrI rfl)
theorem b836_0 {σ : SS} : ev 836 0 [qR 0, qU, qU, qU, qU, qU, qU, qU] [] σ = (ev 834 0 [qR 0, qU, qU] [] σ).bind (fun x => ev 836 4 [qR 0, qU, qU, qU, qU, qU, qU, qU] (q_push x.1 []) x.2) :=
  Eq.trans (e_aload_n d_836_0 rfl) (e_callV d_836_1 ml_8_309 fit_836_834 par_834 rfl rfl sh_0 (Nat.le_of_ble_eq_true rfl) (Nat.le_of_ble_eq_true rfl) (Nat.le_of_ble_eq_true rfl) rfl (by decide) rfl)
theorem b836_4 {y0 : Int} {σ : SS} : ev 836 4 [qR 0, qU, qU, qU, qU, qU, qU, qU] [qI y0] σ = (ev 1100 0 [qI y0] [] σ).bind (fun x => ev 836 9 [qR 0, qI y0, qU, qU, qU, qU, qU, qU] (q_push x.1 []) x.2) :=
  Eq.trans (e_istore_n d_836_4 (by decide) (Nat.le_of_ble_eq_true rfl) rfl) (Eq.trans (e_iload_n d_836_5 rfl) (e_callS d_836_6 (by decide) ml_8_243 fit_836_1100 par_1100 rfl rfl (Nat.le_of_ble_eq_true rfl) (Nat.le_of_ble_eq_true rfl) (Nat.le_of_ble_eq_true rfl) rfl (by decide) rfl))
theorem b836_9 {x1 y0 : Int} {σ : SS} : ev 836 9 [qR 0, qI x1, qU, qU, qU, qU, qU, qU] [qI y0] σ = ev 836 18 [qR 0, qI x1, qI y0, qI (-1), qI y0, qI 0, qU, qU] [] σ :=
  Eq.trans (e_istore_n d_836_9 (by decide) (Nat.le_of_ble_eq_true rfl) rfl) (Eq.trans (e_iconst d_836_10 k_m1) (Eq.trans (e_istore_n d_836_11 (by decide) (Nat.le_of_ble_eq_true rfl) rfl) (Eq.trans (e_iload_n d_836_12 rfl) (Eq.trans (e_istore d_836_13 (by decide) (Nat.le_of_ble_eq_true rfl) rfl) (Eq.trans (e_iconst d_836_15 k_0) (e_istore d_836_16 (by decide) (Nat.le_of_ble_eq_true rfl) rfl))))))
theorem b836_18 {x1 x2 x3 x4 x5 : Int} {vx6 vx7 : AV} {σ : SS} : ev 836 18 [qR 0, qI x1, qI x2, qI x3, qI x4, qI x5, vx6, vx7] [] σ = if x5 < 24 then ev 836 25 [qR 0, qI x1, qI x2, qI x3, qI x4, qI x5, vx6, vx7] [] σ else ev 836 65 [qR 0, qI x1, qI x2, qI x3, qI x4, qI x5, vx6, vx7] [] σ :=
  Eq.trans (e_iload d_836_18 rfl) (Eq.trans (e_bipush d_836_20 kb_24) (e_icmp_ge d_836_22 (by decide)))
theorem b836_25 {x1 x2 x3 x4 x5 : Int} {vx6 vx7 : AV} {σ : SS} : ev 836 25 [qR 0, qI x1, qI x2, qI x3, qI x4, qI x5, vx6, vx7] [] σ = (ev 837 0 [qR 0, qI x1, qI x5, qU, qU] [] σ).bind (fun x => ev 836 32 [qR 0, qI x1, qI x2, qI x3, qI x4, qI x5, vx6, vx7] (q_push x.1 []) x.2) :=
  Eq.trans (e_aload_n d_836_25 rfl) (Eq.trans (e_iload_n d_836_26 rfl) (Eq.trans (e_iload d_836_27 rfl) (e_callV d_836_29 ml_8_315 fit_836_837 par_837 rfl rfl sh_0 (Nat.le_of_ble_eq_true rfl) (Nat.le_of_ble_eq_true rfl) (Nat.le_of_ble_eq_true rfl) rfl (by decide) rfl)))
theorem b836_32 {x1 x2 x3 x4 x5 y0 : Int} {vx6 vx7 : AV} {σ : SS} (h : -2147483648 ≤ (x2 - y0) ∧ (x2 - y0) ≤ 2147483647) : ev 836 32 [qR 0, qI x1, qI x2, qI x3, qI x4, qI x5, vx6, vx7] [qI y0] σ = (ev 1201 0 [qI y0, qI (x2 - y0)] [] σ).bind (fun x => ev 836 43 [qR 0, qI x1, qI x2, qI x3, qI x4, qI x5, qI y0, vx7] (q_push x.1 []) x.2) :=
  Eq.trans (e_istore d_836_32 (by decide) (Nat.le_of_ble_eq_true rfl) rfl) (Eq.trans (e_iload d_836_34 rfl) (Eq.trans (e_iload_n d_836_36 rfl) (Eq.trans (e_iload d_836_37 rfl) (Eq.trans (e_isub d_836_39 h) (e_callS d_836_40 (by decide) ml_8_318 fit_836_1201 par_1201 rfl rfl (Nat.le_of_ble_eq_true rfl) (Nat.le_of_ble_eq_true rfl) (Nat.le_of_ble_eq_true rfl) rfl (by decide) rfl)))))
theorem b836_43 {x1 x2 x3 x4 x5 x6 y0 : Int} {vx7 : AV} {σ : SS} : ev 836 43 [qR 0, qI x1, qI x2, qI x3, qI x4, qI x5, qI x6, vx7] [qI y0] σ = if y0 < x4 then ev 836 52 [qR 0, qI x1, qI x2, qI x3, qI x4, qI x5, qI x6, qI y0] [] σ else ev 836 59 [qR 0, qI x1, qI x2, qI x3, qI x4, qI x5, qI x6, qI y0] [] σ :=
  Eq.trans (e_istore d_836_43 (by decide) (Nat.le_of_ble_eq_true rfl) rfl) (Eq.trans (e_iload d_836_45 rfl) (Eq.trans (e_iload d_836_47 rfl) (e_icmp_ge d_836_49 (by decide))))
theorem b836_52 {x1 x2 x3 x4 x5 x6 x7 : Int} {σ : SS} : ev 836 52 [qR 0, qI x1, qI x2, qI x3, qI x4, qI x5, qI x6, qI x7] [] σ = ev 836 59 [qR 0, qI x1, qI x2, qI x5, qI x7, qI x5, qI x6, qI x7] [] σ :=
  Eq.trans (e_iload d_836_52 rfl) (Eq.trans (e_istore d_836_54 (by decide) (Nat.le_of_ble_eq_true rfl) rfl) (Eq.trans (e_iload d_836_56 rfl) (e_istore_n d_836_58 (by decide) (Nat.le_of_ble_eq_true rfl) rfl)))
theorem b836_59 {x1 x2 x3 x4 x5 x6 x7 : Int} {σ : SS} (h : -2147483648 ≤ (x5 + 1) ∧ (x5 + 1) ≤ 2147483647) : ev 836 59 [qR 0, qI x1, qI x2, qI x3, qI x4, qI x5, qI x6, qI x7] [] σ = ev 836 18 [qR 0, qI x1, qI x2, qI x3, qI x4, qI (x5 + 1), qI x6, qI x7] [] σ :=
  Eq.trans (e_iinc d_836_59 (by decide) rfl h rfl) (e_goto d_836_62 (by decide))
theorem b836_65 {x1 x2 x3 x4 x5 : Int} {vx6 vx7 : AV} {σ : SS} : ev 836 65 [qR 0, qI x1, qI x2, qI x3, qI x4, qI x5, vx6, vx7] [] σ = some (some (qI x3), σ) :=
  Eq.trans (e_iload_n d_836_65 rfl) (e_iret d_836_66 (q_okrI rfl))
theorem b838_0 {x1 : Int} {σ : SS} : ev 838 0 [qR 0, qI x1] [] σ = if x1 < 0 then ev 838 9 [qR 0, qI x1] [] σ else ev 838 4 [qR 0, qI x1] [] σ :=
  Eq.trans (e_iload_n d_838_0 rfl) (e_if_lt d_838_1 (by decide))
theorem b838_4 {x1 : Int} {σ : SS} : ev 838 4 [qR 0, qI x1] [] σ = if 2 < x1 then ev 838 9 [qR 0, qI x1] [] σ else ev 838 12 [qR 0, qI x1] [] σ :=
  Eq.trans (e_iload_n d_838_4 rfl) (Eq.trans (e_iconst d_838_5 k_2) (e_icmp_le d_838_6 (by decide)))
theorem b838_9 {x1 : Int} {σ : SS} : ev 838 9 [qR 0, qI x1] [] σ = some (some (qI (-1000000002)), σ) :=
  Eq.trans (e_ldc d_838_9 ld_8_82 k_m1000000002) (e_iret d_838_11 (q_okrI rfl))
theorem b838_12 {x1 : Int} {σ : SS} : ev 838 12 [qR 0, qI x1] [] σ = if (σ 35 4) < 12 then ev 838 27 [qR 0, qI x1] [] σ else ev 838 24 [qR 0, qI x1] [] σ :=
  Eq.trans (e_aload_n d_838_12 rfl) (Eq.trans (e_getR d_838_13 fl_8_53 sh_0 rfl) (Eq.trans (e_getI d_838_16 fl_8_164 sh_35 rfl) (Eq.trans (e_bipush d_838_19 kb_12) (e_icmp_lt d_838_21 (by decide)))))
theorem b838_24 {x1 : Int} {σ : SS} : ev 838 24 [qR 0, qI x1] [] σ = some (some (qI (-1000000004)), σ) :=
  Eq.trans (e_ldc d_838_24 ld_8_86 k_m1000000004) (e_iret d_838_26 (q_okrI rfl))
theorem b838_27 {x1 : Int} {σ : SS} (h : (0 ≤ (σ 35 4) ∧ (σ 35 4) < 12) ∧ (-2147483648 ≤ ((σ 35 4) + 1) ∧ ((σ 35 4) + 1) ≤ 2147483647)) : ev 838 27 [qR 0, qI x1] [] σ = some (some (qI ((σ 35 4) + 1)), (q_put (q_put σ 38 (σ 35 4).toNat x1) 35 4 ((σ 35 4) + 1))) :=
  Eq.trans (e_aload_n d_838_27 rfl) (Eq.trans (e_getR d_838_28 fl_8_53 sh_0 rfl) (Eq.trans (e_getR d_838_31 fl_8_321 sh_35 rfl) (Eq.trans (e_aload_n d_838_34 rfl) (Eq.trans (e_getR d_838_35 fl_8_53 sh_0 rfl) (Eq.trans (e_getI d_838_38 fl_8_164 sh_35 rfl) (Eq.trans (e_iload_n d_838_41 rfl) (Eq.trans (e_iast d_838_42 sh_38 h.1) (Eq.trans (e_aload_n d_838_43 rfl) (Eq.trans (e_getR d_838_44 fl_8_53 sh_0 rfl) (Eq.trans (e_dup d_838_47 rfl) (Eq.trans (e_getI d_838_48 fl_8_164 sh_35 rfl) (Eq.trans (e_iconst d_838_51 k_1) (Eq.trans (e_iadd d_838_52 h.2) (Eq.trans (e_put d_838_53 fl_8_164 sh_35 rfl rfl rfl) (Eq.trans (e_aload_n d_838_56 rfl) (Eq.trans (e_getR d_838_57 fl_8_53 sh_0 rfl) (Eq.trans (e_getI d_838_60 fl_8_164 sh_35 rfl) (e_iret d_838_63 (q_okrI rfl)))))))))))))))))))
theorem b839_0 {σ : SS} : ev 839 0 [qR 0, qU, qU] [] σ = ev 839 4 [qR 0, qI 0, qI 0] [] σ :=
  Eq.trans (e_iconst d_839_0 k_0) (Eq.trans (e_istore_n d_839_1 (by decide) (Nat.le_of_ble_eq_true rfl) rfl) (Eq.trans (e_iconst d_839_2 k_0) (e_istore_n d_839_3 (by decide) (Nat.le_of_ble_eq_true rfl) rfl)))
theorem b839_4 {x1 x2 : Int} {σ : SS} : ev 839 4 [qR 0, qI x1, qI x2] [] σ = if x2 < (σ 12 10) then ev 839 15 [qR 0, qI x1, qI x2] [] σ else ev 839 35 [qR 0, qI x1, qI x2] [] σ :=
  Eq.trans (e_iload_n d_839_4 rfl) (Eq.trans (e_aload_n d_839_5 rfl) (Eq.trans (e_getR d_839_6 fl_8_23 sh_0 rfl) (Eq.trans (e_getI d_839_9 fl_8_107 sh_12 rfl) (e_icmp_ge d_839_12 (by decide)))))
theorem b839_15 {x1 x2 : Int} {σ : SS} : ev 839 15 [qR 0, qI x1, qI x2] [] σ = (ev 840 0 [qR 0, qI x2, qU] [] σ).bind (fun x => ev 839 20 [qR 0, qI x1, qI x2] (q_push x.1 []) x.2) :=
  Eq.trans (e_aload_n d_839_15 rfl) (Eq.trans (e_iload_n d_839_16 rfl) (e_callV d_839_17 ml_8_324 fit_839_840 par_840 rfl rfl sh_0 (Nat.le_of_ble_eq_true rfl) (Nat.le_of_ble_eq_true rfl) (Nat.le_of_ble_eq_true rfl) rfl (by decide) rfl))
theorem b839_20 {x1 x2 y0 : Int} {σ : SS} : ev 839 20 [qR 0, qI x1, qI x2] [qI y0] σ = if y0 = 0 then ev 839 29 [qR 0, qI x1, qI x2] [] σ else ev 839 23 [qR 0, qI x1, qI x2] [] σ :=
  e_if_eq d_839_20 (by decide)
theorem b839_23 {x1 x2 : Int} {σ : SS} : ev 839 23 [qR 0, qI x1, qI x2] [] σ = ev 839 29 [qR 0, qI (q_or x1 (q_shl 1 x2)), qI x2] [] σ :=
  Eq.trans (e_iload_n d_839_23 rfl) (Eq.trans (e_iconst d_839_24 k_1) (Eq.trans (e_iload_n d_839_25 rfl) (Eq.trans (e_ishl d_839_26) (Eq.trans (e_ior d_839_27) (e_istore_n d_839_28 (by decide) (Nat.le_of_ble_eq_true rfl) rfl)))))
theorem b839_29 {x1 x2 : Int} {σ : SS} (h : -2147483648 ≤ (x2 + 1) ∧ (x2 + 1) ≤ 2147483647) : ev 839 29 [qR 0, qI x1, qI x2] [] σ = ev 839 4 [qR 0, qI x1, qI (x2 + 1)] [] σ :=
  Eq.trans (e_iinc d_839_29 (by decide) rfl h rfl) (e_goto d_839_32 (by decide))
theorem b839_35 {x1 x2 : Int} {σ : SS} : ev 839 35 [qR 0, qI x1, qI x2] [] σ = some (some (qI x1), σ) :=
  Eq.trans (e_iload_n d_839_35 rfl) (e_iret d_839_36 (q_okrI rfl))
theorem b842_0 {x1 x2 x3 : Int} {σ : SS} : ev 842 0 [qR 0, qI x1, qI x2, qI x3] [] σ = (ev 603 0 [qR 12, qI x2] [] σ).bind (fun x => ev 842 8 [qR 0, qI x1, qI x2, qI x3] (q_push x.1 []) x.2) :=
  Eq.trans (e_aload_n d_842_0 rfl) (Eq.trans (e_getR d_842_1 fl_8_23 sh_0 rfl) (Eq.trans (e_iload_n d_842_4 rfl) (e_callV d_842_5 ml_8_187 fit_842_603 par_603 rfl rfl sh_12 (Nat.le_of_ble_eq_true rfl) (Nat.le_of_ble_eq_true rfl) (Nat.le_of_ble_eq_true rfl) rfl (by decide) rfl)))
theorem b842_8 {x1 x2 x3 y0 : Int} {σ : SS} : ev 842 8 [qR 0, qI x1, qI x2, qI x3] [qI y0] σ = if y0 = 0 then ev 842 11 [qR 0, qI x1, qI x2, qI x3] [] σ else ev 842 14 [qR 0, qI x1, qI x2, qI x3] [] σ :=
  e_if_ne d_842_8 (by decide)
theorem b842_11 {x1 x2 x3 : Int} {σ : SS} : ev 842 11 [qR 0, qI x1, qI x2, qI x3] [] σ = some (some (qI (-1000000001)), σ) :=
  Eq.trans (e_ldc d_842_11 ld_8_174 k_m1000000001) (e_iret d_842_13 (q_okrI rfl))
theorem b842_14 {x1 x2 x3 : Int} {σ : SS} : ev 842 14 [qR 0, qI x1, qI x2, qI x3] [] σ = if x1 < 0 then ev 842 24 [qR 0, qI x1, qI x2, qI x3] [] σ else ev 842 18 [qR 0, qI x1, qI x2, qI x3] [] σ :=
  Eq.trans (e_iload_n d_842_14 rfl) (e_if_lt d_842_15 (by decide))
theorem b842_18 {x1 x2 x3 : Int} {σ : SS} : ev 842 18 [qR 0, qI x1, qI x2, qI x3] [] σ = if 99999 < x1 then ev 842 24 [qR 0, qI x1, qI x2, qI x3] [] σ else ev 842 27 [qR 0, qI x1, qI x2, qI x3] [] σ :=
  Eq.trans (e_iload_n d_842_18 rfl) (Eq.trans (e_ldc d_842_19 ld_8_215 k_99999) (e_icmp_le d_842_21 (by decide)))
theorem b842_24 {x1 x2 x3 : Int} {σ : SS} : ev 842 24 [qR 0, qI x1, qI x2, qI x3] [] σ = some (some (qI (-1000000002)), σ) :=
  Eq.trans (e_ldc d_842_24 ld_8_82 k_m1000000002) (e_iret d_842_26 (q_okrI rfl))
theorem b842_27 {x1 x2 x3 : Int} {σ : SS} : ev 842 27 [qR 0, qI x1, qI x2, qI x3] [] σ = if (σ 35 8) < 30 then ev 842 42 [qR 0, qI x1, qI x2, qI x3] [] σ else ev 842 39 [qR 0, qI x1, qI x2, qI x3] [] σ :=
  Eq.trans (e_aload_n d_842_27 rfl) (Eq.trans (e_getR d_842_28 fl_8_53 sh_0 rfl) (Eq.trans (e_getI d_842_31 fl_8_167 sh_35 rfl) (Eq.trans (e_bipush d_842_34 kb_30) (e_icmp_lt d_842_36 (by decide)))))
theorem b842_39 {x1 x2 x3 : Int} {σ : SS} : ev 842 39 [qR 0, qI x1, qI x2, qI x3] [] σ = some (some (qI (-1000000004)), σ) :=
  Eq.trans (e_ldc d_842_39 ld_8_86 k_m1000000004) (e_iret d_842_41 (q_okrI rfl))
theorem b842_42 {x1 x2 x3 : Int} {σ : SS} (h : (0 ≤ (σ 35 8) ∧ (σ 35 8) < 30) ∧ (x3 = 0 ∨ x3 = 1) ∧ (-2147483648 ≤ ((σ 35 8) + 1) ∧ ((σ 35 8) + 1) ≤ 2147483647)) : ev 842 42 [qR 0, qI x1, qI x2, qI x3] [] σ = some (some (qI ((σ 35 8) + 1)), (q_put (q_put (q_put (q_put σ 39 (σ 35 8).toNat x1) 40 (σ 35 8).toNat x2) 41 (σ 35 8).toNat x3) 35 8 ((σ 35 8) + 1))) :=
  Eq.trans (e_aload_n d_842_42 rfl) (Eq.trans (e_getR d_842_43 fl_8_53 sh_0 rfl) (Eq.trans (e_getR d_842_46 fl_8_333 sh_35 rfl) (Eq.trans (e_aload_n d_842_49 rfl) (Eq.trans (e_getR d_842_50 fl_8_53 sh_0 rfl) (Eq.trans (e_getI d_842_53 fl_8_167 sh_35 rfl) (Eq.trans (e_iload_n d_842_56 rfl) (Eq.trans (e_iast d_842_57 sh_39 h.1) (Eq.trans (e_aload_n d_842_58 rfl) (Eq.trans (e_getR d_842_59 fl_8_53 sh_0 rfl) (Eq.trans (e_getR d_842_62 fl_8_336 sh_35 rfl) (Eq.trans (e_aload_n d_842_65 rfl) (Eq.trans (e_getR d_842_66 fl_8_53 sh_0 rfl) (Eq.trans (e_getI d_842_69 fl_8_167 sh_35 rfl) (Eq.trans (e_iload_n d_842_72 rfl) (Eq.trans (e_iast d_842_73 sh_40 h.1) (Eq.trans (e_aload_n d_842_74 rfl) (Eq.trans (e_getR d_842_75 fl_8_53 sh_0 rfl) (Eq.trans (e_getR d_842_78 fl_8_339 sh_35 rfl) (Eq.trans (e_aload_n d_842_81 rfl) (Eq.trans (e_getR d_842_82 fl_8_53 sh_0 rfl) (Eq.trans (e_getI d_842_85 fl_8_167 sh_35 rfl) (Eq.trans (e_iload_n d_842_88 rfl) (Eq.trans (e_bast d_842_89 sh_41 h.1 h.2.1) (Eq.trans (e_aload_n d_842_90 rfl) (Eq.trans (e_getR d_842_91 fl_8_53 sh_0 rfl) (Eq.trans (e_dup d_842_94 rfl) (Eq.trans (e_getI d_842_95 fl_8_167 sh_35 rfl) (Eq.trans (e_iconst d_842_98 k_1) (Eq.trans (e_iadd d_842_99 h.2.2) (Eq.trans (e_put d_842_100 fl_8_167 sh_35 rfl rfl rfl) (Eq.trans (e_aload_n d_842_103 rfl) (Eq.trans (e_getR d_842_104 fl_8_53 sh_0 rfl) (Eq.trans (e_getI d_842_107 fl_8_167 sh_35 rfl) (e_iret d_842_110 (q_okrI rfl)))))))))))))))))))))))))))))))))))
theorem b843_0 {σ : SS} (h : (-2147483648 ≤ ((σ 35 2) + (σ 35 4)) ∧ ((σ 35 2) + (σ 35 4)) ≤ 2147483647) ∧ (-2147483648 ≤ (((σ 35 2) + (σ 35 4)) + (σ 35 8)) ∧ (((σ 35 2) + (σ 35 4)) + (σ 35 8)) ≤ 2147483647)) : ev 843 0 [qR 0, qU] [] σ = (ev 400 0 [qR 35] [] σ).bind (fun x => ev 843 31 [qR 0, qI (((σ 35 2) + (σ 35 4)) + (σ 35 8))] (q_push x.1 []) x.2) :=
  Eq.trans (e_aload_n d_843_0 rfl) (Eq.trans (e_getR d_843_1 fl_8_53 sh_0 rfl) (Eq.trans (e_getI d_843_4 fl_8_161 sh_35 rfl) (Eq.trans (e_aload_n d_843_7 rfl) (Eq.trans (e_getR d_843_8 fl_8_53 sh_0 rfl) (Eq.trans (e_getI d_843_11 fl_8_164 sh_35 rfl) (Eq.trans (e_iadd d_843_14 h.1) (Eq.trans (e_aload_n d_843_15 rfl) (Eq.trans (e_getR d_843_16 fl_8_53 sh_0 rfl) (Eq.trans (e_getI d_843_19 fl_8_167 sh_35 rfl) (Eq.trans (e_iadd d_843_22 h.2) (Eq.trans (e_istore_n d_843_23 (by decide) (Nat.le_of_ble_eq_true rfl) rfl) (Eq.trans (e_aload_n d_843_24 rfl) (Eq.trans (e_getR d_843_25 fl_8_53 sh_0 rfl) (e_callV d_843_28 ml_8_104 fit_843_400 par_400 rfl rfl sh_35 (Nat.le_of_ble_eq_true rfl) (Nat.le_of_ble_eq_true rfl) (Nat.le_of_ble_eq_true rfl) rfl (by decide) rfl))))))))))))))
theorem b843_31 {x1 : Int} {σ : SS} : ev 843 31 [qR 0, qI x1] [] σ = some (some (qI x1), σ) :=
  Eq.trans (e_iload_n d_843_31 rfl) (e_iret d_843_32 (q_okrI rfl))
theorem b844_0 {σ : SS} : ev 844 0 [qR 0, qU, qU] [] σ = ev 844 2 [qR 0, qI 0, qU] [] σ :=
  Eq.trans (e_iconst d_844_0 k_0) (e_istore_n d_844_1 (by decide) (Nat.le_of_ble_eq_true rfl) rfl)
theorem b844_2 {x1 : Int} {vx2 : AV} {σ : SS} : ev 844 2 [qR 0, qI x1, vx2] [] σ = if x1 < (σ 35 8) then ev 844 13 [qR 0, qI x1, vx2] [] σ else ev 844 74 [qR 0, qI x1, vx2] [] σ :=
  Eq.trans (e_iload_n d_844_2 rfl) (Eq.trans (e_aload_n d_844_3 rfl) (Eq.trans (e_getR d_844_4 fl_8_53 sh_0 rfl) (Eq.trans (e_getI d_844_7 fl_8_167 sh_35 rfl) (e_icmp_ge d_844_10 (by decide)))))
theorem b844_13 {x1 : Int} {vx2 : AV} {σ : SS} (h : 0 ≤ x1 ∧ x1 < 30) : ev 844 13 [qR 0, qI x1, vx2] [] σ = (ev 203 0 [qR 34, qI (σ 40 x1.toNat), qI (σ 39 x1.toNat)] [] σ).bind (fun x => ev 844 38 [qR 0, qI x1, vx2] (q_push x.1 []) x.2) :=
  Eq.trans (e_aload_n d_844_13 rfl) (Eq.trans (e_getR d_844_14 fl_8_46 sh_0 rfl) (Eq.trans (e_aload_n d_844_17 rfl) (Eq.trans (e_getR d_844_18 fl_8_53 sh_0 rfl) (Eq.trans (e_getR d_844_21 fl_8_336 sh_35 rfl) (Eq.trans (e_iload_n d_844_24 rfl) (Eq.trans (e_iald d_844_25 sh_40 h) (Eq.trans (e_aload_n d_844_26 rfl) (Eq.trans (e_getR d_844_27 fl_8_53 sh_0 rfl) (Eq.trans (e_getR d_844_30 fl_8_333 sh_35 rfl) (Eq.trans (e_iload_n d_844_33 rfl) (Eq.trans (e_iald d_844_34 sh_39 h) (e_callV d_844_35 ml_8_284 fit_844_203 par_203 rfl rfl sh_34 (Nat.le_of_ble_eq_true rfl) (Nat.le_of_ble_eq_true rfl) (Nat.le_of_ble_eq_true rfl) rfl (by decide) rfl))))))))))))
theorem b844_38 {x1 y0 : Int} {vx2 : AV} {σ : SS} : ev 844 38 [qR 0, qI x1, vx2] [qI y0] σ = (ev 613 0 [qR 12, qI y0, qI (σ 12 11)] [] σ).bind (fun x => ev 844 54 [qR 0, qI x1, qI y0] (q_push x.1 []) x.2) :=
  Eq.trans (e_istore_n d_844_38 (by decide) (Nat.le_of_ble_eq_true rfl) rfl) (Eq.trans (e_aload_n d_844_39 rfl) (Eq.trans (e_getR d_844_40 fl_8_23 sh_0 rfl) (Eq.trans (e_iload_n d_844_43 rfl) (Eq.trans (e_aload_n d_844_44 rfl) (Eq.trans (e_getR d_844_45 fl_8_23 sh_0 rfl) (Eq.trans (e_getI d_844_48 fl_8_126 sh_12 rfl) (e_callV d_844_51 ml_8_342 fit_844_613 par_613 rfl rfl sh_12 (Nat.le_of_ble_eq_true rfl) (Nat.le_of_ble_eq_true rfl) (Nat.le_of_ble_eq_true rfl) rfl (by decide) rfl)))))))
theorem b844_54 {x1 x2 y0 : Int} {σ : SS} (h : 0 ≤ x1 ∧ x1 < 30) : ev 844 54 [qR 0, qI x1, qI x2] [qI y0] σ = if y0 = (σ 41 x1.toNat) then ev 844 68 [qR 0, qI x1, qI x2] [] σ else ev 844 66 [qR 0, qI x1, qI x2] [] σ :=
  Eq.trans (e_aload_n d_844_54 rfl) (Eq.trans (e_getR d_844_55 fl_8_53 sh_0 rfl) (Eq.trans (e_getR d_844_58 fl_8_339 sh_35 rfl) (Eq.trans (e_iload_n d_844_61 rfl) (Eq.trans (e_bald d_844_62 sh_41 h) (e_icmp_eq d_844_63 (by decide))))))
theorem b844_66 {x1 x2 : Int} {σ : SS} : ev 844 66 [qR 0, qI x1, qI x2] [] σ = some (some (qI x1), σ) :=
  Eq.trans (e_iload_n d_844_66 rfl) (e_iret d_844_67 (q_okrI rfl))
theorem b844_68 {x1 x2 : Int} {σ : SS} (h : -2147483648 ≤ (x1 + 1) ∧ (x1 + 1) ≤ 2147483647) : ev 844 68 [qR 0, qI x1, qI x2] [] σ = ev 844 2 [qR 0, qI (x1 + 1), qI x2] [] σ :=
  Eq.trans (e_iinc d_844_68 (by decide) rfl h rfl) (e_goto d_844_71 (by decide))
theorem b844_74 {x1 : Int} {vx2 : AV} {σ : SS} : ev 844 74 [qR 0, qI x1, vx2] [] σ = some (some (qI (-1)), σ) :=
  Eq.trans (e_iconst d_844_74 k_m1) (e_iret d_844_75 (q_okrI rfl))
theorem b845_0 {x1 : Int} {σ : SS} : ev 845 0 [qR 0, qI x1, qU] [] σ = if x1 < 0 then ev 845 4 [qR 0, qI x1, qU] [] σ else ev 845 7 [qR 0, qI x1, qU] [] σ :=
  Eq.trans (e_iload_n d_845_0 rfl) (e_if_ge d_845_1 (by decide))
theorem b845_4 {x1 : Int} {σ : SS} : ev 845 4 [qR 0, qI x1, qU] [] σ = some (some (qI (-1000000002)), σ) :=
  Eq.trans (e_ldc d_845_4 ld_8_82 k_m1000000002) (e_iret d_845_6 (q_okrI rfl))
theorem b845_7 {x1 : Int} {σ : SS} : ev 845 7 [qR 0, qI x1, qU] [] σ = some (some (qI (σ 21 8)), (q_put σ 21 8 x1)) :=
  Eq.trans (e_aload_n d_845_7 rfl) (Eq.trans (e_getR d_845_8 fl_8_29 sh_0 rfl) (Eq.trans (e_getI d_845_11 fl_8_345 sh_21 rfl) (Eq.trans (e_istore_n d_845_14 (by decide) (Nat.le_of_ble_eq_true rfl) rfl) (Eq.trans (e_aload_n d_845_15 rfl) (Eq.trans (e_getR d_845_16 fl_8_29 sh_0 rfl) (Eq.trans (e_iload_n d_845_19 rfl) (Eq.trans (e_put d_845_20 fl_8_345 sh_21 rfl rfl rfl) (Eq.trans (e_iload_n d_845_23 rfl) (e_iret d_845_24 (q_okrI rfl))))))))))
theorem b846_0 {x1 : Int} {σ : SS} : ev 846 0 [qR 0, qI x1] [] σ = if x1 < 0 then ev 846 9 [qR 0, qI x1] [] σ else ev 846 4 [qR 0, qI x1] [] σ :=
  Eq.trans (e_iload_n d_846_0 rfl) (e_if_lt d_846_1 (by decide))
theorem b846_4 {x1 : Int} {σ : SS} : ev 846 4 [qR 0, qI x1] [] σ = if x1 < 2 then ev 846 12 [qR 0, qI x1] [] σ else ev 846 9 [qR 0, qI x1] [] σ :=
  Eq.trans (e_iload_n d_846_4 rfl) (Eq.trans (e_iconst d_846_5 k_2) (e_icmp_lt d_846_6 (by decide)))
theorem b846_9 {x1 : Int} {σ : SS} : ev 846 9 [qR 0, qI x1] [] σ = some (some (qI (-1000000001)), σ) :=
  Eq.trans (e_ldc d_846_9 ld_8_174 k_m1000000001) (e_iret d_846_11 (q_okrI rfl))
theorem b846_12_f0 {x1 : Int} {σ : SS} (h : x1 = 0) : ev 846 12 [qR 0, qI x1] [] σ = (ev 301 0 [qR 26, qR 21] [] σ).bind (fun x => ev 846 25 [qR 0, qI x1] (q_push x.1 []) x.2) :=
  Eq.trans (e_aload_n d_846_12 rfl) (Eq.trans (e_getR d_846_13 fl_8_33 sh_0 rfl) (Eq.trans (e_iload_n d_846_16 rfl) (Eq.trans (e_aald d_846_17 sh_25 (j := 0) h (by decide) rfl) (Eq.trans (e_aload_n d_846_18 rfl) (Eq.trans (e_getR d_846_19 fl_8_29 sh_0 rfl) (e_callV d_846_22 ml_8_348 fit_846_301 par_301 rfl rfl sh_26 (Nat.le_of_ble_eq_true rfl) (Nat.le_of_ble_eq_true rfl) (Nat.le_of_ble_eq_true rfl) rfl (by decide) rfl))))))
theorem b846_12_f1 {x1 : Int} {σ : SS} (h : x1 = 1) : ev 846 12 [qR 0, qI x1] [] σ = (ev 301 0 [qR 30, qR 21] [] σ).bind (fun x => ev 846 25 [qR 0, qI x1] (q_push x.1 []) x.2) :=
  Eq.trans (e_aload_n d_846_12 rfl) (Eq.trans (e_getR d_846_13 fl_8_33 sh_0 rfl) (Eq.trans (e_iload_n d_846_16 rfl) (Eq.trans (e_aald d_846_17 sh_25 (j := 1) h (by decide) rfl) (Eq.trans (e_aload_n d_846_18 rfl) (Eq.trans (e_getR d_846_19 fl_8_29 sh_0 rfl) (e_callV d_846_22 ml_8_348 fit_846_301 par_301 rfl rfl sh_30 (Nat.le_of_ble_eq_true rfl) (Nat.le_of_ble_eq_true rfl) (Nat.le_of_ble_eq_true rfl) rfl (by decide) rfl))))))
theorem b846_25 {x1 : Int} {σ : SS} : ev 846 25 [qR 0, qI x1] [] σ = some (some (qI 1), (q_put σ 0 5 (q_or (σ 0 5) (q_shl 1 x1)))) :=
  Eq.trans (e_aload_n d_846_25 rfl) (Eq.trans (e_dup d_846_26 rfl) (Eq.trans (e_getI d_846_27 fl_8_37 sh_0 rfl) (Eq.trans (e_iconst d_846_30 k_1) (Eq.trans (e_iload_n d_846_31 rfl) (Eq.trans (e_ishl d_846_32) (Eq.trans (e_ior d_846_33) (Eq.trans (e_put d_846_34 fl_8_37 sh_0 rfl rfl rfl) (Eq.trans (e_iconst d_846_37 k_1) (e_iret d_846_38 (q_okrI rfl))))))))))
theorem b847_0 {x1 : Int} {σ : SS} : ev 847 0 [qR 0, qI x1] [] σ = if x1 < 0 then ev 847 9 [qR 0, qI x1] [] σ else ev 847 4 [qR 0, qI x1] [] σ :=
  Eq.trans (e_iload_n d_847_0 rfl) (e_if_lt d_847_1 (by decide))
theorem b847_4 {x1 : Int} {σ : SS} : ev 847 4 [qR 0, qI x1] [] σ = if x1 < 2 then ev 847 12 [qR 0, qI x1] [] σ else ev 847 9 [qR 0, qI x1] [] σ :=
  Eq.trans (e_iload_n d_847_4 rfl) (Eq.trans (e_iconst d_847_5 k_2) (e_icmp_lt d_847_6 (by decide)))
theorem b847_9 {x1 : Int} {σ : SS} : ev 847 9 [qR 0, qI x1] [] σ = some (some (qI (-1000000001)), σ) :=
  Eq.trans (e_ldc d_847_9 ld_8_174 k_m1000000001) (e_iret d_847_11 (q_okrI rfl))
theorem b847_12 {x1 : Int} {σ : SS} : ev 847 12 [qR 0, qI x1] [] σ = (ev 848 0 [qI (σ 0 5), qI x1] [] σ).bind (fun x => ev 847 20 [qR 0, qI x1] (q_push x.1 []) x.2) :=
  Eq.trans (e_aload_n d_847_12 rfl) (Eq.trans (e_getI d_847_13 fl_8_37 sh_0 rfl) (Eq.trans (e_iload_n d_847_16 rfl) (e_callS d_847_17 (by decide) ml_8_219 fit_847_848 par_848 rfl rfl (Nat.le_of_ble_eq_true rfl) (Nat.le_of_ble_eq_true rfl) (Nat.le_of_ble_eq_true rfl) rfl (by decide) rfl)))
theorem b847_20 {x1 y0 : Int} {σ : SS} : ev 847 20 [qR 0, qI x1] [qI y0] σ = if y0 = 0 then ev 847 23 [qR 0, qI x1] [] σ else ev 847 26 [qR 0, qI x1] [] σ :=
  e_if_ne d_847_20 (by decide)
theorem b847_23 {x1 : Int} {σ : SS} : ev 847 23 [qR 0, qI x1] [] σ = some (some (qI (-1000000003)), σ) :=
  Eq.trans (e_ldc d_847_23 ld_8_222 k_m1000000003) (e_iret d_847_25 (q_okrI rfl))
theorem b847_26_f0 {x1 : Int} {σ : SS} (h : x1 = 0) : ev 847 26 [qR 0, qI x1] [] σ = (ev 301 0 [qR 21, qR 26] [] σ).bind (fun x => ev 847 39 [qR 0, qI x1] (q_push x.1 []) x.2) :=
  Eq.trans (e_aload_n d_847_26 rfl) (Eq.trans (e_getR d_847_27 fl_8_29 sh_0 rfl) (Eq.trans (e_aload_n d_847_30 rfl) (Eq.trans (e_getR d_847_31 fl_8_33 sh_0 rfl) (Eq.trans (e_iload_n d_847_34 rfl) (Eq.trans (e_aald d_847_35 sh_25 (j := 0) h (by decide) rfl) (e_callV d_847_36 ml_8_348 fit_847_301 par_301 rfl rfl sh_21 (Nat.le_of_ble_eq_true rfl) (Nat.le_of_ble_eq_true rfl) (Nat.le_of_ble_eq_true rfl) rfl (by decide) rfl))))))
theorem b847_26_f1 {x1 : Int} {σ : SS} (h : x1 = 1) : ev 847 26 [qR 0, qI x1] [] σ = (ev 301 0 [qR 21, qR 30] [] σ).bind (fun x => ev 847 39 [qR 0, qI x1] (q_push x.1 []) x.2) :=
  Eq.trans (e_aload_n d_847_26 rfl) (Eq.trans (e_getR d_847_27 fl_8_29 sh_0 rfl) (Eq.trans (e_aload_n d_847_30 rfl) (Eq.trans (e_getR d_847_31 fl_8_33 sh_0 rfl) (Eq.trans (e_iload_n d_847_34 rfl) (Eq.trans (e_aald d_847_35 sh_25 (j := 1) h (by decide) rfl) (e_callV d_847_36 ml_8_348 fit_847_301 par_301 rfl rfl sh_21 (Nat.le_of_ble_eq_true rfl) (Nat.le_of_ble_eq_true rfl) (Nat.le_of_ble_eq_true rfl) rfl (by decide) rfl))))))
theorem b847_39 {x1 : Int} {σ : SS} : ev 847 39 [qR 0, qI x1] [] σ = some (some (qI 1), σ) :=
  Eq.trans (e_iconst d_847_39 k_1) (e_iret d_847_40 (q_okrI rfl))
theorem b804_0_c0 {x1 : Int} {σ : SS} (h : x1 = 0) : ev 804 0 [qR 0, qI x1] [] σ = ev 804 48 [qR 0, qI x1] [] σ :=
  Eq.trans (e_iload_n d_804_0 rfl) (e_tswI (k := 0) d_804_1 (by have := h; omega) (by decide) rfl (by decide))
theorem b804_0_c1 {x1 : Int} {σ : SS} (h : x1 = 1) : ev 804 0 [qR 0, qI x1] [] σ = ev 804 56 [qR 0, qI x1] [] σ :=
  Eq.trans (e_iload_n d_804_0 rfl) (e_tswI (k := 1) d_804_1 (by have := h; omega) (by decide) rfl (by decide))
theorem b804_0_c2 {x1 : Int} {σ : SS} (h : x1 = 2) : ev 804 0 [qR 0, qI x1] [] σ = ev 804 64 [qR 0, qI x1] [] σ :=
  Eq.trans (e_iload_n d_804_0 rfl) (e_tswI (k := 2) d_804_1 (by have := h; omega) (by decide) rfl (by decide))
theorem b804_0_c3 {x1 : Int} {σ : SS} (h : x1 = 3) : ev 804 0 [qR 0, qI x1] [] σ = ev 804 72 [qR 0, qI x1] [] σ :=
  Eq.trans (e_iload_n d_804_0 rfl) (e_tswI (k := 3) d_804_1 (by have := h; omega) (by decide) rfl (by decide))
theorem b804_0_c4 {x1 : Int} {σ : SS} (h : x1 = 4) : ev 804 0 [qR 0, qI x1] [] σ = ev 804 80 [qR 0, qI x1] [] σ :=
  Eq.trans (e_iload_n d_804_0 rfl) (e_tswI (k := 4) d_804_1 (by have := h; omega) (by decide) rfl (by decide))
theorem b804_0_c5 {x1 : Int} {σ : SS} (h : x1 = 5) : ev 804 0 [qR 0, qI x1] [] σ = ev 804 88 [qR 0, qI x1] [] σ :=
  Eq.trans (e_iload_n d_804_0 rfl) (e_tswI (k := 5) d_804_1 (by have := h; omega) (by decide) rfl (by decide))
theorem b804_0_c6 {x1 : Int} {σ : SS} (h : x1 = 6) : ev 804 0 [qR 0, qI x1] [] σ = ev 804 96 [qR 0, qI x1] [] σ :=
  Eq.trans (e_iload_n d_804_0 rfl) (e_tswI (k := 6) d_804_1 (by have := h; omega) (by decide) rfl (by decide))
theorem b804_0_c7 {x1 : Int} {σ : SS} (h : x1 = 7) : ev 804 0 [qR 0, qI x1] [] σ = ev 804 104 [qR 0, qI x1] [] σ :=
  Eq.trans (e_iload_n d_804_0 rfl) (e_tswI (k := 7) d_804_1 (by have := h; omega) (by decide) rfl (by decide))
theorem b804_0_cd {x1 : Int} {σ : SS} (h : x1 < 0 ∨ 7 < x1) : ev 804 0 [qR 0, qI x1] [] σ = ev 804 112 [qR 0, qI x1] [] σ :=
  Eq.trans (e_iload_n d_804_0 rfl) (e_tswO d_804_1 h (by decide))
theorem b804_48 {x1 : Int} {σ : SS} : ev 804 48 [qR 0, qI x1] [] σ = some (some (qI (σ 12 8)), σ) :=
  Eq.trans (e_aload_n d_804_48 rfl) (Eq.trans (e_getR d_804_49 fl_8_23 sh_0 rfl) (Eq.trans (e_getI d_804_52 fl_8_120 sh_12 rfl) (e_iret d_804_55 (q_okrI rfl))))
theorem b804_56 {x1 : Int} {σ : SS} : ev 804 56 [qR 0, qI x1] [] σ = some (some (qI (σ 12 9)), σ) :=
  Eq.trans (e_aload_n d_804_56 rfl) (Eq.trans (e_getR d_804_57 fl_8_23 sh_0 rfl) (Eq.trans (e_getI d_804_60 fl_8_123 sh_12 rfl) (e_iret d_804_63 (q_okrI rfl))))
theorem b804_64 {x1 : Int} {σ : SS} : ev 804 64 [qR 0, qI x1] [] σ = some (some (qI (σ 12 10)), σ) :=
  Eq.trans (e_aload_n d_804_64 rfl) (Eq.trans (e_getR d_804_65 fl_8_23 sh_0 rfl) (Eq.trans (e_getI d_804_68 fl_8_107 sh_12 rfl) (e_iret d_804_71 (q_okrI rfl))))
theorem b804_72 {x1 : Int} {σ : SS} : ev 804 72 [qR 0, qI x1] [] σ = some (some (qI (σ 1 1)), σ) :=
  Eq.trans (e_aload_n d_804_72 rfl) (Eq.trans (e_getR d_804_73 fl_8_10 sh_0 rfl) (Eq.trans (e_getI d_804_76 fl_8_83 sh_1 rfl) (e_iret d_804_79 (q_okrI rfl))))
theorem b804_80 {x1 : Int} {σ : SS} : ev 804 80 [qR 0, qI x1] [] σ = some (some (qI (σ 12 11)), σ) :=
  Eq.trans (e_aload_n d_804_80 rfl) (Eq.trans (e_getR d_804_81 fl_8_23 sh_0 rfl) (Eq.trans (e_getI d_804_84 fl_8_126 sh_12 rfl) (e_iret d_804_87 (q_okrI rfl))))
theorem b804_88 {x1 : Int} {σ : SS} : ev 804 88 [qR 0, qI x1] [] σ = some (some (qI (σ 12 12)), σ) :=
  Eq.trans (e_aload_n d_804_88 rfl) (Eq.trans (e_getR d_804_89 fl_8_23 sh_0 rfl) (Eq.trans (e_getI d_804_92 fl_8_129 sh_12 rfl) (e_iret d_804_95 (q_okrI rfl))))
theorem b804_96 {x1 : Int} {σ : SS} : ev 804 96 [qR 0, qI x1] [] σ = some (some (qI (σ 12 13)), σ) :=
  Eq.trans (e_aload_n d_804_96 rfl) (Eq.trans (e_getR d_804_97 fl_8_23 sh_0 rfl) (Eq.trans (e_getI d_804_100 fl_8_132 sh_12 rfl) (e_iret d_804_103 (q_okrI rfl))))
theorem b804_104 {x1 : Int} {σ : SS} : ev 804 104 [qR 0, qI x1] [] σ = some (some (qI (σ 12 14)), σ) :=
  Eq.trans (e_aload_n d_804_104 rfl) (Eq.trans (e_getR d_804_105 fl_8_23 sh_0 rfl) (Eq.trans (e_getI d_804_108 fl_8_135 sh_12 rfl) (e_iret d_804_111 (q_okrI rfl))))
theorem b804_112 {x1 : Int} {σ : SS} : ev 804 112 [qR 0, qI x1] [] σ = if (σ 12 10) = 0 then ev 804 122 [qR 0, qI x1] [] σ else ev 804 126 [qR 0, qI x1] [] σ :=
  Eq.trans (e_aload_n d_804_112 rfl) (Eq.trans (e_getR d_804_113 fl_8_23 sh_0 rfl) (Eq.trans (e_getI d_804_116 fl_8_107 sh_12 rfl) (e_if_ne d_804_119 (by decide))))
theorem b804_122 {x1 : Int} {σ : SS} : ev 804 122 [qR 0, qI x1] [] σ = ev 804 133 [qR 0, qI x1] [qI (-1)] σ :=
  Eq.trans (e_iconst d_804_122 k_m1) (e_goto d_804_123 (by decide))
theorem b804_126 {x1 : Int} {σ : SS} : ev 804 126 [qR 0, qI x1] [] σ = ev 804 133 [qR 0, qI x1] [qI (σ 12 15)] σ :=
  Eq.trans (e_aload_n d_804_126 rfl) (Eq.trans (e_getR d_804_127 fl_8_23 sh_0 rfl) (e_getI d_804_130 fl_8_138 sh_12 rfl))
theorem b804_133 {x1 y0 : Int} {σ : SS} : ev 804 133 [qR 0, qI x1] [qI y0] σ = some (some (qI y0), σ) :=
  e_iret d_804_133 (q_okrI rfl)
theorem b805_0_c9 {x1 : Int} {σ : SS} (h : x1 = 9) : ev 805 0 [qR 0, qI x1] [] σ = ev 805 48 [qR 0, qI x1] [] σ :=
  Eq.trans (e_iload_n d_805_0 rfl) (e_tswI (k := 0) d_805_1 (by have := h; omega) (by decide) rfl (by decide))
theorem b805_0_c10 {x1 : Int} {σ : SS} (h : x1 = 10) : ev 805 0 [qR 0, qI x1] [] σ = ev 805 56 [qR 0, qI x1] [] σ :=
  Eq.trans (e_iload_n d_805_0 rfl) (e_tswI (k := 1) d_805_1 (by have := h; omega) (by decide) rfl (by decide))
theorem b805_0_c11 {x1 : Int} {σ : SS} (h : x1 = 11) : ev 805 0 [qR 0, qI x1] [] σ = ev 805 78 [qR 0, qI x1] [] σ :=
  Eq.trans (e_iload_n d_805_0 rfl) (e_tswI (k := 2) d_805_1 (by have := h; omega) (by decide) rfl (by decide))
theorem b805_0_c12 {x1 : Int} {σ : SS} (h : x1 = 12) : ev 805 0 [qR 0, qI x1] [] σ = ev 805 86 [qR 0, qI x1] [] σ :=
  Eq.trans (e_iload_n d_805_0 rfl) (e_tswI (k := 3) d_805_1 (by have := h; omega) (by decide) rfl (by decide))
theorem b805_0_c13 {x1 : Int} {σ : SS} (h : x1 = 13) : ev 805 0 [qR 0, qI x1] [] σ = ev 805 94 [qR 0, qI x1] [] σ :=
  Eq.trans (e_iload_n d_805_0 rfl) (e_tswI (k := 4) d_805_1 (by have := h; omega) (by decide) rfl (by decide))
theorem b805_0_c14 {x1 : Int} {σ : SS} (h : x1 = 14) : ev 805 0 [qR 0, qI x1] [] σ = ev 805 102 [qR 0, qI x1] [] σ :=
  Eq.trans (e_iload_n d_805_0 rfl) (e_tswI (k := 5) d_805_1 (by have := h; omega) (by decide) rfl (by decide))
theorem b805_0_c15 {x1 : Int} {σ : SS} (h : x1 = 15) : ev 805 0 [qR 0, qI x1] [] σ = ev 805 118 [qR 0, qI x1] [] σ :=
  Eq.trans (e_iload_n d_805_0 rfl) (e_tswI (k := 6) d_805_1 (by have := h; omega) (by decide) rfl (by decide))
theorem b805_0_c16 {x1 : Int} {σ : SS} (h : x1 = 16) : ev 805 0 [qR 0, qI x1] [] σ = ev 805 126 [qR 0, qI x1] [] σ :=
  Eq.trans (e_iload_n d_805_0 rfl) (e_tswI (k := 7) d_805_1 (by have := h; omega) (by decide) rfl (by decide))
theorem b805_0_cd {x1 : Int} {σ : SS} (h : x1 < 9 ∨ 16 < x1) : ev 805 0 [qR 0, qI x1] [] σ = ev 805 134 [qR 0, qI x1] [] σ :=
  Eq.trans (e_iload_n d_805_0 rfl) (e_tswO d_805_1 h (by decide))
theorem b805_48 {x1 : Int} {σ : SS} : ev 805 48 [qR 0, qI x1] [] σ = some (some (qI (σ 21 3)), σ) :=
  Eq.trans (e_aload_n d_805_48 rfl) (Eq.trans (e_getR d_805_49 fl_8_29 sh_0 rfl) (Eq.trans (e_getI d_805_52 fl_8_141 sh_21 rfl) (e_iret d_805_55 (q_okrI rfl))))
theorem b805_56 {x1 : Int} {σ : SS} : ev 805 56 [qR 0, qI x1] [] σ = if (σ 12 8) = 0 then ev 805 66 [qR 0, qI x1] [] σ else ev 805 70 [qR 0, qI x1] [] σ :=
  Eq.trans (e_aload_n d_805_56 rfl) (Eq.trans (e_getR d_805_57 fl_8_23 sh_0 rfl) (Eq.trans (e_getI d_805_60 fl_8_120 sh_12 rfl) (e_if_ne d_805_63 (by decide))))
theorem b805_66 {x1 : Int} {σ : SS} : ev 805 66 [qR 0, qI x1] [] σ = ev 805 77 [qR 0, qI x1] [qI (-1)] σ :=
  Eq.trans (e_iconst d_805_66 k_m1) (e_goto d_805_67 (by decide))
theorem b805_70 {x1 : Int} {σ : SS} : ev 805 70 [qR 0, qI x1] [] σ = ev 805 77 [qR 0, qI x1] [qI (σ 21 4)] σ :=
  Eq.trans (e_aload_n d_805_70 rfl) (Eq.trans (e_getR d_805_71 fl_8_29 sh_0 rfl) (e_getI d_805_74 fl_8_144 sh_21 rfl))
theorem b805_77 {x1 y0 : Int} {σ : SS} : ev 805 77 [qR 0, qI x1] [qI y0] σ = some (some (qI y0), σ) :=
  e_iret d_805_77 (q_okrI rfl)
theorem b805_78 {x1 : Int} {σ : SS} : ev 805 78 [qR 0, qI x1] [] σ = some (some (qI (σ 21 7)), σ) :=
  Eq.trans (e_aload_n d_805_78 rfl) (Eq.trans (e_getR d_805_79 fl_8_29 sh_0 rfl) (Eq.trans (e_getI d_805_82 fl_8_147 sh_21 rfl) (e_iret d_805_85 (q_okrI rfl))))
theorem b805_86 {x1 : Int} {σ : SS} : ev 805 86 [qR 0, qI x1] [] σ = (ev 207 0 [qR 34] [] σ).bind (fun x => ev 805 93 [qR 0, qI x1] (q_push x.1 []) x.2) :=
  Eq.trans (e_aload_n d_805_86 rfl) (Eq.trans (e_getR d_805_87 fl_8_46 sh_0 rfl) (e_callV d_805_90 ml_8_150 fit_805_207 par_207 rfl rfl sh_34 (Nat.le_of_ble_eq_true rfl) (Nat.le_of_ble_eq_true rfl) (Nat.le_of_ble_eq_true rfl) rfl (by decide) rfl))
theorem b805_93 {x1 y0 : Int} {σ : SS} : ev 805 93 [qR 0, qI x1] [qI y0] σ = some (some (qI y0), σ) :=
  e_iret d_805_93 (q_okrI rfl)
theorem b805_94 {x1 : Int} {σ : SS} : ev 805 94 [qR 0, qI x1] [] σ = some (some (qI (σ 21 5)), σ) :=
  Eq.trans (e_aload_n d_805_94 rfl) (Eq.trans (e_getR d_805_95 fl_8_29 sh_0 rfl) (Eq.trans (e_getI d_805_98 fl_8_154 sh_21 rfl) (e_iret d_805_101 (q_okrI rfl))))
theorem b805_102 {x1 : Int} {σ : SS} : ev 805 102 [qR 0, qI x1] [] σ = if (σ 21 6) = 0 then ev 805 116 [qR 0, qI x1] [] σ else ev 805 112 [qR 0, qI x1] [] σ :=
  Eq.trans (e_aload_n d_805_102 rfl) (Eq.trans (e_getR d_805_103 fl_8_29 sh_0 rfl) (Eq.trans (e_getI d_805_106 fl_8_157 sh_21 rfl) (e_if_eq d_805_109 (by decide))))
theorem b805_112 {x1 : Int} {σ : SS} : ev 805 112 [qR 0, qI x1] [] σ = ev 805 117 [qR 0, qI x1] [qI 1] σ :=
  Eq.trans (e_iconst d_805_112 k_1) (e_goto d_805_113 (by decide))
theorem b805_116 {x1 : Int} {σ : SS} : ev 805 116 [qR 0, qI x1] [] σ = ev 805 117 [qR 0, qI x1] [qI 0] σ :=
  e_iconst d_805_116 k_0
theorem b805_117 {x1 y0 : Int} {σ : SS} : ev 805 117 [qR 0, qI x1] [qI y0] σ = some (some (qI y0), σ) :=
  e_iret d_805_117 (q_okrI rfl)
theorem b805_118 {x1 : Int} {σ : SS} : ev 805 118 [qR 0, qI x1] [] σ = some (some (qI (σ 35 2)), σ) :=
  Eq.trans (e_aload_n d_805_118 rfl) (Eq.trans (e_getR d_805_119 fl_8_53 sh_0 rfl) (Eq.trans (e_getI d_805_122 fl_8_161 sh_35 rfl) (e_iret d_805_125 (q_okrI rfl))))
theorem b805_126 {x1 : Int} {σ : SS} : ev 805 126 [qR 0, qI x1] [] σ = some (some (qI (σ 35 4)), σ) :=
  Eq.trans (e_aload_n d_805_126 rfl) (Eq.trans (e_getR d_805_127 fl_8_53 sh_0 rfl) (Eq.trans (e_getI d_805_130 fl_8_164 sh_35 rfl) (e_iret d_805_133 (q_okrI rfl))))
theorem b805_134 {x1 : Int} {σ : SS} : ev 805 134 [qR 0, qI x1] [] σ = some (some (qI (σ 35 8)), σ) :=
  Eq.trans (e_aload_n d_805_134 rfl) (Eq.trans (e_getR d_805_135 fl_8_53 sh_0 rfl) (Eq.trans (e_getI d_805_138 fl_8_167 sh_35 rfl) (e_iret d_805_141 (q_okrI rfl))))
theorem b807_0 {x1 : Int} {σ : SS} : ev 807 0 [qR 0, qI x1, qU, qU] [] σ = ev 807 4 [qR 0, qI x1, qI 0, qI 0] [] σ :=
  Eq.trans (e_iconst d_807_0 k_0) (Eq.trans (e_istore_n d_807_1 (by decide) (Nat.le_of_ble_eq_true rfl) rfl) (Eq.trans (e_iconst d_807_2 k_0) (e_istore_n d_807_3 (by decide) (Nat.le_of_ble_eq_true rfl) rfl)))
theorem b807_4 {x1 x2 x3 : Int} {σ : SS} : ev 807 4 [qR 0, qI x1, qI x2, qI x3] [] σ = if x3 < (σ 12 10) then ev 807 15 [qR 0, qI x1, qI x2, qI x3] [] σ else ev 807 40 [qR 0, qI x1, qI x2, qI x3] [] σ :=
  Eq.trans (e_iload_n d_807_4 rfl) (Eq.trans (e_aload_n d_807_5 rfl) (Eq.trans (e_getR d_807_6 fl_8_23 sh_0 rfl) (Eq.trans (e_getI d_807_9 fl_8_107 sh_12 rfl) (e_icmp_ge d_807_12 (by decide)))))
theorem b807_15 {x1 x2 x3 : Int} {σ : SS} (h : 0 ≤ x3 ∧ x3 < 6) : ev 807 15 [qR 0, qI x1, qI x2, qI x3] [] σ = if (σ 22 x3.toNat) = x1 then ev 807 28 [qR 0, qI x1, qI x2, qI x3] [] σ else ev 807 34 [qR 0, qI x1, qI x2, qI x3] [] σ :=
  Eq.trans (e_aload_n d_807_15 rfl) (Eq.trans (e_getR d_807_16 fl_8_29 sh_0 rfl) (Eq.trans (e_getR d_807_19 fl_8_184 sh_21 rfl) (Eq.trans (e_iload_n d_807_22 rfl) (Eq.trans (e_iald d_807_23 sh_22 h) (Eq.trans (e_iload_n d_807_24 rfl) (e_icmp_ne d_807_25 (by decide)))))))
theorem b807_28 {x1 x2 x3 : Int} {σ : SS} : ev 807 28 [qR 0, qI x1, qI x2, qI x3] [] σ = ev 807 34 [qR 0, qI x1, qI (q_or x2 (q_shl 1 x3)), qI x3] [] σ :=
  Eq.trans (e_iload_n d_807_28 rfl) (Eq.trans (e_iconst d_807_29 k_1) (Eq.trans (e_iload_n d_807_30 rfl) (Eq.trans (e_ishl d_807_31) (Eq.trans (e_ior d_807_32) (e_istore_n d_807_33 (by decide) (Nat.le_of_ble_eq_true rfl) rfl)))))
theorem b807_34 {x1 x2 x3 : Int} {σ : SS} (h : -2147483648 ≤ (x3 + 1) ∧ (x3 + 1) ≤ 2147483647) : ev 807 34 [qR 0, qI x1, qI x2, qI x3] [] σ = ev 807 4 [qR 0, qI x1, qI x2, qI (x3 + 1)] [] σ :=
  Eq.trans (e_iinc d_807_34 (by decide) rfl h rfl) (e_goto d_807_37 (by decide))
theorem b807_40 {x1 x2 x3 : Int} {σ : SS} : ev 807 40 [qR 0, qI x1, qI x2, qI x3] [] σ = some (some (qI x2), σ) :=
  Eq.trans (e_iload_n d_807_40 rfl) (e_iret d_807_41 (q_okrI rfl))
theorem b848_0 {x0 x1 : Int} {σ : SS} : ev 848 0 [qI x0, qI x1] [] σ = if x1 < 0 then ev 848 23 [qI x0, qI x1] [] σ else ev 848 4 [qI x0, qI x1] [] σ :=
  Eq.trans (e_iload_n d_848_0 rfl) (e_if_lt d_848_1 (by decide))
theorem b848_4 {x0 x1 : Int} {σ : SS} : ev 848 4 [qI x0, qI x1] [] σ = if x1 < 32 then ev 848 10 [qI x0, qI x1] [] σ else ev 848 23 [qI x0, qI x1] [] σ :=
  Eq.trans (e_iload_n d_848_4 rfl) (Eq.trans (e_bipush d_848_5 kb_32) (e_icmp_ge d_848_7 (by decide)))
theorem b848_10 {x0 x1 : Int} {σ : SS} : ev 848 10 [qI x0, qI x1] [] σ = if (q_and (q_shr x0 x1) 1) = 1 then ev 848 19 [qI x0, qI x1] [] σ else ev 848 23 [qI x0, qI x1] [] σ :=
  Eq.trans (e_iload_n d_848_10 rfl) (Eq.trans (e_iload_n d_848_11 rfl) (Eq.trans (e_ishr d_848_12) (Eq.trans (e_iconst d_848_13 k_1) (Eq.trans (e_iand d_848_14) (Eq.trans (e_iconst d_848_15 k_1) (e_icmp_ne d_848_16 (by decide)))))))
theorem b848_19 {x0 x1 : Int} {σ : SS} : ev 848 19 [qI x0, qI x1] [] σ = ev 848 24 [qI x0, qI x1] [qI 1] σ :=
  Eq.trans (e_iconst d_848_19 k_1) (e_goto d_848_20 (by decide))
theorem b848_23 {x0 x1 : Int} {σ : SS} : ev 848 23 [qI x0, qI x1] [] σ = ev 848 24 [qI x0, qI x1] [qI 0] σ :=
  e_iconst d_848_23 k_0
theorem b848_24 {x0 x1 y0 : Int} {σ : SS} (h : y0 = 0 ∨ y0 = 1) : ev 848 24 [qI x0, qI x1] [qI y0] σ = some (some (qI y0), σ) :=
  e_iret d_848_24 (q_okrZ rfl h)
theorem b813_0 {x1 : Int} {σ : SS} : ev 813 0 [qR 0, qI x1, qU] [] σ = (ev 208 0 [qR 34, qI x1, qI (σ 21 3)] [] σ).bind (fun x => ev 813 15 [qR 0, qI x1, qU] (q_push x.1 []) x.2) :=
  Eq.trans (e_aload_n d_813_0 rfl) (Eq.trans (e_getR d_813_1 fl_8_46 sh_0 rfl) (Eq.trans (e_iload_n d_813_4 rfl) (Eq.trans (e_aload_n d_813_5 rfl) (Eq.trans (e_getR d_813_6 fl_8_29 sh_0 rfl) (Eq.trans (e_getI d_813_9 fl_8_141 sh_21 rfl) (e_callV d_813_12 ml_8_208 fit_813_208 par_208 rfl rfl sh_34 (Nat.le_of_ble_eq_true rfl) (Nat.le_of_ble_eq_true rfl) (Nat.le_of_ble_eq_true rfl) rfl (by decide) rfl))))))
theorem b813_15 {x1 y0 : Int} {σ : SS} : ev 813 15 [qR 0, qI x1, qU] [qI y0] σ = if y0 = 0 then ev 813 42 [qR 0, qI x1, qI y0] [] σ else ev 813 20 [qR 0, qI x1, qI y0] [] σ :=
  Eq.trans (e_istore_n d_813_15 (by decide) (Nat.le_of_ble_eq_true rfl) rfl) (Eq.trans (e_iload_n d_813_16 rfl) (e_if_eq d_813_17 (by decide)))
theorem b813_20 {x1 x2 : Int} {σ : SS} : ev 813 20 [qR 0, qI x1, qI x2] [] σ = if x1 = (σ 12 15) then ev 813 31 [qR 0, qI x1, qI x2] [] σ else ev 813 42 [qR 0, qI x1, qI x2] [] σ :=
  Eq.trans (e_iload_n d_813_20 rfl) (Eq.trans (e_aload_n d_813_21 rfl) (Eq.trans (e_getR d_813_22 fl_8_23 sh_0 rfl) (Eq.trans (e_getI d_813_25 fl_8_138 sh_12 rfl) (e_icmp_ne d_813_28 (by decide)))))
theorem b813_31 {x1 x2 : Int} {σ : SS} : ev 813 31 [qR 0, qI x1, qI x2] [] σ = ev 813 61 [qR 0, qI x1, qI x2] [] (q_put σ 21 6 1) :=
  Eq.trans (e_aload_n d_813_31 rfl) (Eq.trans (e_getR d_813_32 fl_8_29 sh_0 rfl) (Eq.trans (e_iconst d_813_35 k_1) (Eq.trans (e_put d_813_36 fl_8_157 sh_21 rfl rfl (q_okZ rfl (by decide))) (e_goto d_813_39 (by decide)))))
theorem b813_42 {x1 x2 : Int} {σ : SS} : ev 813 42 [qR 0, qI x1, qI x2] [] σ = if x2 = 0 then ev 813 61 [qR 0, qI x1, qI x2] [] σ else ev 813 46 [qR 0, qI x1, qI x2] [] σ :=
  Eq.trans (e_iload_n d_813_42 rfl) (e_if_eq d_813_43 (by decide))
theorem b813_46 {x1 x2 : Int} {σ : SS} : ev 813 46 [qR 0, qI x1, qI x2] [] σ = ev 813 61 [qR 0, qI x1, qI x2] [] (q_put σ 21 5 (q_or (σ 21 5) (q_shl 1 x1))) :=
  Eq.trans (e_aload_n d_813_46 rfl) (Eq.trans (e_getR d_813_47 fl_8_29 sh_0 rfl) (Eq.trans (e_dup d_813_50 rfl) (Eq.trans (e_getI d_813_51 fl_8_154 sh_21 rfl) (Eq.trans (e_iconst d_813_54 k_1) (Eq.trans (e_iload_n d_813_55 rfl) (Eq.trans (e_ishl d_813_56) (Eq.trans (e_ior d_813_57) (e_put d_813_58 fl_8_154 sh_21 rfl rfl rfl))))))))
theorem b813_61 {x1 x2 : Int} {σ : SS} (h : -2147483648 ≤ ((σ 21 7) + 1) ∧ ((σ 21 7) + 1) ≤ 2147483647) : ev 813 61 [qR 0, qI x1, qI x2] [] σ = (ev 1202 0 [qI ((σ 21 7) + 1), qI 9999] [] σ).bind (fun x => ev 813 80 [qR 0, qI x1, qI x2] (q_push x.1 [qR 21]) x.2) :=
  Eq.trans (e_aload_n d_813_61 rfl) (Eq.trans (e_getR d_813_62 fl_8_29 sh_0 rfl) (Eq.trans (e_aload_n d_813_65 rfl) (Eq.trans (e_getR d_813_66 fl_8_29 sh_0 rfl) (Eq.trans (e_getI d_813_69 fl_8_147 sh_21 rfl) (Eq.trans (e_iconst d_813_72 k_1) (Eq.trans (e_iadd d_813_73 h) (Eq.trans (e_sipush d_813_74 ks_9999) (e_callS d_813_77 (by decide) ml_8_226 fit_813_1202 par_1202 rfl rfl (Nat.le_of_ble_eq_true rfl) (Nat.le_of_ble_eq_true rfl) (Nat.le_of_ble_eq_true rfl) rfl (by decide) rfl))))))))
theorem b813_80 {x1 x2 y0 : Int} {σ : SS} (h : x2 = 0 ∨ x2 = 1) : ev 813 80 [qR 0, qI x1, qI x2] [qI y0, qR 21] σ = some (some (qI x2), (q_put σ 21 7 y0)) :=
  Eq.trans (e_put d_813_80 fl_8_147 sh_21 rfl rfl rfl) (Eq.trans (e_iload_n d_813_83 rfl) (e_iret d_813_84 (q_okrZ rfl h)))
theorem b818_0 {σ : SS} (h : 0 ≤ (σ 12 15) ∧ (σ 12 15) < 6) : ev 818 0 [qR 0, qU, qU, qU] [] σ = (ev 609 0 [qR 12, qI (σ 22 (σ 12 15).toNat)] [] σ).bind (fun x => ev 818 24 [qR 0, qI (σ 22 (σ 12 15).toNat), qU, qU] (q_push x.1 []) x.2) :=
  Eq.trans (e_aload_n d_818_0 rfl) (Eq.trans (e_getR d_818_1 fl_8_29 sh_0 rfl) (Eq.trans (e_getR d_818_4 fl_8_184 sh_21 rfl) (Eq.trans (e_aload_n d_818_7 rfl) (Eq.trans (e_getR d_818_8 fl_8_23 sh_0 rfl) (Eq.trans (e_getI d_818_11 fl_8_138 sh_12 rfl) (Eq.trans (e_iald d_818_14 sh_22 h) (Eq.trans (e_istore_n d_818_15 (by decide) (Nat.le_of_ble_eq_true rfl) rfl) (Eq.trans (e_aload_n d_818_16 rfl) (Eq.trans (e_getR d_818_17 fl_8_23 sh_0 rfl) (Eq.trans (e_iload_n d_818_20 rfl) (e_callV d_818_21 ml_8_216 fit_818_609 par_609 rfl rfl sh_12 (Nat.le_of_ble_eq_true rfl) (Nat.le_of_ble_eq_true rfl) (Nat.le_of_ble_eq_true rfl) rfl (by decide) rfl)))))))))))
theorem b818_24 {x1 y0 : Int} {σ : SS} : ev 818 24 [qR 0, qI x1, qU, qU] [qI y0] σ = (ev 1100 0 [qI y0] [] σ).bind (fun x => ev 818 33 [qR 0, qI x1, qI y0, qU] (q_push x.1 [qR 21]) x.2) :=
  Eq.trans (e_istore_n d_818_24 (by decide) (Nat.le_of_ble_eq_true rfl) rfl) (Eq.trans (e_aload_n d_818_25 rfl) (Eq.trans (e_getR d_818_26 fl_8_29 sh_0 rfl) (Eq.trans (e_iload_n d_818_29 rfl) (e_callS d_818_30 (by decide) ml_8_243 fit_818_1100 par_1100 rfl rfl (Nat.le_of_ble_eq_true rfl) (Nat.le_of_ble_eq_true rfl) (Nat.le_of_ble_eq_true rfl) rfl (by decide) rfl))))
theorem b818_33 {x1 x2 y0 : Int} {σ : SS} (h : -2147483648 ≤ (y0 + 1) ∧ (y0 + 1) ≤ 2147483647) : ev 818 33 [qR 0, qI x1, qI x2, qU] [qI y0, qR 21] σ = (ev 302 0 [qR 21, qI (y0 + 1)] [] σ).bind (fun x => ev 818 38 [qR 0, qI x1, qI x2, qU] (q_push x.1 []) x.2) :=
  Eq.trans (e_iconst d_818_33 k_1) (Eq.trans (e_iadd d_818_34 h) (e_callV d_818_35 ml_8_248 fit_818_302 par_302 rfl rfl sh_21 (Nat.le_of_ble_eq_true rfl) (Nat.le_of_ble_eq_true rfl) (Nat.le_of_ble_eq_true rfl) rfl (by decide) rfl))
theorem b818_38 {x1 x2 y0 : Int} {σ : SS} : ev 818 38 [qR 0, qI x1, qI x2, qU] [qI y0] σ = (ev 819 0 [qI x2, qI y0, qI x1, qU, qU] [] σ).bind (fun x => ev 818 59 [qR 0, qI x1, qI x2, qI y0] (q_push x.1 [qI (σ 12 15), qR 22]) x.2) :=
  Eq.trans (e_istore_n d_818_38 (by decide) (Nat.le_of_ble_eq_true rfl) rfl) (Eq.trans (e_aload_n d_818_39 rfl) (Eq.trans (e_getR d_818_40 fl_8_29 sh_0 rfl) (Eq.trans (e_getR d_818_43 fl_8_184 sh_21 rfl) (Eq.trans (e_aload_n d_818_46 rfl) (Eq.trans (e_getR d_818_47 fl_8_23 sh_0 rfl) (Eq.trans (e_getI d_818_50 fl_8_138 sh_12 rfl) (Eq.trans (e_iload_n d_818_53 rfl) (Eq.trans (e_iload_n d_818_54 rfl) (Eq.trans (e_iload_n d_818_55 rfl) (e_callS d_818_56 (by decide) ml_8_251 fit_818_819 par_819 rfl rfl (Nat.le_of_ble_eq_true rfl) (Nat.le_of_ble_eq_true rfl) (Nat.le_of_ble_eq_true rfl) rfl (by decide) rfl))))))))))
theorem b818_59 {x1 x2 x3 y0 y1 : Int} {σ : SS} (h : 0 ≤ y1 ∧ y1 < 6) : ev 818 59 [qR 0, qI x1, qI x2, qI x3] [qI y0, qI y1, qR 22] σ = some (none, (q_put σ 22 y1.toNat y0)) :=
  Eq.trans (e_iast d_818_59 sh_22 h) (e_vret d_818_60 rfl)
theorem b820_0 {σ : SS} : ev 820 0 [qR 0, qU] [] σ = (ev 302 0 [qR 21, qI 6] [] σ).bind (fun x => ev 820 9 [qR 0, qU] (q_push x.1 []) x.2) :=
  Eq.trans (e_aload_n d_820_0 rfl) (Eq.trans (e_getR d_820_1 fl_8_29 sh_0 rfl) (Eq.trans (e_bipush d_820_4 kb_6) (e_callV d_820_6 ml_8_248 fit_820_302 par_302 rfl rfl sh_21 (Nat.le_of_ble_eq_true rfl) (Nat.le_of_ble_eq_true rfl) (Nat.le_of_ble_eq_true rfl) rfl (by decide) rfl)))
theorem b820_9 {y0 : Int} {σ : SS} : ev 820 9 [qR 0, qU] [qI y0] σ = if y0 = 0 then ev 820 12 [qR 0, qU] [] σ else ev 820 54 [qR 0, qU] [] σ :=
  e_if_ne d_820_9 (by decide)
theorem b820_12 {σ : SS} : ev 820 12 [qR 0, qU] [] σ = (ev 302 0 [qR 21, qI (σ 12 10)] [] σ).bind (fun x => ev 820 26 [qR 0, qU] (q_push x.1 []) x.2) :=
  Eq.trans (e_aload_n d_820_12 rfl) (Eq.trans (e_getR d_820_13 fl_8_29 sh_0 rfl) (Eq.trans (e_aload_n d_820_16 rfl) (Eq.trans (e_getR d_820_17 fl_8_23 sh_0 rfl) (Eq.trans (e_getI d_820_20 fl_8_107 sh_12 rfl) (e_callV d_820_23 ml_8_248 fit_820_302 par_302 rfl rfl sh_21 (Nat.le_of_ble_eq_true rfl) (Nat.le_of_ble_eq_true rfl) (Nat.le_of_ble_eq_true rfl) rfl (by decide) rfl)))))
theorem b820_26 {y0 : Int} {σ : SS} : ev 820 26 [qR 0, qU] [qI y0] σ = (ev 603 0 [qR 12, qI y0] [] σ).bind (fun x => ev 820 35 [qR 0, qI y0] (q_push x.1 []) x.2) :=
  Eq.trans (e_istore_n d_820_26 (by decide) (Nat.le_of_ble_eq_true rfl) rfl) (Eq.trans (e_aload_n d_820_27 rfl) (Eq.trans (e_getR d_820_28 fl_8_23 sh_0 rfl) (Eq.trans (e_iload_n d_820_31 rfl) (e_callV d_820_32 ml_8_187 fit_820_603 par_603 rfl rfl sh_12 (Nat.le_of_ble_eq_true rfl) (Nat.le_of_ble_eq_true rfl) (Nat.le_of_ble_eq_true rfl) rfl (by decide) rfl))))
theorem b820_35 {x1 y0 : Int} {σ : SS} : ev 820 35 [qR 0, qI x1] [qI y0] σ = if y0 = 0 then ev 820 54 [qR 0, qI x1] [] σ else ev 820 38 [qR 0, qI x1] [] σ :=
  e_if_eq d_820_35 (by decide)
theorem b820_38 {x1 : Int} {σ : SS} (h : 0 ≤ x1 ∧ x1 < 6) : ev 820 38 [qR 0, qI x1] [] σ = ev 820 54 [qR 0, qI x1] [] (q_put σ 24 x1.toNat (σ 21 3)) :=
  Eq.trans (e_aload_n d_820_38 rfl) (Eq.trans (e_getR d_820_39 fl_8_29 sh_0 rfl) (Eq.trans (e_getR d_820_42 fl_8_234 sh_21 rfl) (Eq.trans (e_iload_n d_820_45 rfl) (Eq.trans (e_aload_n d_820_46 rfl) (Eq.trans (e_getR d_820_47 fl_8_29 sh_0 rfl) (Eq.trans (e_getI d_820_50 fl_8_141 sh_21 rfl) (e_iast d_820_53 sh_24 h)))))))
theorem b820_54 {vx1 : AV} {σ : SS} : ev 820 54 [qR 0, vx1] [] σ = some (none, σ) :=
  e_vret d_820_54 rfl
theorem b825_0 {x1 x2 x3 : Int} {σ : SS} : ev 825 0 [qR 0, qI x1, qI x2, qI x3, qU] [] σ = (ev 210 0 [qR 34, qI x1, qI x2] [] σ).bind (fun x => ev 825 9 [qR 0, qI x1, qI x2, qI x3, qU] (q_push x.1 []) x.2) :=
  Eq.trans (e_aload_n d_825_0 rfl) (Eq.trans (e_getR d_825_1 fl_8_46 sh_0 rfl) (Eq.trans (e_iload_n d_825_4 rfl) (Eq.trans (e_iload_n d_825_5 rfl) (e_callV d_825_6 ml_8_269 fit_825_210 par_210 rfl rfl sh_34 (Nat.le_of_ble_eq_true rfl) (Nat.le_of_ble_eq_true rfl) (Nat.le_of_ble_eq_true rfl) rfl (by decide) rfl))))
theorem b825_9 {x1 x2 x3 y0 : Int} {σ : SS} : ev 825 9 [qR 0, qI x1, qI x2, qI x3, qU] [qI y0] σ = if y0 = 0 then ev 825 24 [qR 0, qI x1, qI x2, qI x3, qU] [] σ else ev 825 12 [qR 0, qI x1, qI x2, qI x3, qU] [] σ :=
  e_if_eq d_825_9 (by decide)
theorem b825_12 {x1 x2 x3 : Int} {σ : SS} : ev 825 12 [qR 0, qI x1, qI x2, qI x3, qU] [] σ = (ev 210 0 [qR 34, qI x1, qI x3] [] σ).bind (fun x => ev 825 21 [qR 0, qI x1, qI x2, qI x3, qU] (q_push x.1 []) x.2) :=
  Eq.trans (e_aload_n d_825_12 rfl) (Eq.trans (e_getR d_825_13 fl_8_46 sh_0 rfl) (Eq.trans (e_iload_n d_825_16 rfl) (Eq.trans (e_iload_n d_825_17 rfl) (e_callV d_825_18 ml_8_269 fit_825_210 par_210 rfl rfl sh_34 (Nat.le_of_ble_eq_true rfl) (Nat.le_of_ble_eq_true rfl) (Nat.le_of_ble_eq_true rfl) rfl (by decide) rfl))))
theorem b825_21 {x1 x2 x3 y0 : Int} {σ : SS} : ev 825 21 [qR 0, qI x1, qI x2, qI x3, qU] [qI y0] σ = if y0 = 0 then ev 825 24 [qR 0, qI x1, qI x2, qI x3, qU] [] σ else ev 825 26 [qR 0, qI x1, qI x2, qI x3, qU] [] σ :=
  e_if_ne d_825_21 (by decide)
theorem b825_24 {x1 x2 x3 : Int} {σ : SS} : ev 825 24 [qR 0, qI x1, qI x2, qI x3, qU] [] σ = some (some (qI 0), σ) :=
  Eq.trans (e_iconst d_825_24 k_0) (e_iret d_825_25 (q_okrZ rfl (by decide)))
theorem b825_26 {x1 x2 x3 : Int} {σ : SS} : ev 825 26 [qR 0, qI x1, qI x2, qI x3, qU] [] σ = ev 825 29 [qR 0, qI x1, qI x2, qI x3, qI 0] [] σ :=
  Eq.trans (e_iconst d_825_26 k_0) (e_istore d_825_27 (by decide) (Nat.le_of_ble_eq_true rfl) rfl)
theorem b825_29 {x1 x2 x3 x4 : Int} {σ : SS} : ev 825 29 [qR 0, qI x1, qI x2, qI x3, qI x4] [] σ = if x4 < (σ 12 10) then ev 825 41 [qR 0, qI x1, qI x2, qI x3, qI x4] [] σ else ev 825 70 [qR 0, qI x1, qI x2, qI x3, qI x4] [] σ :=
  Eq.trans (e_iload d_825_29 rfl) (Eq.trans (e_aload_n d_825_31 rfl) (Eq.trans (e_getR d_825_32 fl_8_23 sh_0 rfl) (Eq.trans (e_getI d_825_35 fl_8_107 sh_12 rfl) (e_icmp_ge d_825_38 (by decide)))))
theorem b825_41 {x1 x2 x3 x4 : Int} {σ : SS} : ev 825 41 [qR 0, qI x1, qI x2, qI x3, qI x4] [] σ = if x4 = x1 then ev 825 64 [qR 0, qI x1, qI x2, qI x3, qI x4] [] σ else ev 825 47 [qR 0, qI x1, qI x2, qI x3, qI x4] [] σ :=
  Eq.trans (e_iload d_825_41 rfl) (Eq.trans (e_iload_n d_825_43 rfl) (e_icmp_eq d_825_44 (by decide)))
theorem b825_47 {x1 x2 x3 x4 : Int} {σ : SS} : ev 825 47 [qR 0, qI x1, qI x2, qI x3, qI x4] [] σ = (ev 211 0 [qR 34, qI x4, qI x2, qI x3, qU, qU, qU] [] σ).bind (fun x => ev 825 58 [qR 0, qI x1, qI x2, qI x3, qI x4] (q_push x.1 []) x.2) :=
  Eq.trans (e_aload_n d_825_47 rfl) (Eq.trans (e_getR d_825_48 fl_8_46 sh_0 rfl) (Eq.trans (e_iload d_825_51 rfl) (Eq.trans (e_iload_n d_825_53 rfl) (Eq.trans (e_iload_n d_825_54 rfl) (e_callV d_825_55 ml_8_272 fit_825_211 par_211 rfl rfl sh_34 (Nat.le_of_ble_eq_true rfl) (Nat.le_of_ble_eq_true rfl) (Nat.le_of_ble_eq_true rfl) rfl (by decide) rfl)))))
theorem b825_58 {x1 x2 x3 x4 y0 : Int} {σ : SS} : ev 825 58 [qR 0, qI x1, qI x2, qI x3, qI x4] [qI y0] σ = if y0 = (-1) then ev 825 64 [qR 0, qI x1, qI x2, qI x3, qI x4] [] σ else ev 825 62 [qR 0, qI x1, qI x2, qI x3, qI x4] [] σ :=
  Eq.trans (e_iconst d_825_58 k_m1) (e_icmp_eq d_825_59 (by decide))
theorem b825_62 {x1 x2 x3 x4 : Int} {σ : SS} : ev 825 62 [qR 0, qI x1, qI x2, qI x3, qI x4] [] σ = some (some (qI 0), σ) :=
  Eq.trans (e_iconst d_825_62 k_0) (e_iret d_825_63 (q_okrZ rfl (by decide)))
theorem b825_64 {x1 x2 x3 x4 : Int} {σ : SS} (h : -2147483648 ≤ (x4 + 1) ∧ (x4 + 1) ≤ 2147483647) : ev 825 64 [qR 0, qI x1, qI x2, qI x3, qI x4] [] σ = ev 825 29 [qR 0, qI x1, qI x2, qI x3, qI (x4 + 1)] [] σ :=
  Eq.trans (e_iinc d_825_64 (by decide) rfl h rfl) (e_goto d_825_67 (by decide))
theorem b825_70 {x1 x2 x3 x4 : Int} {σ : SS} : ev 825 70 [qR 0, qI x1, qI x2, qI x3, qI x4] [] σ = some (some (qI 1), σ) :=
  Eq.trans (e_iconst d_825_70 k_1) (e_iret d_825_71 (q_okrZ rfl (by decide)))
theorem b849_0 {x0 : Int} {σ : SS} : ev 849 0 [qI x0] [] σ = if x0 < 0 then ev 849 14 [qI x0] [] σ else ev 849 4 [qI x0] [] σ :=
  Eq.trans (e_iload_n d_849_0 rfl) (e_if_lt d_849_1 (by decide))
theorem b849_4 {x0 : Int} {σ : SS} : ev 849 4 [qI x0] [] σ = if x0 < 24 then ev 849 10 [qI x0] [] σ else ev 849 14 [qI x0] [] σ :=
  Eq.trans (e_iload_n d_849_4 rfl) (Eq.trans (e_bipush d_849_5 kb_24) (e_icmp_ge d_849_7 (by decide)))
theorem b849_10 {x0 : Int} {σ : SS} : ev 849 10 [qI x0] [] σ = ev 849 15 [qI x0] [qI 1] σ :=
  Eq.trans (e_iconst d_849_10 k_1) (e_goto d_849_11 (by decide))
theorem b849_14 {x0 : Int} {σ : SS} : ev 849 14 [qI x0] [] σ = ev 849 15 [qI x0] [qI 0] σ :=
  e_iconst d_849_14 k_0
theorem b849_15 {x0 y0 : Int} {σ : SS} (h : y0 = 0 ∨ y0 = 1) : ev 849 15 [qI x0] [qI y0] σ = some (some (qI y0), σ) :=
  e_iret d_849_15 (q_okrZ rfl h)
theorem b829_0 {x1 x2 : Int} {σ : SS} : ev 829 0 [qR 0, qI x1, qI x2] [] σ = (ev 603 0 [qR 12, qI x1] [] σ).bind (fun x => ev 829 8 [qR 0, qI x1, qI x2] (q_push x.1 []) x.2) :=
  Eq.trans (e_aload_n d_829_0 rfl) (Eq.trans (e_getR d_829_1 fl_8_23 sh_0 rfl) (Eq.trans (e_iload_n d_829_4 rfl) (e_callV d_829_5 ml_8_187 fit_829_603 par_603 rfl rfl sh_12 (Nat.le_of_ble_eq_true rfl) (Nat.le_of_ble_eq_true rfl) (Nat.le_of_ble_eq_true rfl) rfl (by decide) rfl)))
theorem b829_8 {x1 x2 y0 : Int} {σ : SS} : ev 829 8 [qR 0, qI x1, qI x2] [qI y0] σ = if y0 = 0 then ev 829 31 [qR 0, qI x1, qI x2] [] σ else ev 829 11 [qR 0, qI x1, qI x2] [] σ :=
  e_if_eq d_829_8 (by decide)
theorem b829_11 {x1 x2 : Int} {σ : SS} : ev 829 11 [qR 0, qI x1, qI x2] [] σ = (ev 603 0 [qR 12, qI x2] [] σ).bind (fun x => ev 829 19 [qR 0, qI x1, qI x2] (q_push x.1 []) x.2) :=
  Eq.trans (e_aload_n d_829_11 rfl) (Eq.trans (e_getR d_829_12 fl_8_23 sh_0 rfl) (Eq.trans (e_iload_n d_829_15 rfl) (e_callV d_829_16 ml_8_187 fit_829_603 par_603 rfl rfl sh_12 (Nat.le_of_ble_eq_true rfl) (Nat.le_of_ble_eq_true rfl) (Nat.le_of_ble_eq_true rfl) rfl (by decide) rfl)))
theorem b829_19 {x1 x2 y0 : Int} {σ : SS} : ev 829 19 [qR 0, qI x1, qI x2] [qI y0] σ = if y0 = 0 then ev 829 31 [qR 0, qI x1, qI x2] [] σ else ev 829 22 [qR 0, qI x1, qI x2] [] σ :=
  e_if_eq d_829_19 (by decide)
theorem b829_22 {x1 x2 : Int} {σ : SS} : ev 829 22 [qR 0, qI x1, qI x2] [] σ = if x1 = x2 then ev 829 31 [qR 0, qI x1, qI x2] [] σ else ev 829 27 [qR 0, qI x1, qI x2] [] σ :=
  Eq.trans (e_iload_n d_829_22 rfl) (Eq.trans (e_iload_n d_829_23 rfl) (e_icmp_eq d_829_24 (by decide)))
theorem b829_27 {x1 x2 : Int} {σ : SS} : ev 829 27 [qR 0, qI x1, qI x2] [] σ = ev 829 32 [qR 0, qI x1, qI x2] [qI 1] σ :=
  Eq.trans (e_iconst d_829_27 k_1) (e_goto d_829_28 (by decide))
theorem b829_31 {x1 x2 : Int} {σ : SS} : ev 829 31 [qR 0, qI x1, qI x2] [] σ = ev 829 32 [qR 0, qI x1, qI x2] [qI 0] σ :=
  e_iconst d_829_31 k_0
theorem b829_32 {x1 x2 y0 : Int} {σ : SS} (h : y0 = 0 ∨ y0 = 1) : ev 829 32 [qR 0, qI x1, qI x2] [qI y0] σ = some (some (qI y0), σ) :=
  e_iret d_829_32 (q_okrZ rfl h)
theorem b834_0 {σ : SS} : ev 834 0 [qR 0, qU, qU] [] σ = ev 834 4 [qR 0, qI 0, qI 0] [] σ :=
  Eq.trans (e_iconst d_834_0 k_0) (Eq.trans (e_istore_n d_834_1 (by decide) (Nat.le_of_ble_eq_true rfl) rfl) (Eq.trans (e_iconst d_834_2 k_0) (e_istore_n d_834_3 (by decide) (Nat.le_of_ble_eq_true rfl) rfl)))
theorem b834_4 {x1 x2 : Int} {σ : SS} : ev 834 4 [qR 0, qI x1, qI x2] [] σ = if x2 < (σ 12 10) then ev 834 15 [qR 0, qI x1, qI x2] [] σ else ev 834 35 [qR 0, qI x1, qI x2] [] σ :=
  Eq.trans (e_iload_n d_834_4 rfl) (Eq.trans (e_aload_n d_834_5 rfl) (Eq.trans (e_getR d_834_6 fl_8_23 sh_0 rfl) (Eq.trans (e_getI d_834_9 fl_8_107 sh_12 rfl) (e_icmp_ge d_834_12 (by decide)))))
theorem b834_15 {x1 x2 : Int} {σ : SS} : ev 834 15 [qR 0, qI x1, qI x2] [] σ = (ev 835 0 [qR 0, qI x2, qU] [] σ).bind (fun x => ev 834 20 [qR 0, qI x1, qI x2] (q_push x.1 []) x.2) :=
  Eq.trans (e_aload_n d_834_15 rfl) (Eq.trans (e_iload_n d_834_16 rfl) (e_callV d_834_17 ml_8_312 fit_834_835 par_835 rfl rfl sh_0 (Nat.le_of_ble_eq_true rfl) (Nat.le_of_ble_eq_true rfl) (Nat.le_of_ble_eq_true rfl) rfl (by decide) rfl))
theorem b834_20 {x1 x2 y0 : Int} {σ : SS} : ev 834 20 [qR 0, qI x1, qI x2] [qI y0] σ = if y0 = 0 then ev 834 29 [qR 0, qI x1, qI x2] [] σ else ev 834 23 [qR 0, qI x1, qI x2] [] σ :=
  e_if_eq d_834_20 (by decide)
theorem b834_23 {x1 x2 : Int} {σ : SS} : ev 834 23 [qR 0, qI x1, qI x2] [] σ = ev 834 29 [qR 0, qI (q_or x1 (q_shl 1 x2)), qI x2] [] σ :=
  Eq.trans (e_iload_n d_834_23 rfl) (Eq.trans (e_iconst d_834_24 k_1) (Eq.trans (e_iload_n d_834_25 rfl) (Eq.trans (e_ishl d_834_26) (Eq.trans (e_ior d_834_27) (e_istore_n d_834_28 (by decide) (Nat.le_of_ble_eq_true rfl) rfl)))))
theorem b834_29 {x1 x2 : Int} {σ : SS} (h : -2147483648 ≤ (x2 + 1) ∧ (x2 + 1) ≤ 2147483647) : ev 834 29 [qR 0, qI x1, qI x2] [] σ = ev 834 4 [qR 0, qI x1, qI (x2 + 1)] [] σ :=
  Eq.trans (e_iinc d_834_29 (by decide) rfl h rfl) (e_goto d_834_32 (by decide))
theorem b834_35 {x1 x2 : Int} {σ : SS} : ev 834 35 [qR 0, qI x1, qI x2] [] σ = some (some (qI x1), σ) :=
  Eq.trans (e_iload_n d_834_35 rfl) (e_iret d_834_36 (q_okrI rfl))
theorem b837_0 {x1 x2 : Int} {σ : SS} : ev 837 0 [qR 0, qI x1, qI x2, qU, qU] [] σ = ev 837 5 [qR 0, qI x1, qI x2, qI 0, qI 0] [] σ :=
  Eq.trans (e_iconst d_837_0 k_0) (Eq.trans (e_istore_n d_837_1 (by decide) (Nat.le_of_ble_eq_true rfl) rfl) (Eq.trans (e_iconst d_837_2 k_0) (e_istore d_837_3 (by decide) (Nat.le_of_ble_eq_true rfl) rfl)))
theorem b837_5 {x1 x2 x3 x4 : Int} {σ : SS} : ev 837 5 [qR 0, qI x1, qI x2, qI x3, qI x4] [] σ = if x4 < (σ 12 10) then ev 837 17 [qR 0, qI x1, qI x2, qI x3, qI x4] [] σ else ev 837 48 [qR 0, qI x1, qI x2, qI x3, qI x4] [] σ :=
  Eq.trans (e_iload d_837_5 rfl) (Eq.trans (e_aload_n d_837_7 rfl) (Eq.trans (e_getR d_837_8 fl_8_23 sh_0 rfl) (Eq.trans (e_getI d_837_11 fl_8_107 sh_12 rfl) (e_icmp_ge d_837_14 (by decide)))))
theorem b837_17 {x1 x2 x3 x4 : Int} {σ : SS} : ev 837 17 [qR 0, qI x1, qI x2, qI x3, qI x4] [] σ = (ev 848 0 [qI x1, qI x4] [] σ).bind (fun x => ev 837 23 [qR 0, qI x1, qI x2, qI x3, qI x4] (q_push x.1 []) x.2) :=
  Eq.trans (e_iload_n d_837_17 rfl) (Eq.trans (e_iload d_837_18 rfl) (e_callS d_837_20 (by decide) ml_8_219 fit_837_848 par_848 rfl rfl (Nat.le_of_ble_eq_true rfl) (Nat.le_of_ble_eq_true rfl) (Nat.le_of_ble_eq_true rfl) rfl (by decide) rfl))
theorem b837_23 {x1 x2 x3 x4 y0 : Int} {σ : SS} : ev 837 23 [qR 0, qI x1, qI x2, qI x3, qI x4] [qI y0] σ = if y0 = 0 then ev 837 42 [qR 0, qI x1, qI x2, qI x3, qI x4] [] σ else ev 837 26 [qR 0, qI x1, qI x2, qI x3, qI x4] [] σ :=
  e_if_eq d_837_23 (by decide)
theorem b837_26 {x1 x2 x3 x4 : Int} {σ : SS} : ev 837 26 [qR 0, qI x1, qI x2, qI x3, qI x4] [] σ = (ev 210 0 [qR 34, qI x4, qI x2] [] σ).bind (fun x => ev 837 36 [qR 0, qI x1, qI x2, qI x3, qI x4] (q_push x.1 []) x.2) :=
  Eq.trans (e_aload_n d_837_26 rfl) (Eq.trans (e_getR d_837_27 fl_8_46 sh_0 rfl) (Eq.trans (e_iload d_837_30 rfl) (Eq.trans (e_iload_n d_837_32 rfl) (e_callV d_837_33 ml_8_269 fit_837_210 par_210 rfl rfl sh_34 (Nat.le_of_ble_eq_true rfl) (Nat.le_of_ble_eq_true rfl) (Nat.le_of_ble_eq_true rfl) rfl (by decide) rfl))))
theorem b837_36 {x1 x2 x3 x4 y0 : Int} {σ : SS} : ev 837 36 [qR 0, qI x1, qI x2, qI x3, qI x4] [qI y0] σ = if y0 = 0 then ev 837 42 [qR 0, qI x1, qI x2, qI x3, qI x4] [] σ else ev 837 39 [qR 0, qI x1, qI x2, qI x3, qI x4] [] σ :=
  e_if_eq d_837_36 (by decide)
theorem b837_39 {x1 x2 x3 x4 : Int} {σ : SS} (h : -2147483648 ≤ (x3 + 1) ∧ (x3 + 1) ≤ 2147483647) : ev 837 39 [qR 0, qI x1, qI x2, qI x3, qI x4] [] σ = ev 837 42 [qR 0, qI x1, qI x2, qI (x3 + 1), qI x4] [] σ :=
  e_iinc d_837_39 (by decide) rfl h rfl
theorem b837_42 {x1 x2 x3 x4 : Int} {σ : SS} (h : -2147483648 ≤ (x4 + 1) ∧ (x4 + 1) ≤ 2147483647) : ev 837 42 [qR 0, qI x1, qI x2, qI x3, qI x4] [] σ = ev 837 5 [qR 0, qI x1, qI x2, qI x3, qI (x4 + 1)] [] σ :=
  Eq.trans (e_iinc d_837_42 (by decide) rfl h rfl) (e_goto d_837_45 (by decide))
theorem b837_48 {x1 x2 x3 x4 : Int} {σ : SS} : ev 837 48 [qR 0, qI x1, qI x2, qI x3, qI x4] [] σ = some (some (qI x3), σ) :=
  Eq.trans (e_iload_n d_837_48 rfl) (e_iret d_837_49 (q_okrI rfl))
theorem b840_0 {x1 : Int} {σ : SS} : ev 840 0 [qR 0, qI x1, qU] [] σ = ev 840 2 [qR 0, qI x1, qI 0] [] σ :=
  Eq.trans (e_iconst d_840_0 k_0) (e_istore_n d_840_1 (by decide) (Nat.le_of_ble_eq_true rfl) rfl)
theorem b840_2 {x1 x2 : Int} {σ : SS} (h : 0 ≤ x1 ∧ x1 < 6) : ev 840 2 [qR 0, qI x1, qI x2] [] σ = if x2 < (σ 20 x1.toNat) then ev 840 15 [qR 0, qI x1, qI x2] [] σ else ev 840 32 [qR 0, qI x1, qI x2] [] σ :=
  Eq.trans (e_iload_n d_840_2 rfl) (Eq.trans (e_aload_n d_840_3 rfl) (Eq.trans (e_getR d_840_4 fl_8_23 sh_0 rfl) (Eq.trans (e_getR d_840_7 fl_8_212 sh_12 rfl) (Eq.trans (e_iload_n d_840_10 rfl) (Eq.trans (e_iald d_840_11 sh_20 h) (e_icmp_ge d_840_12 (by decide)))))))
theorem b840_15 {x1 x2 : Int} {σ : SS} : ev 840 15 [qR 0, qI x1, qI x2] [] σ = (ev 841 0 [qR 0, qI x1, qI x2, qU] [] σ).bind (fun x => ev 840 21 [qR 0, qI x1, qI x2] (q_push x.1 []) x.2) :=
  Eq.trans (e_aload_n d_840_15 rfl) (Eq.trans (e_iload_n d_840_16 rfl) (Eq.trans (e_iload_n d_840_17 rfl) (e_callV d_840_18 ml_8_327 fit_840_841 par_841 rfl rfl sh_0 (Nat.le_of_ble_eq_true rfl) (Nat.le_of_ble_eq_true rfl) (Nat.le_of_ble_eq_true rfl) rfl (by decide) rfl)))
theorem b840_21 {x1 x2 y0 : Int} {σ : SS} : ev 840 21 [qR 0, qI x1, qI x2] [qI y0] σ = if y0 = 0 then ev 840 26 [qR 0, qI x1, qI x2] [] σ else ev 840 24 [qR 0, qI x1, qI x2] [] σ :=
  e_if_eq d_840_21 (by decide)
theorem b840_24 {x1 x2 : Int} {σ : SS} : ev 840 24 [qR 0, qI x1, qI x2] [] σ = some (some (qI 1), σ) :=
  Eq.trans (e_iconst d_840_24 k_1) (e_iret d_840_25 (q_okrZ rfl (by decide)))
theorem b840_26 {x1 x2 : Int} {σ : SS} (h : -2147483648 ≤ (x2 + 1) ∧ (x2 + 1) ≤ 2147483647) : ev 840 26 [qR 0, qI x1, qI x2] [] σ = ev 840 2 [qR 0, qI x1, qI (x2 + 1)] [] σ :=
  Eq.trans (e_iinc d_840_26 (by decide) rfl h rfl) (e_goto d_840_29 (by decide))
theorem b840_32 {x1 x2 : Int} {σ : SS} : ev 840 32 [qR 0, qI x1, qI x2] [] σ = some (some (qI 0), σ) :=
  Eq.trans (e_iconst d_840_32 k_0) (e_iret d_840_33 (q_okrZ rfl (by decide)))
theorem b819_0 {x0 x1 x2 : Int} {σ : SS} : ev 819 0 [qI x0, qI x1, qI x2, qU, qU] [] σ = ev 819 5 [qI x0, qI x1, qI x2, qI x1, qI 0] [] σ :=
  Eq.trans (e_iload_n d_819_0 rfl) (Eq.trans (e_istore_n d_819_1 (by decide) (Nat.le_of_ble_eq_true rfl) rfl) (Eq.trans (e_iconst d_819_2 k_0) (e_istore d_819_3 (by decide) (Nat.le_of_ble_eq_true rfl) rfl)))
theorem b819_5 {x0 x1 x2 x3 x4 : Int} {σ : SS} : ev 819 5 [qI x0, qI x1, qI x2, qI x3, qI x4] [] σ = if x4 < 6 then ev 819 12 [qI x0, qI x1, qI x2, qI x3, qI x4] [] σ else ev 819 37 [qI x0, qI x1, qI x2, qI x3, qI x4] [] σ :=
  Eq.trans (e_iload d_819_5 rfl) (Eq.trans (e_bipush d_819_7 kb_6) (e_icmp_ge d_819_9 (by decide)))
theorem b819_12 {x0 x1 x2 x3 x4 : Int} {σ : SS} : ev 819 12 [qI x0, qI x1, qI x2, qI x3, qI x4] [] σ = (ev 848 0 [qI x0, qI x4] [] σ).bind (fun x => ev 819 18 [qI x0, qI x1, qI x2, qI x3, qI x4] (q_push x.1 []) x.2) :=
  Eq.trans (e_iload_n d_819_12 rfl) (Eq.trans (e_iload d_819_13 rfl) (e_callS d_819_15 (by decide) ml_8_219 fit_819_848 par_848 rfl rfl (Nat.le_of_ble_eq_true rfl) (Nat.le_of_ble_eq_true rfl) (Nat.le_of_ble_eq_true rfl) rfl (by decide) rfl))
theorem b819_18 {x0 x1 x2 x3 x4 y0 : Int} {σ : SS} : ev 819 18 [qI x0, qI x1, qI x2, qI x3, qI x4] [qI y0] σ = if y0 = 0 then ev 819 31 [qI x0, qI x1, qI x2, qI x3, qI x4] [] σ else ev 819 21 [qI x0, qI x1, qI x2, qI x3, qI x4] [] σ :=
  e_if_eq d_819_18 (by decide)
theorem b819_21 {x0 x1 x2 x3 x4 : Int} {σ : SS} : ev 819 21 [qI x0, qI x1, qI x2, qI x3, qI x4] [] σ = if x3 = 0 then ev 819 25 [qI x0, qI x1, qI x2, qI x3, qI x4] [] σ else ev 819 28 [qI x0, qI x1, qI x2, qI x3, qI x4] [] σ :=
  Eq.trans (e_iload_n d_819_21 rfl) (e_if_ne d_819_22 (by decide))
theorem b819_25 {x0 x1 x2 x3 x4 : Int} {σ : SS} : ev 819 25 [qI x0, qI x1, qI x2, qI x3, qI x4] [] σ = some (some (qI x4), σ) :=
  Eq.trans (e_iload d_819_25 rfl) (e_iret d_819_27 (q_okrI rfl))
theorem b819_28 {x0 x1 x2 x3 x4 : Int} {σ : SS} (h : -2147483648 ≤ (x3 + (-1)) ∧ (x3 + (-1)) ≤ 2147483647) : ev 819 28 [qI x0, qI x1, qI x2, qI x3, qI x4] [] σ = ev 819 31 [qI x0, qI x1, qI x2, qI (x3 + (-1)), qI x4] [] σ :=
  e_iinc d_819_28 (by decide) rfl h rfl
theorem b819_31 {x0 x1 x2 x3 x4 : Int} {σ : SS} (h : -2147483648 ≤ (x4 + 1) ∧ (x4 + 1) ≤ 2147483647) : ev 819 31 [qI x0, qI x1, qI x2, qI x3, qI x4] [] σ = ev 819 5 [qI x0, qI x1, qI x2, qI x3, qI (x4 + 1)] [] σ :=
  Eq.trans (e_iinc d_819_31 (by decide) rfl h rfl) (e_goto d_819_34 (by decide))
theorem b819_37 {x0 x1 x2 x3 x4 : Int} {σ : SS} : ev 819 37 [qI x0, qI x1, qI x2, qI x3, qI x4] [] σ = some (some (qI x2), σ) :=
  Eq.trans (e_iload_n d_819_37 rfl) (e_iret d_819_38 (q_okrI rfl))
theorem b835_0 {x1 : Int} {σ : SS} : ev 835 0 [qR 0, qI x1, qU] [] σ = ev 835 2 [qR 0, qI x1, qI 0] [] σ :=
  Eq.trans (e_iconst d_835_0 k_0) (e_istore_n d_835_1 (by decide) (Nat.le_of_ble_eq_true rfl) rfl)
theorem b835_2 {x1 x2 : Int} {σ : SS} : ev 835 2 [qR 0, qI x1, qI x2] [] σ = if x2 < (σ 35 2) then ev 835 13 [qR 0, qI x1, qI x2] [] σ else ev 835 50 [qR 0, qI x1, qI x2] [] σ :=
  Eq.trans (e_iload_n d_835_2 rfl) (Eq.trans (e_aload_n d_835_3 rfl) (Eq.trans (e_getR d_835_4 fl_8_53 sh_0 rfl) (Eq.trans (e_getI d_835_7 fl_8_161 sh_35 rfl) (e_icmp_ge d_835_10 (by decide)))))
theorem b835_13 {x1 x2 : Int} {σ : SS} (h : 0 ≤ x2 ∧ x2 < 20) : ev 835 13 [qR 0, qI x1, qI x2] [] σ = (ev 210 0 [qR 34, qI x1, qI (σ 36 x2.toNat)] [] σ).bind (fun x => ev 835 30 [qR 0, qI x1, qI x2] (q_push x.1 []) x.2) :=
  Eq.trans (e_aload_n d_835_13 rfl) (Eq.trans (e_getR d_835_14 fl_8_46 sh_0 rfl) (Eq.trans (e_iload_n d_835_17 rfl) (Eq.trans (e_aload_n d_835_18 rfl) (Eq.trans (e_getR d_835_19 fl_8_53 sh_0 rfl) (Eq.trans (e_getR d_835_22 fl_8_302 sh_35 rfl) (Eq.trans (e_iload_n d_835_25 rfl) (Eq.trans (e_iald d_835_26 sh_36 h) (e_callV d_835_27 ml_8_269 fit_835_210 par_210 rfl rfl sh_34 (Nat.le_of_ble_eq_true rfl) (Nat.le_of_ble_eq_true rfl) (Nat.le_of_ble_eq_true rfl) rfl (by decide) rfl))))))))
theorem b835_30 {x1 x2 y0 : Int} {σ : SS} (h : 0 ≤ x2 ∧ x2 < 20) : ev 835 30 [qR 0, qI x1, qI x2] [qI y0] σ = if y0 = (σ 37 x2.toNat) then ev 835 44 [qR 0, qI x1, qI x2] [] σ else ev 835 42 [qR 0, qI x1, qI x2] [] σ :=
  Eq.trans (e_aload_n d_835_30 rfl) (Eq.trans (e_getR d_835_31 fl_8_53 sh_0 rfl) (Eq.trans (e_getR d_835_34 fl_8_305 sh_35 rfl) (Eq.trans (e_iload_n d_835_37 rfl) (Eq.trans (e_bald d_835_38 sh_37 h) (e_icmp_eq d_835_39 (by decide))))))
theorem b835_42 {x1 x2 : Int} {σ : SS} : ev 835 42 [qR 0, qI x1, qI x2] [] σ = some (some (qI 0), σ) :=
  Eq.trans (e_iconst d_835_42 k_0) (e_iret d_835_43 (q_okrZ rfl (by decide)))
theorem b835_44 {x1 x2 : Int} {σ : SS} (h : -2147483648 ≤ (x2 + 1) ∧ (x2 + 1) ≤ 2147483647) : ev 835 44 [qR 0, qI x1, qI x2] [] σ = ev 835 2 [qR 0, qI x1, qI (x2 + 1)] [] σ :=
  Eq.trans (e_iinc d_835_44 (by decide) rfl h rfl) (e_goto d_835_47 (by decide))
theorem b835_50 {x1 x2 : Int} {σ : SS} : ev 835 50 [qR 0, qI x1, qI x2] [] σ = some (some (qI 1), σ) :=
  Eq.trans (e_iconst d_835_50 k_1) (e_iret d_835_51 (q_okrZ rfl (by decide)))
theorem b841_0 {x1 x2 : Int} {σ : SS} : ev 841 0 [qR 0, qI x1, qI x2, qU] [] σ = ev 841 2 [qR 0, qI x1, qI x2, qI 0] [] σ :=
  Eq.trans (e_iconst d_841_0 k_0) (e_istore_n d_841_1 (by decide) (Nat.le_of_ble_eq_true rfl) rfl)
theorem b841_2 {x1 x2 x3 : Int} {σ : SS} : ev 841 2 [qR 0, qI x1, qI x2, qI x3] [] σ = if x3 < (σ 35 4) then ev 841 13 [qR 0, qI x1, qI x2, qI x3] [] σ else ev 841 44 [qR 0, qI x1, qI x2, qI x3] [] σ :=
  Eq.trans (e_iload_n d_841_2 rfl) (Eq.trans (e_aload_n d_841_3 rfl) (Eq.trans (e_getR d_841_4 fl_8_53 sh_0 rfl) (Eq.trans (e_getI d_841_7 fl_8_164 sh_35 rfl) (e_icmp_ge d_841_10 (by decide)))))
theorem b841_13 {x1 x2 x3 : Int} {σ : SS} (h : -2147483648 ≤ (x2 + x3) ∧ (x2 + x3) ≤ 2147483647) : ev 841 13 [qR 0, qI x1, qI x2, qI x3] [] σ = (ev 608 0 [qR 12, qI x1, qI (x2 + x3)] [] σ).bind (fun x => ev 841 24 [qR 0, qI x1, qI x2, qI x3] (q_push x.1 []) x.2) :=
  Eq.trans (e_aload_n d_841_13 rfl) (Eq.trans (e_getR d_841_14 fl_8_23 sh_0 rfl) (Eq.trans (e_iload_n d_841_17 rfl) (Eq.trans (e_iload_n d_841_18 rfl) (Eq.trans (e_iload_n d_841_19 rfl) (Eq.trans (e_iadd d_841_20 h) (e_callV d_841_21 ml_8_330 fit_841_608 par_608 rfl rfl sh_12 (Nat.le_of_ble_eq_true rfl) (Nat.le_of_ble_eq_true rfl) (Nat.le_of_ble_eq_true rfl) rfl (by decide) rfl))))))
theorem b841_24 {x1 x2 x3 y0 : Int} {σ : SS} (h : 0 ≤ x3 ∧ x3 < 12) : ev 841 24 [qR 0, qI x1, qI x2, qI x3] [qI y0] σ = if y0 = (σ 38 x3.toNat) then ev 841 38 [qR 0, qI x1, qI x2, qI x3] [] σ else ev 841 36 [qR 0, qI x1, qI x2, qI x3] [] σ :=
  Eq.trans (e_aload_n d_841_24 rfl) (Eq.trans (e_getR d_841_25 fl_8_53 sh_0 rfl) (Eq.trans (e_getR d_841_28 fl_8_321 sh_35 rfl) (Eq.trans (e_iload_n d_841_31 rfl) (Eq.trans (e_iald d_841_32 sh_38 h) (e_icmp_eq d_841_33 (by decide))))))
theorem b841_36 {x1 x2 x3 : Int} {σ : SS} : ev 841 36 [qR 0, qI x1, qI x2, qI x3] [] σ = some (some (qI 0), σ) :=
  Eq.trans (e_iconst d_841_36 k_0) (e_iret d_841_37 (q_okrZ rfl (by decide)))
theorem b841_38 {x1 x2 x3 : Int} {σ : SS} (h : -2147483648 ≤ (x3 + 1) ∧ (x3 + 1) ≤ 2147483647) : ev 841 38 [qR 0, qI x1, qI x2, qI x3] [] σ = ev 841 2 [qR 0, qI x1, qI x2, qI (x3 + 1)] [] σ :=
  Eq.trans (e_iinc d_841_38 (by decide) rfl h rfl) (e_goto d_841_41 (by decide))
theorem b841_44 {x1 x2 x3 : Int} {σ : SS} : ev 841 44 [qR 0, qI x1, qI x2, qI x3] [] σ = some (some (qI 1), σ) :=
  Eq.trans (e_iconst d_841_44 k_1) (e_iret d_841_45 (q_okrZ rfl (by decide)))
