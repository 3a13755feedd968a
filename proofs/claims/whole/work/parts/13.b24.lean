theorem d_400_0 : decode (mB 400) 0 = .ok (.aload_n 0, 1) := by decide +kernel
theorem d_400_1 : decode (mB 400) 1 = .ok (.iconst 0, 1) := by decide +kernel
theorem d_400_2 : decode (mB 400) 2 = .ok (.putfield 31, 3) := by decide +kernel
theorem d_400_5 : decode (mB 400) 5 = .ok (.aload_n 0, 1) := by decide +kernel
theorem d_400_6 : decode (mB 400) 6 = .ok (.iconst 0, 1) := by decide +kernel
theorem d_400_7 : decode (mB 400) 7 = .ok (.putfield 35, 3) := by decide +kernel
theorem d_400_10 : decode (mB 400) 10 = .ok (.aload_n 0, 1) := by decide +kernel
theorem d_400_11 : decode (mB 400) 11 = .ok (.iconst 0, 1) := by decide +kernel
theorem d_400_12 : decode (mB 400) 12 = .ok (.putfield 38, 3) := by decide +kernel
theorem d_400_15 : decode (mB 400) 15 = .ok (.return_, 1) := by decide +kernel
theorem d_204_0 : decode (mB 204) 0 = .ok (.aload_n 0, 1) := by decide +kernel
theorem d_204_1 : decode (mB 204) 1 = .ok (.iload_n 1, 1) := by decide +kernel
theorem d_204_2 : decode (mB 204) 2 = .ok (.iload_n 2, 1) := by decide +kernel
theorem d_204_3 : decode (mB 204) 3 = .ok (.invokevirtual 57, 3) := by decide +kernel
theorem d_204_6 : decode (mB 204) 6 = .ok (.ifCond .eq 7, 3) := by decide +kernel
theorem d_204_9 : decode (mB 204) 9 = .ok (.iconst 3, 1) := by decide +kernel
theorem d_204_10 : decode (mB 204) 10 = .ok (.goto 4, 3) := by decide +kernel
theorem d_204_13 : decode (mB 204) 13 = .ok (.iconst 0, 1) := by decide +kernel
theorem d_204_14 : decode (mB 204) 14 = .ok (.istore_n 3, 1) := by decide +kernel
theorem d_204_15 : decode (mB 204) 15 = .ok (.iconst 0, 1) := by decide +kernel
theorem d_204_16 : decode (mB 204) 16 = .ok (.aload_n 0, 1) := by decide +kernel
theorem d_204_17 : decode (mB 204) 17 = .ok (.iload_n 1, 1) := by decide +kernel
theorem d_204_18 : decode (mB 204) 18 = .ok (.iload_n 2, 1) := by decide +kernel
theorem d_204_19 : decode (mB 204) 19 = .ok (.invokevirtual 61, 3) := by decide +kernel
theorem d_204_22 : decode (mB 204) 22 = .ok (.iload_n 3, 1) := by decide +kernel
theorem d_204_23 : decode (mB 204) 23 = .ok (.isub, 1) := by decide +kernel
theorem d_204_24 : decode (mB 204) 24 = .ok (.invokestatic 64, 3) := by decide +kernel
theorem d_204_27 : decode (mB 204) 27 = .ok (.ireturn, 1) := by decide +kernel
theorem d_206_0 : decode (mB 206) 0 = .ok (.aload_n 0, 1) := by decide +kernel
theorem d_206_1 : decode (mB 206) 1 = .ok (.iload_n 1, 1) := by decide +kernel
theorem d_206_2 : decode (mB 206) 2 = .ok (.aload_n 0, 1) := by decide +kernel
theorem d_206_3 : decode (mB 206) 3 = .ok (.getfield 15, 3) := by decide +kernel
theorem d_206_6 : decode (mB 206) 6 = .ok (.getfield 72, 3) := by decide +kernel
theorem d_206_9 : decode (mB 206) 9 = .ok (.invokevirtual 57, 3) := by decide +kernel
theorem d_206_12 : decode (mB 206) 12 = .ok (.ifCond .eq 25, 3) := by decide +kernel
theorem d_206_15 : decode (mB 206) 15 = .ok (.aload_n 0, 1) := by decide +kernel
theorem d_206_16 : decode (mB 206) 16 = .ok (.getfield 15, 3) := by decide +kernel
theorem d_206_19 : decode (mB 206) 19 = .ok (.getfield 69, 3) := by decide +kernel
theorem d_206_22 : decode (mB 206) 22 = .ok (.iload_n 1, 1) := by decide +kernel
theorem d_206_23 : decode (mB 206) 23 = .ok (.iaload, 1) := by decide +kernel
theorem d_206_24 : decode (mB 206) 24 = .ok (.iconst 4, 1) := by decide +kernel
theorem d_206_25 : decode (mB 206) 25 = .ok (.iadd, 1) := by decide +kernel
theorem d_206_26 : decode (mB 206) 26 = .ok (.aload_n 0, 1) := by decide +kernel
theorem d_206_27 : decode (mB 206) 27 = .ok (.getfield 15, 3) := by decide +kernel
theorem d_206_30 : decode (mB 206) 30 = .ok (.getfield 72, 3) := by decide +kernel
theorem d_206_33 : decode (mB 206) 33 = .ok (.isub, 1) := by decide +kernel
theorem d_206_34 : decode (mB 206) 34 = .ok (.goto 4, 3) := by decide +kernel
theorem d_206_37 : decode (mB 206) 37 = .ok (.iconst 0, 1) := by decide +kernel
theorem d_206_38 : decode (mB 206) 38 = .ok (.ireturn, 1) := by decide +kernel
theorem d_208_0 : decode (mB 208) 0 = .ok (.aload_n 0, 1) := by decide +kernel
theorem d_208_1 : decode (mB 208) 1 = .ok (.getfield 9, 3) := by decide +kernel
theorem d_208_4 : decode (mB 208) 4 = .ok (.aload_n 0, 1) := by decide +kernel
theorem d_208_5 : decode (mB 208) 5 = .ok (.iload_n 1, 1) := by decide +kernel
theorem d_208_6 : decode (mB 208) 6 = .ok (.iload_n 2, 1) := by decide +kernel
theorem d_208_7 : decode (mB 208) 7 = .ok (.invokevirtual 82, 3) := by decide +kernel
theorem d_208_10 : decode (mB 208) 10 = .ok (.aload_n 0, 1) := by decide +kernel
theorem d_208_11 : decode (mB 208) 11 = .ok (.invokevirtual 85, 3) := by decide +kernel
theorem d_208_14 : decode (mB 208) 14 = .ok (.invokevirtual 89, 3) := by decide +kernel
theorem d_208_17 : decode (mB 208) 17 = .ok (.ireturn, 1) := by decide +kernel
theorem d_205_0 : decode (mB 205) 0 = .ok (.aload_n 0, 1) := by decide +kernel
theorem d_205_1 : decode (mB 205) 1 = .ok (.getfield 9, 3) := by decide +kernel
theorem d_205_4 : decode (mB 205) 4 = .ok (.iload_n 1, 1) := by decide +kernel
theorem d_205_5 : decode (mB 205) 5 = .ok (.invokevirtual 33, 3) := by decide +kernel
theorem d_205_8 : decode (mB 205) 8 = .ok (.ifCond .eq 35, 3) := by decide +kernel
theorem d_205_11 : decode (mB 205) 11 = .ok (.iload_n 2, 1) := by decide +kernel
theorem d_205_12 : decode (mB 205) 12 = .ok (.aload_n 0, 1) := by decide +kernel
theorem d_205_13 : decode (mB 205) 13 = .ok (.getfield 15, 3) := by decide +kernel
theorem d_205_16 : decode (mB 205) 16 = .ok (.getfield 69, 3) := by decide +kernel
theorem d_205_19 : decode (mB 205) 19 = .ok (.iload_n 1, 1) := by decide +kernel
theorem d_205_20 : decode (mB 205) 20 = .ok (.iaload, 1) := by decide +kernel
theorem d_205_21 : decode (mB 205) 21 = .ok (.if_icmp .lt 22, 3) := by decide +kernel
theorem d_205_24 : decode (mB 205) 24 = .ok (.iload_n 2, 1) := by decide +kernel
theorem d_205_25 : decode (mB 205) 25 = .ok (.aload_n 0, 1) := by decide +kernel
theorem d_205_26 : decode (mB 205) 26 = .ok (.getfield 15, 3) := by decide +kernel
theorem d_205_29 : decode (mB 205) 29 = .ok (.getfield 69, 3) := by decide +kernel
theorem d_205_32 : decode (mB 205) 32 = .ok (.iload_n 1, 1) := by decide +kernel
theorem d_205_33 : decode (mB 205) 33 = .ok (.iaload, 1) := by decide +kernel
theorem d_205_34 : decode (mB 205) 34 = .ok (.iconst 4, 1) := by decide +kernel
theorem d_205_35 : decode (mB 205) 35 = .ok (.iadd, 1) := by decide +kernel
theorem d_205_36 : decode (mB 205) 36 = .ok (.if_icmp .ge 7, 3) := by decide +kernel
theorem d_205_39 : decode (mB 205) 39 = .ok (.iconst 1, 1) := by decide +kernel
theorem d_205_40 : decode (mB 205) 40 = .ok (.goto 4, 3) := by decide +kernel
theorem d_205_43 : decode (mB 205) 43 = .ok (.iconst 0, 1) := by decide +kernel
theorem d_205_44 : decode (mB 205) 44 = .ok (.ireturn, 1) := by decide +kernel
theorem d_211_0 : decode (mB 211) 0 = .ok (.aload_n 0, 1) := by decide +kernel
theorem d_211_1 : decode (mB 211) 1 = .ok (.iload_n 1, 1) := by decide +kernel
theorem d_211_2 : decode (mB 211) 2 = .ok (.iload_n 2, 1) := by decide +kernel
theorem d_211_3 : decode (mB 211) 3 = .ok (.invokevirtual 50, 3) := by decide +kernel
theorem d_211_6 : decode (mB 211) 6 = .ok (.istore 4, 2) := by decide +kernel
theorem d_211_8 : decode (mB 211) 8 = .ok (.aload_n 0, 1) := by decide +kernel
theorem d_211_9 : decode (mB 211) 9 = .ok (.iload_n 1, 1) := by decide +kernel
theorem d_211_10 : decode (mB 211) 10 = .ok (.iload_n 3, 1) := by decide +kernel
theorem d_211_11 : decode (mB 211) 11 = .ok (.invokevirtual 50, 3) := by decide +kernel
theorem d_211_14 : decode (mB 211) 14 = .ok (.istore 5, 2) := by decide +kernel
theorem d_211_16 : decode (mB 211) 16 = .ok (.iconst 0, 1) := by decide +kernel
theorem d_211_17 : decode (mB 211) 17 = .ok (.istore 6, 2) := by decide +kernel
theorem d_211_19 : decode (mB 211) 19 = .ok (.iload 6, 2) := by decide +kernel
theorem d_211_21 : decode (mB 211) 21 = .ok (.iconst 5, 1) := by decide +kernel
theorem d_211_22 : decode (mB 211) 22 = .ok (.if_icmp .gt 56, 3) := by decide +kernel
theorem d_211_25 : decode (mB 211) 25 = .ok (.aload_n 0, 1) := by decide +kernel
theorem d_211_26 : decode (mB 211) 26 = .ok (.getfield 9, 3) := by decide +kernel
theorem d_211_29 : decode (mB 211) 29 = .ok (.iload 4, 2) := by decide +kernel
theorem d_211_31 : decode (mB 211) 31 = .ok (.iload 6, 2) := by decide +kernel
theorem d_211_33 : decode (mB 211) 33 = .ok (.iadd, 1) := by decide +kernel
theorem d_211_34 : decode (mB 211) 34 = .ok (.aload_n 0, 1) := by decide +kernel
theorem d_211_35 : decode (mB 211) 35 = .ok (.getfield 9, 3) := by decide +kernel
theorem d_211_38 : decode (mB 211) 38 = .ok (.getfield 92, 3) := by decide +kernel
theorem d_211_41 : decode (mB 211) 41 = .ok (.invokevirtual 89, 3) := by decide +kernel
theorem d_211_44 : decode (mB 211) 44 = .ok (.ifCond .eq 28, 3) := by decide +kernel
theorem d_211_47 : decode (mB 211) 47 = .ok (.aload_n 0, 1) := by decide +kernel
theorem d_211_48 : decode (mB 211) 48 = .ok (.getfield 9, 3) := by decide +kernel
theorem d_211_51 : decode (mB 211) 51 = .ok (.iload 5, 2) := by decide +kernel
theorem d_211_53 : decode (mB 211) 53 = .ok (.iload 6, 2) := by decide +kernel
theorem d_211_55 : decode (mB 211) 55 = .ok (.iadd, 1) := by decide +kernel
theorem d_211_56 : decode (mB 211) 56 = .ok (.aload_n 0, 1) := by decide +kernel
theorem d_211_57 : decode (mB 211) 57 = .ok (.getfield 9, 3) := by decide +kernel
theorem d_211_60 : decode (mB 211) 60 = .ok (.getfield 92, 3) := by decide +kernel
theorem d_211_63 : decode (mB 211) 63 = .ok (.invokevirtual 89, 3) := by decide +kernel
theorem d_211_66 : decode (mB 211) 66 = .ok (.ifCond .eq 6, 3) := by decide +kernel
theorem d_211_69 : decode (mB 211) 69 = .ok (.iload 6, 2) := by decide +kernel
theorem d_211_71 : decode (mB 211) 71 = .ok (.ireturn, 1) := by decide +kernel
theorem d_211_72 : decode (mB 211) 72 = .ok (.iinc 6 1, 3) := by decide +kernel
theorem d_211_75 : decode (mB 211) 75 = .ok (.goto (-56), 3) := by decide +kernel
theorem d_211_78 : decode (mB 211) 78 = .ok (.iconst (-1), 1) := by decide +kernel
theorem d_211_79 : decode (mB 211) 79 = .ok (.ireturn, 1) := by decide +kernel
theorem d_209_0 : decode (mB 209) 0 = .ok (.aload_n 0, 1) := by decide +kernel
theorem d_209_1 : decode (mB 209) 1 = .ok (.invokevirtual 85, 3) := by decide +kernel
theorem d_209_4 : decode (mB 209) 4 = .ok (.istore_n 2, 1) := by decide +kernel
theorem d_209_5 : decode (mB 209) 5 = .ok (.iconst 0, 1) := by decide +kernel
theorem d_209_6 : decode (mB 209) 6 = .ok (.istore_n 3, 1) := by decide +kernel
theorem d_209_7 : decode (mB 209) 7 = .ok (.iconst 0, 1) := by decide +kernel
theorem d_209_8 : decode (mB 209) 8 = .ok (.istore 4, 2) := by decide +kernel
theorem d_209_10 : decode (mB 209) 10 = .ok (.iload 4, 2) := by decide +kernel
theorem d_209_12 : decode (mB 209) 12 = .ok (.bipush 24, 2) := by decide +kernel
theorem d_209_14 : decode (mB 209) 14 = .ok (.if_icmp .ge 34, 3) := by decide +kernel
theorem d_209_17 : decode (mB 209) 17 = .ok (.aload_n 0, 1) := by decide +kernel
theorem d_209_18 : decode (mB 209) 18 = .ok (.getfield 9, 3) := by decide +kernel
theorem d_209_21 : decode (mB 209) 21 = .ok (.aload_n 0, 1) := by decide +kernel
theorem d_209_22 : decode (mB 209) 22 = .ok (.iload_n 1, 1) := by decide +kernel
theorem d_209_23 : decode (mB 209) 23 = .ok (.iload 4, 2) := by decide +kernel
theorem d_209_25 : decode (mB 209) 25 = .ok (.invokevirtual 61, 3) := by decide +kernel
theorem d_209_28 : decode (mB 209) 28 = .ok (.iload_n 2, 1) := by decide +kernel
theorem d_209_29 : decode (mB 209) 29 = .ok (.invokevirtual 89, 3) := by decide +kernel
theorem d_209_32 : decode (mB 209) 32 = .ok (.ifCond .eq 10, 3) := by decide +kernel
theorem d_209_35 : decode (mB 209) 35 = .ok (.iload_n 3, 1) := by decide +kernel
theorem d_209_36 : decode (mB 209) 36 = .ok (.iconst 1, 1) := by decide +kernel
theorem d_209_37 : decode (mB 209) 37 = .ok (.iload 4, 2) := by decide +kernel
theorem d_209_39 : decode (mB 209) 39 = .ok (.ishl, 1) := by decide +kernel
theorem d_209_40 : decode (mB 209) 40 = .ok (.ior, 1) := by decide +kernel
theorem d_209_41 : decode (mB 209) 41 = .ok (.istore_n 3, 1) := by decide +kernel
theorem d_209_42 : decode (mB 209) 42 = .ok (.iinc 4 1, 3) := by decide +kernel
theorem d_209_45 : decode (mB 209) 45 = .ok (.goto (-35), 3) := by decide +kernel
theorem d_209_48 : decode (mB 209) 48 = .ok (.iload_n 3, 1) := by decide +kernel
theorem d_209_49 : decode (mB 209) 49 = .ok (.ireturn, 1) := by decide +kernel
theorem d_203_0 : decode (mB 203) 0 = .ok (.aload_n 0, 1) := by decide +kernel
theorem d_203_1 : decode (mB 203) 1 = .ok (.iload_n 1, 1) := by decide +kernel
theorem d_203_2 : decode (mB 203) 2 = .ok (.iload_n 2, 1) := by decide +kernel
theorem d_203_3 : decode (mB 203) 3 = .ok (.invokevirtual 50, 3) := by decide +kernel
theorem d_203_6 : decode (mB 203) 6 = .ok (.aload_n 0, 1) := by decide +kernel
theorem d_203_7 : decode (mB 203) 7 = .ok (.iload_n 1, 1) := by decide +kernel
theorem d_203_8 : decode (mB 203) 8 = .ok (.invokevirtual 54, 3) := by decide +kernel
theorem d_203_11 : decode (mB 203) 11 = .ok (.iadd, 1) := by decide +kernel
theorem d_203_12 : decode (mB 203) 12 = .ok (.ireturn, 1) := by decide +kernel
theorem d_212_0 : decode (mB 212) 0 = .ok (.iload_n 1, 1) := by decide +kernel
theorem d_212_1 : decode (mB 212) 1 = .ok (.iload_n 2, 1) := by decide +kernel
theorem d_212_2 : decode (mB 212) 2 = .ok (.invokestatic 64, 3) := by decide +kernel
theorem d_212_5 : decode (mB 212) 5 = .ok (.istore_n 3, 1) := by decide +kernel
theorem d_212_6 : decode (mB 212) 6 = .ok (.iconst 0, 1) := by decide +kernel
theorem d_212_7 : decode (mB 212) 7 = .ok (.iload_n 3, 1) := by decide +kernel
theorem d_212_8 : decode (mB 212) 8 = .ok (.aload_n 0, 1) := by decide +kernel
theorem d_212_9 : decode (mB 212) 9 = .ok (.getfield 9, 3) := by decide +kernel
theorem d_212_12 : decode (mB 212) 12 = .ok (.getfield 92, 3) := by decide +kernel
theorem d_212_15 : decode (mB 212) 15 = .ok (.isub, 1) := by decide +kernel
theorem d_212_16 : decode (mB 212) 16 = .ok (.invokestatic 64, 3) := by decide +kernel
theorem d_212_19 : decode (mB 212) 19 = .ok (.aload_n 0, 1) := by decide +kernel
theorem d_212_20 : decode (mB 212) 20 = .ok (.getfield 9, 3) := by decide +kernel
theorem d_212_23 : decode (mB 212) 23 = .ok (.getfield 95, 3) := by decide +kernel
theorem d_212_26 : decode (mB 212) 26 = .ok (.imul, 1) := by decide +kernel
theorem d_212_27 : decode (mB 212) 27 = .ok (.istore 4, 2) := by decide +kernel
theorem d_212_29 : decode (mB 212) 29 = .ok (.aload_n 0, 1) := by decide +kernel
theorem d_212_30 : decode (mB 212) 30 = .ok (.getfield 9, 3) := by decide +kernel
theorem d_212_33 : decode (mB 212) 33 = .ok (.iload 4, 2) := by decide +kernel
theorem d_212_35 : decode (mB 212) 35 = .ok (.invokevirtual 79, 3) := by decide +kernel
theorem d_212_38 : decode (mB 212) 38 = .ok (.istore 5, 2) := by decide +kernel
theorem d_212_40 : decode (mB 212) 40 = .ok (.aload_n 0, 1) := by decide +kernel
theorem d_212_41 : decode (mB 212) 41 = .ok (.getfield 9, 3) := by decide +kernel
theorem d_212_44 : decode (mB 212) 44 = .ok (.iload_n 1, 1) := by decide +kernel
theorem d_212_45 : decode (mB 212) 45 = .ok (.iload 5, 2) := by decide +kernel
theorem d_212_47 : decode (mB 212) 47 = .ok (.invokevirtual 89, 3) := by decide +kernel
theorem d_212_50 : decode (mB 212) 50 = .ok (.ifCond .eq 20, 3) := by decide +kernel
theorem d_212_53 : decode (mB 212) 53 = .ok (.aload_n 0, 1) := by decide +kernel
theorem d_212_54 : decode (mB 212) 54 = .ok (.getfield 9, 3) := by decide +kernel
theorem d_212_57 : decode (mB 212) 57 = .ok (.iload_n 2, 1) := by decide +kernel
theorem d_212_58 : decode (mB 212) 58 = .ok (.iload 5, 2) := by decide +kernel
theorem d_212_60 : decode (mB 212) 60 = .ok (.invokevirtual 89, 3) := by decide +kernel
theorem d_212_63 : decode (mB 212) 63 = .ok (.ifCond .eq 7, 3) := by decide +kernel
theorem d_212_66 : decode (mB 212) 66 = .ok (.iconst 1, 1) := by decide +kernel
theorem d_212_67 : decode (mB 212) 67 = .ok (.goto 4, 3) := by decide +kernel
theorem d_212_70 : decode (mB 212) 70 = .ok (.iconst 0, 1) := by decide +kernel
theorem d_212_71 : decode (mB 212) 71 = .ok (.istore 6, 2) := by decide +kernel
theorem d_212_73 : decode (mB 212) 73 = .ok (.iload 6, 2) := by decide +kernel
theorem d_212_75 : decode (mB 212) 75 = .ok (.ifCond .eq 16, 3) := by decide +kernel
theorem d_212_78 : decode (mB 212) 78 = .ok (.iload 4, 2) := by decide +kernel
theorem d_212_80 : decode (mB 212) 80 = .ok (.sipush 9999, 3) := by decide +kernel
theorem d_212_83 : decode (mB 212) 83 = .ok (.if_icmp .gt 8, 3) := by decide +kernel
theorem d_212_86 : decode (mB 212) 86 = .ok (.iload 4, 2) := by decide +kernel
theorem d_212_88 : decode (mB 212) 88 = .ok (.goto 4, 3) := by decide +kernel
theorem d_212_91 : decode (mB 212) 91 = .ok (.iconst (-1), 1) := by decide +kernel
theorem d_212_92 : decode (mB 212) 92 = .ok (.ireturn, 1) := by decide +kernel
theorem d_213_0 : decode (mB 213) 0 = .ok (.aload_n 0, 1) := by decide +kernel
theorem d_213_1 : decode (mB 213) 1 = .ok (.getfield 9, 3) := by decide +kernel
theorem d_213_4 : decode (mB 213) 4 = .ok (.iload_n 1, 1) := by decide +kernel
theorem d_213_5 : decode (mB 213) 5 = .ok (.invokevirtual 33, 3) := by decide +kernel
theorem d_213_8 : decode (mB 213) 8 = .ok (.ifCond .eq 15, 3) := by decide +kernel
theorem d_213_11 : decode (mB 213) 11 = .ok (.aload_n 0, 1) := by decide +kernel
theorem d_213_12 : decode (mB 213) 12 = .ok (.getfield 9, 3) := by decide +kernel
theorem d_213_15 : decode (mB 213) 15 = .ok (.getfield 98, 3) := by decide +kernel
theorem d_213_18 : decode (mB 213) 18 = .ok (.iload_n 1, 1) := by decide +kernel
theorem d_213_19 : decode (mB 213) 19 = .ok (.iaload, 1) := by decide +kernel
theorem d_213_20 : decode (mB 213) 20 = .ok (.goto 4, 3) := by decide +kernel
theorem d_213_23 : decode (mB 213) 23 = .ok (.iconst 0, 1) := by decide +kernel
theorem d_213_24 : decode (mB 213) 24 = .ok (.istore_n 3, 1) := by decide +kernel
theorem d_213_25 : decode (mB 213) 25 = .ok (.aload_n 0, 1) := by decide +kernel
theorem d_213_26 : decode (mB 213) 26 = .ok (.iload_n 1, 1) := by decide +kernel
theorem d_213_27 : decode (mB 213) 27 = .ok (.invokevirtual 43, 3) := by decide +kernel
theorem d_213_30 : decode (mB 213) 30 = .ok (.aload_n 0, 1) := by decide +kernel
theorem d_213_31 : decode (mB 213) 31 = .ok (.iload_n 1, 1) := by decide +kernel
theorem d_213_32 : decode (mB 213) 32 = .ok (.invokevirtual 54, 3) := by decide +kernel
theorem d_213_35 : decode (mB 213) 35 = .ok (.iadd, 1) := by decide +kernel
theorem d_213_36 : decode (mB 213) 36 = .ok (.istore 4, 2) := by decide +kernel
theorem d_213_38 : decode (mB 213) 38 = .ok (.aload_n 0, 1) := by decide +kernel
theorem d_213_39 : decode (mB 213) 39 = .ok (.getfield 9, 3) := by decide +kernel
theorem d_213_42 : decode (mB 213) 42 = .ok (.aload_n 0, 1) := by decide +kernel
theorem d_213_43 : decode (mB 213) 43 = .ok (.iload_n 1, 1) := by decide +kernel
theorem d_213_44 : decode (mB 213) 44 = .ok (.iload_n 2, 1) := by decide +kernel
theorem d_213_45 : decode (mB 213) 45 = .ok (.invokevirtual 61, 3) := by decide +kernel
theorem d_213_48 : decode (mB 213) 48 = .ok (.aload_n 0, 1) := by decide +kernel
theorem d_213_49 : decode (mB 213) 49 = .ok (.invokevirtual 85, 3) := by decide +kernel
theorem d_213_52 : decode (mB 213) 52 = .ok (.invokevirtual 89, 3) := by decide +kernel
theorem d_213_55 : decode (mB 213) 55 = .ok (.ifCond .eq 7, 3) := by decide +kernel
theorem d_213_58 : decode (mB 213) 58 = .ok (.iload_n 3, 1) := by decide +kernel
theorem d_213_59 : decode (mB 213) 59 = .ok (.goto 4, 3) := by decide +kernel
theorem d_213_62 : decode (mB 213) 62 = .ok (.iconst 0, 1) := by decide +kernel
theorem d_213_63 : decode (mB 213) 63 = .ok (.istore 5, 2) := by decide +kernel
theorem d_213_65 : decode (mB 213) 65 = .ok (.aload_n 0, 1) := by decide +kernel
theorem d_213_66 : decode (mB 213) 66 = .ok (.getfield 9, 3) := by decide +kernel
theorem d_213_69 : decode (mB 213) 69 = .ok (.iload 4, 2) := by decide +kernel
theorem d_213_71 : decode (mB 213) 71 = .ok (.aload_n 0, 1) := by decide +kernel
theorem d_213_72 : decode (mB 213) 72 = .ok (.invokevirtual 85, 3) := by decide +kernel
theorem d_213_75 : decode (mB 213) 75 = .ok (.invokevirtual 89, 3) := by decide +kernel
theorem d_213_78 : decode (mB 213) 78 = .ok (.ifCond .eq 13, 3) := by decide +kernel
theorem d_213_81 : decode (mB 213) 81 = .ok (.iload 5, 2) := by decide +kernel
theorem d_213_83 : decode (mB 213) 83 = .ok (.bipush 8, 2) := by decide +kernel
theorem d_213_85 : decode (mB 213) 85 = .ok (.iadd, 1) := by decide +kernel
theorem d_213_86 : decode (mB 213) 86 = .ok (.iload_n 3, 1) := by decide +kernel
theorem d_213_87 : decode (mB 213) 87 = .ok (.isub, 1) := by decide +kernel
theorem d_213_88 : decode (mB 213) 88 = .ok (.goto 5, 3) := by decide +kernel
theorem d_213_91 : decode (mB 213) 91 = .ok (.iload 5, 2) := by decide +kernel
theorem d_213_93 : decode (mB 213) 93 = .ok (.ireturn, 1) := by decide +kernel
theorem d_1100_0 : decode (mB 1100) 0 = .ok (.iload_n 0, 1) := by decide +kernel
theorem d_1100_1 : decode (mB 1100) 1 = .ok (.iload_n 0, 1) := by decide +kernel
theorem d_1100_2 : decode (mB 1100) 2 = .ok (.iconst 1, 1) := by decide +kernel
theorem d_1100_3 : decode (mB 1100) 3 = .ok (.iushr, 1) := by decide +kernel
theorem d_1100_4 : decode (mB 1100) 4 = .ok (.ldc_w 265, 3) := by decide +kernel
theorem d_1100_7 : decode (mB 1100) 7 = .ok (.iand, 1) := by decide +kernel
theorem d_1100_8 : decode (mB 1100) 8 = .ok (.isub, 1) := by decide +kernel
theorem d_1100_9 : decode (mB 1100) 9 = .ok (.istore_n 0, 1) := by decide +kernel
theorem d_1100_10 : decode (mB 1100) 10 = .ok (.iload_n 0, 1) := by decide +kernel
theorem d_1100_11 : decode (mB 1100) 11 = .ok (.ldc_w 266, 3) := by decide +kernel
theorem d_1100_14 : decode (mB 1100) 14 = .ok (.iand, 1) := by decide +kernel
theorem d_1100_15 : decode (mB 1100) 15 = .ok (.iload_n 0, 1) := by decide +kernel
theorem d_1100_16 : decode (mB 1100) 16 = .ok (.iconst 2, 1) := by decide +kernel
theorem d_1100_17 : decode (mB 1100) 17 = .ok (.iushr, 1) := by decide +kernel
theorem d_1100_18 : decode (mB 1100) 18 = .ok (.ldc_w 266, 3) := by decide +kernel
theorem d_1100_21 : decode (mB 1100) 21 = .ok (.iand, 1) := by decide +kernel
theorem d_1100_22 : decode (mB 1100) 22 = .ok (.iadd, 1) := by decide +kernel
theorem d_1100_23 : decode (mB 1100) 23 = .ok (.istore_n 0, 1) := by decide +kernel
theorem d_1100_24 : decode (mB 1100) 24 = .ok (.iload_n 0, 1) := by decide +kernel
theorem d_1100_25 : decode (mB 1100) 25 = .ok (.iload_n 0, 1) := by decide +kernel
theorem d_1100_26 : decode (mB 1100) 26 = .ok (.iconst 4, 1) := by decide +kernel
theorem d_1100_27 : decode (mB 1100) 27 = .ok (.iushr, 1) := by decide +kernel
theorem d_1100_28 : decode (mB 1100) 28 = .ok (.iadd, 1) := by decide +kernel
theorem d_1100_29 : decode (mB 1100) 29 = .ok (.ldc_w 267, 3) := by decide +kernel
theorem d_1100_32 : decode (mB 1100) 32 = .ok (.iand, 1) := by decide +kernel
theorem d_1100_33 : decode (mB 1100) 33 = .ok (.istore_n 0, 1) := by decide +kernel
theorem d_1100_34 : decode (mB 1100) 34 = .ok (.iload_n 0, 1) := by decide +kernel
theorem d_1100_35 : decode (mB 1100) 35 = .ok (.iload_n 0, 1) := by decide +kernel
theorem d_1100_36 : decode (mB 1100) 36 = .ok (.bipush 8, 2) := by decide +kernel
theorem d_1100_38 : decode (mB 1100) 38 = .ok (.iushr, 1) := by decide +kernel
theorem d_1100_39 : decode (mB 1100) 39 = .ok (.iadd, 1) := by decide +kernel
theorem d_1100_40 : decode (mB 1100) 40 = .ok (.istore_n 0, 1) := by decide +kernel
theorem d_1100_41 : decode (mB 1100) 41 = .ok (.iload_n 0, 1) := by decide +kernel
theorem d_1100_42 : decode (mB 1100) 42 = .ok (.iload_n 0, 1) := by decide +kernel
theorem d_1100_43 : decode (mB 1100) 43 = .ok (.bipush 16, 2) := by decide +kernel
theorem d_1100_45 : decode (mB 1100) 45 = .ok (.iushr, 1) := by decide +kernel
theorem d_1100_46 : decode (mB 1100) 46 = .ok (.iadd, 1) := by decide +kernel
theorem d_1100_47 : decode (mB 1100) 47 = .ok (.istore_n 0, 1) := by decide +kernel
theorem d_1100_48 : decode (mB 1100) 48 = .ok (.iload_n 0, 1) := by decide +kernel
theorem d_1100_49 : decode (mB 1100) 49 = .ok (.bipush 63, 2) := by decide +kernel
theorem d_1100_51 : decode (mB 1100) 51 = .ok (.iand, 1) := by decide +kernel
theorem d_1100_52 : decode (mB 1100) 52 = .ok (.ireturn, 1) := by decide +kernel
theorem d_1201_0 : decode (mB 1201) 0 = .ok (.iload_n 0, 1) := by decide +kernel
theorem d_1201_1 : decode (mB 1201) 1 = .ok (.iload_n 1, 1) := by decide +kernel
theorem d_1201_2 : decode (mB 1201) 2 = .ok (.if_icmp .lt 7, 3) := by decide +kernel
theorem d_1201_5 : decode (mB 1201) 5 = .ok (.iload_n 0, 1) := by decide +kernel
theorem d_1201_6 : decode (mB 1201) 6 = .ok (.goto 4, 3) := by decide +kernel
theorem d_1201_9 : decode (mB 1201) 9 = .ok (.iload_n 1, 1) := by decide +kernel
theorem d_1201_10 : decode (mB 1201) 10 = .ok (.ireturn, 1) := by decide +kernel
theorem d_207_0 : decode (mB 207) 0 = .ok (.aload_n 0, 1) := by decide +kernel
theorem d_207_1 : decode (mB 207) 1 = .ok (.getfield 9, 3) := by decide +kernel
theorem d_207_4 : decode (mB 207) 4 = .ok (.aload_n 0, 1) := by decide +kernel
theorem d_207_5 : decode (mB 207) 5 = .ok (.getfield 15, 3) := by decide +kernel
theorem d_207_8 : decode (mB 207) 8 = .ok (.getfield 76, 3) := by decide +kernel
theorem d_207_11 : decode (mB 207) 11 = .ok (.invokevirtual 79, 3) := by decide +kernel
theorem d_207_14 : decode (mB 207) 14 = .ok (.ireturn, 1) := by decide +kernel
theorem d_1202_0 : decode (mB 1202) 0 = .ok (.iload_n 0, 1) := by decide +kernel
theorem d_1202_1 : decode (mB 1202) 1 = .ok (.iload_n 1, 1) := by decide +kernel
theorem d_1202_2 : decode (mB 1202) 2 = .ok (.if_icmp .gt 7, 3) := by decide +kernel
theorem d_1202_5 : decode (mB 1202) 5 = .ok (.iload_n 0, 1) := by decide +kernel
theorem d_1202_6 : decode (mB 1202) 6 = .ok (.goto 4, 3) := by decide +kernel
theorem d_1202_9 : decode (mB 1202) 9 = .ok (.iload_n 1, 1) := by decide +kernel
theorem d_1202_10 : decode (mB 1202) 10 = .ok (.ireturn, 1) := by decide +kernel
theorem d_210_0 : decode (mB 210) 0 = .ok (.aload_n 0, 1) := by decide +kernel
theorem d_210_1 : decode (mB 210) 1 = .ok (.getfield 9, 3) := by decide +kernel
theorem d_210_4 : decode (mB 210) 4 = .ok (.aload_n 0, 1) := by decide +kernel
theorem d_210_5 : decode (mB 210) 5 = .ok (.iload_n 1, 1) := by decide +kernel
theorem d_210_6 : decode (mB 210) 6 = .ok (.iload_n 2, 1) := by decide +kernel
theorem d_210_7 : decode (mB 210) 7 = .ok (.invokevirtual 50, 3) := by decide +kernel
theorem d_210_10 : decode (mB 210) 10 = .ok (.aload_n 0, 1) := by decide +kernel
theorem d_210_11 : decode (mB 210) 11 = .ok (.getfield 9, 3) := by decide +kernel
theorem d_210_14 : decode (mB 210) 14 = .ok (.getfield 92, 3) := by decide +kernel
theorem d_210_17 : decode (mB 210) 17 = .ok (.invokevirtual 89, 3) := by decide +kernel
theorem d_210_20 : decode (mB 210) 20 = .ok (.ireturn, 1) := by decide +kernel
theorem d_201_0 : decode (mB 201) 0 = .ok (.aload_n 0, 1) := by decide +kernel
theorem d_201_1 : decode (mB 201) 1 = .ok (.getfield 9, 3) := by decide +kernel
theorem d_201_4 : decode (mB 201) 4 = .ok (.iload_n 1, 1) := by decide +kernel
theorem d_201_5 : decode (mB 201) 5 = .ok (.invokevirtual 33, 3) := by decide +kernel
theorem d_201_8 : decode (mB 201) 8 = .ok (.ifCond .eq 26, 3) := by decide +kernel
theorem d_201_11 : decode (mB 201) 11 = .ok (.aload_n 0, 1) := by decide +kernel
theorem d_201_12 : decode (mB 201) 12 = .ok (.getfield 9, 3) := by decide +kernel
theorem d_201_15 : decode (mB 201) 15 = .ok (.iload_n 2, 1) := by decide +kernel
theorem d_201_16 : decode (mB 201) 16 = .ok (.invokevirtual 37, 3) := by decide +kernel
theorem d_201_19 : decode (mB 201) 19 = .ok (.ifCond .eq 15, 3) := by decide +kernel
theorem d_201_22 : decode (mB 201) 22 = .ok (.aload_n 0, 1) := by decide +kernel
theorem d_201_23 : decode (mB 201) 23 = .ok (.getfield 9, 3) := by decide +kernel
theorem d_201_26 : decode (mB 201) 26 = .ok (.getfield 40, 3) := by decide +kernel
theorem d_201_29 : decode (mB 201) 29 = .ok (.iload_n 1, 1) := by decide +kernel
theorem d_201_30 : decode (mB 201) 30 = .ok (.iaload, 1) := by decide +kernel
theorem d_201_31 : decode (mB 201) 31 = .ok (.goto 4, 3) := by decide +kernel
theorem d_201_34 : decode (mB 201) 34 = .ok (.iconst 0, 1) := by decide +kernel
theorem d_201_35 : decode (mB 201) 35 = .ok (.istore_n 3, 1) := by decide +kernel
theorem d_201_36 : decode (mB 201) 36 = .ok (.aload_n 0, 1) := by decide +kernel
theorem d_201_37 : decode (mB 201) 37 = .ok (.iload_n 1, 1) := by decide +kernel
theorem d_201_38 : decode (mB 201) 38 = .ok (.invokevirtual 43, 3) := by decide +kernel
theorem d_201_41 : decode (mB 201) 41 = .ok (.iload_n 3, 1) := by decide +kernel
theorem d_201_42 : decode (mB 201) 42 = .ok (.iadd, 1) := by decide +kernel
theorem d_201_43 : decode (mB 201) 43 = .ok (.ireturn, 1) := by decide +kernel
theorem d_202_0 : decode (mB 202) 0 = .ok (.aload_n 0, 1) := by decide +kernel
theorem d_202_1 : decode (mB 202) 1 = .ok (.getfield 9, 3) := by decide +kernel
theorem d_202_4 : decode (mB 202) 4 = .ok (.iload_n 1, 1) := by decide +kernel
theorem d_202_5 : decode (mB 202) 5 = .ok (.invokevirtual 33, 3) := by decide +kernel
theorem d_202_8 : decode (mB 202) 8 = .ok (.ifCond .eq 15, 3) := by decide +kernel
theorem d_202_11 : decode (mB 202) 11 = .ok (.aload_n 0, 1) := by decide +kernel
theorem d_202_12 : decode (mB 202) 12 = .ok (.getfield 15, 3) := by decide +kernel
theorem d_202_15 : decode (mB 202) 15 = .ok (.getfield 47, 3) := by decide +kernel
theorem d_202_18 : decode (mB 202) 18 = .ok (.iload_n 1, 1) := by decide +kernel
theorem d_202_19 : decode (mB 202) 19 = .ok (.iaload, 1) := by decide +kernel
theorem d_202_20 : decode (mB 202) 20 = .ok (.goto 4, 3) := by decide +kernel
theorem d_202_23 : decode (mB 202) 23 = .ok (.iconst 0, 1) := by decide +kernel
theorem d_202_24 : decode (mB 202) 24 = .ok (.ireturn, 1) := by decide +kernel
theorem d_200_0 : decode (mB 200) 0 = .ok (.iload_n 1, 1) := by decide +kernel
theorem d_200_1 : decode (mB 200) 1 = .ok (.ifCond .lt 9, 3) := by decide +kernel
theorem d_200_4 : decode (mB 200) 4 = .ok (.iload_n 1, 1) := by decide +kernel
theorem d_200_5 : decode (mB 200) 5 = .ok (.bipush 6, 2) := by decide +kernel
theorem d_200_7 : decode (mB 200) 7 = .ok (.if_icmp .lt 5, 3) := by decide +kernel
theorem d_200_10 : decode (mB 200) 10 = .ok (.iconst 0, 1) := by decide +kernel
theorem d_200_11 : decode (mB 200) 11 = .ok (.ireturn, 1) := by decide +kernel
theorem d_200_12 : decode (mB 200) 12 = .ok (.aload_n 0, 1) := by decide +kernel
theorem d_200_13 : decode (mB 200) 13 = .ok (.getfield 15, 3) := by decide +kernel
theorem d_200_16 : decode (mB 200) 16 = .ok (.getfield 19, 3) := by decide +kernel
theorem d_200_19 : decode (mB 200) 19 = .ok (.iload_n 1, 1) := by decide +kernel
theorem d_200_20 : decode (mB 200) 20 = .ok (.iaload, 1) := by decide +kernel
theorem d_200_21 : decode (mB 200) 21 = .ok (.istore_n 2, 1) := by decide +kernel
theorem d_200_22 : decode (mB 200) 22 = .ok (.iload_n 2, 1) := by decide +kernel
theorem d_200_23 : decode (mB 200) 23 = .ok (.ifCond .lt 9, 3) := by decide +kernel
theorem d_200_26 : decode (mB 200) 26 = .ok (.iload_n 2, 1) := by decide +kernel
theorem d_200_27 : decode (mB 200) 27 = .ok (.bipush 6, 2) := by decide +kernel
theorem d_200_29 : decode (mB 200) 29 = .ok (.if_icmp .lt 15, 3) := by decide +kernel
theorem d_200_32 : decode (mB 200) 32 = .ok (.aload_n 0, 1) := by decide +kernel
theorem d_200_33 : decode (mB 200) 33 = .ok (.getfield 9, 3) := by decide +kernel
theorem d_200_36 : decode (mB 200) 36 = .ok (.getfield 25, 3) := by decide +kernel
theorem d_200_39 : decode (mB 200) 39 = .ok (.iload_n 1, 1) := by decide +kernel
theorem d_200_40 : decode (mB 200) 40 = .ok (.iaload, 1) := by decide +kernel
theorem d_200_41 : decode (mB 200) 41 = .ok (.goto 22, 3) := by decide +kernel
theorem d_200_44 : decode (mB 200) 44 = .ok (.aload_n 0, 1) := by decide +kernel
theorem d_200_45 : decode (mB 200) 45 = .ok (.getfield 9, 3) := by decide +kernel
theorem d_200_48 : decode (mB 200) 48 = .ok (.getfield 25, 3) := by decide +kernel
theorem d_200_51 : decode (mB 200) 51 = .ok (.iload_n 1, 1) := by decide +kernel
theorem d_200_52 : decode (mB 200) 52 = .ok (.iaload, 1) := by decide +kernel
theorem d_200_53 : decode (mB 200) 53 = .ok (.aload_n 0, 1) := by decide +kernel
theorem d_200_54 : decode (mB 200) 54 = .ok (.getfield 9, 3) := by decide +kernel
theorem d_200_57 : decode (mB 200) 57 = .ok (.getfield 30, 3) := by decide +kernel
theorem d_200_60 : decode (mB 200) 60 = .ok (.iload_n 2, 1) := by decide +kernel
theorem d_200_61 : decode (mB 200) 61 = .ok (.iaload, 1) := by decide +kernel
theorem d_200_62 : decode (mB 200) 62 = .ok (.iadd, 1) := by decide +kernel
theorem d_200_63 : decode (mB 200) 63 = .ok (.ireturn, 1) := by decide +kernel
theorem d_1200_0 : decode (mB 1200) 0 = .ok (.iload_n 0, 1) := by decide +kernel
theorem d_1200_1 : decode (mB 1200) 1 = .ok (.iload_n 1, 1) := by decide +kernel
theorem d_1200_2 : decode (mB 1200) 2 = .ok (.irem, 1) := by decide +kernel
theorem d_1200_3 : decode (mB 1200) 3 = .ok (.istore_n 2, 1) := by decide +kernel
theorem d_1200_4 : decode (mB 1200) 4 = .ok (.iload_n 0, 1) := by decide +kernel
theorem d_1200_5 : decode (mB 1200) 5 = .ok (.iload_n 1, 1) := by decide +kernel
theorem d_1200_6 : decode (mB 1200) 6 = .ok (.ixor, 1) := by decide +kernel
theorem d_1200_7 : decode (mB 1200) 7 = .ok (.ifCond .ge 11, 3) := by decide +kernel
theorem d_1200_10 : decode (mB 1200) 10 = .ok (.iload_n 2, 1) := by decide +kernel
theorem d_1200_11 : decode (mB 1200) 11 = .ok (.ifCond .eq 7, 3) := by decide +kernel
theorem d_1200_14 : decode (mB 1200) 14 = .ok (.iload_n 2, 1) := by decide +kernel
theorem d_1200_15 : decode (mB 1200) 15 = .ok (.iload_n 1, 1) := by decide +kernel
theorem d_1200_16 : decode (mB 1200) 16 = .ok (.iadd, 1) := by decide +kernel
theorem d_1200_17 : decode (mB 1200) 17 = .ok (.ireturn, 1) := by decide +kernel
theorem d_1200_18 : decode (mB 1200) 18 = .ok (.iload_n 2, 1) := by decide +kernel
theorem d_1200_19 : decode (mB 1200) 19 = .ok (.ireturn, 1) := by decide +kernel
theorem b400_0 {σ : SS} : ev 400 0 [qR 35] [] σ = some (none, (q_put (q_put (q_put σ 35 2 0) 35 4 0) 35 8 0)) :=
  Eq.trans (e_aload_n d_400_0 rfl) (Eq.trans (e_iconst d_400_1 k_0) (Eq.trans (e_put d_400_2 fl_4_31 sh_35 rfl rfl rfl) (Eq.trans (e_aload_n d_400_5 rfl) (Eq.trans (e_iconst d_400_6 k_0) (Eq.trans (e_put d_400_7 fl_4_35 sh_35 rfl rfl rfl) (Eq.trans (e_aload_n d_400_10 rfl) (Eq.trans (e_iconst d_400_11 k_0) (Eq.trans (e_put d_400_12 fl_4_38 sh_35 rfl rfl rfl) (e_vret d_400_15 rfl)))))))))
theorem b204_0 {x1 x2 : Int} {σ : SS} : ev 204 0 [qR 34, qI x1, qI x2, qU] [] σ = (ev 205 0 [qR 34, qI x1, qI x2] [] σ).bind (fun x => ev 204 6 [qR 34, qI x1, qI x2, qU] (q_push x.1 []) x.2) :=
  Eq.trans (e_aload_n d_204_0 rfl) (Eq.trans (e_iload_n d_204_1 rfl) (Eq.trans (e_iload_n d_204_2 rfl) (e_callV d_204_3 ml_2_57 fit_204_205 par_205 rfl rfl sh_34 (Nat.le_of_ble_eq_true rfl) (Nat.le_of_ble_eq_true rfl) (Nat.le_of_ble_eq_true rfl) rfl (by decide) rfl)))
theorem b204_6 {x1 x2 y0 : Int} {σ : SS} : ev 204 6 [qR 34, qI x1, qI x2, qU] [qI y0] σ = if y0 = 0 then ev 204 13 [qR 34, qI x1, qI x2, qU] [] σ else ev 204 9 [qR 34, qI x1, qI x2, qU] [] σ :=
  e_if_eq d_204_6 (by decide)
theorem b204_9 {x1 x2 : Int} {σ : SS} : ev 204 9 [qR 34, qI x1, qI x2, qU] [] σ = ev 204 14 [qR 34, qI x1, qI x2, qU] [qI 3] σ :=
  Eq.trans (e_iconst d_204_9 k_3) (e_goto d_204_10 (by decide))
theorem b204_13 {x1 x2 : Int} {σ : SS} : ev 204 13 [qR 34, qI x1, qI x2, qU] [] σ = ev 204 14 [qR 34, qI x1, qI x2, qU] [qI 0] σ :=
  e_iconst d_204_13 k_0
theorem b204_14 {x1 x2 y0 : Int} {σ : SS} : ev 204 14 [qR 34, qI x1, qI x2, qU] [qI y0] σ = (ev 203 0 [qR 34, qI x1, qI x2] [] σ).bind (fun x => ev 204 22 [qR 34, qI x1, qI x2, qI y0] (q_push x.1 [qI 0]) x.2) :=
  Eq.trans (e_istore_n d_204_14 (by decide) (Nat.le_of_ble_eq_true rfl) rfl) (Eq.trans (e_iconst d_204_15 k_0) (Eq.trans (e_aload_n d_204_16 rfl) (Eq.trans (e_iload_n d_204_17 rfl) (Eq.trans (e_iload_n d_204_18 rfl) (e_callV d_204_19 ml_2_61 fit_204_203 par_203 rfl rfl sh_34 (Nat.le_of_ble_eq_true rfl) (Nat.le_of_ble_eq_true rfl) (Nat.le_of_ble_eq_true rfl) rfl (by decide) rfl)))))
theorem b204_22 {x1 x2 x3 y0 y1 : Int} {σ : SS} (h : -2147483648 ≤ (y0 - x3) ∧ (y0 - x3) ≤ 2147483647) : ev 204 22 [qR 34, qI x1, qI x2, qI x3] [qI y0, qI y1] σ = (ev 1201 0 [qI y1, qI (y0 - x3)] [] σ).bind (fun x => ev 204 27 [qR 34, qI x1, qI x2, qI x3] (q_push x.1 []) x.2) :=
  Eq.trans (e_iload_n d_204_22 rfl) (Eq.trans (e_isub d_204_23 h) (e_callS d_204_24 (by decide) ml_2_64 fit_204_1201 par_1201 rfl rfl (Nat.le_of_ble_eq_true rfl) (Nat.le_of_ble_eq_true rfl) (Nat.le_of_ble_eq_true rfl) rfl (by decide) rfl))
theorem b204_27 {x1 x2 x3 y0 : Int} {σ : SS} : ev 204 27 [qR 34, qI x1, qI x2, qI x3] [qI y0] σ = some (some (qI y0), σ) :=
  e_iret d_204_27 (q_okrI rfl)
theorem b206_0 {x1 : Int} {σ : SS} : ev 206 0 [qR 34, qI x1] [] σ = (ev 205 0 [qR 34, qI x1, qI (σ 21 3)] [] σ).bind (fun x => ev 206 12 [qR 34, qI x1] (q_push x.1 []) x.2) :=
  Eq.trans (e_aload_n d_206_0 rfl) (Eq.trans (e_iload_n d_206_1 rfl) (Eq.trans (e_aload_n d_206_2 rfl) (Eq.trans (e_getR d_206_3 fl_2_15 sh_34 rfl) (Eq.trans (e_getI d_206_6 fl_2_72 sh_21 rfl) (e_callV d_206_9 ml_2_57 fit_206_205 par_205 rfl rfl sh_34 (Nat.le_of_ble_eq_true rfl) (Nat.le_of_ble_eq_true rfl) (Nat.le_of_ble_eq_true rfl) rfl (by decide) rfl)))))
theorem b206_12 {x1 y0 : Int} {σ : SS} : ev 206 12 [qR 34, qI x1] [qI y0] σ = if y0 = 0 then ev 206 37 [qR 34, qI x1] [] σ else ev 206 15 [qR 34, qI x1] [] σ :=
  e_if_eq d_206_12 (by decide)
theorem b206_15 {x1 : Int} {σ : SS} (h : (0 ≤ x1 ∧ x1 < 6) ∧ (-2147483648 ≤ ((σ 24 x1.toNat) + 4) ∧ ((σ 24 x1.toNat) + 4) ≤ 2147483647) ∧ (-2147483648 ≤ (((σ 24 x1.toNat) + 4) - (σ 21 3)) ∧ (((σ 24 x1.toNat) + 4) - (σ 21 3)) ≤ 2147483647)) : ev 206 15 [qR 34, qI x1] [] σ = ev 206 38 [qR 34, qI x1] [qI (((σ 24 x1.toNat) + 4) - (σ 21 3))] σ :=
  Eq.trans (e_aload_n d_206_15 rfl) (Eq.trans (e_getR d_206_16 fl_2_15 sh_34 rfl) (Eq.trans (e_getR d_206_19 fl_2_69 sh_21 rfl) (Eq.trans (e_iload_n d_206_22 rfl) (Eq.trans (e_iald d_206_23 sh_24 h.1) (Eq.trans (e_iconst d_206_24 k_4) (Eq.trans (e_iadd d_206_25 h.2.1) (Eq.trans (e_aload_n d_206_26 rfl) (Eq.trans (e_getR d_206_27 fl_2_15 sh_34 rfl) (Eq.trans (e_getI d_206_30 fl_2_72 sh_21 rfl) (Eq.trans (e_isub d_206_33 h.2.2) (e_goto d_206_34 (by decide))))))))))))
theorem b206_37 {x1 : Int} {σ : SS} : ev 206 37 [qR 34, qI x1] [] σ = ev 206 38 [qR 34, qI x1] [qI 0] σ :=
  e_iconst d_206_37 k_0
theorem b206_38 {x1 y0 : Int} {σ : SS} : ev 206 38 [qR 34, qI x1] [qI y0] σ = some (some (qI y0), σ) :=
  e_iret d_206_38 (q_okrI rfl)
theorem b208_0 {x1 x2 : Int} {σ : SS} : ev 208 0 [qR 34, qI x1, qI x2] [] σ = (ev 204 0 [qR 34, qI x1, qI x2, qU] [] σ).bind (fun x => ev 208 10 [qR 34, qI x1, qI x2] (q_push x.1 [qR 12]) x.2) :=
  Eq.trans (e_aload_n d_208_0 rfl) (Eq.trans (e_getR d_208_1 fl_2_9 sh_34 rfl) (Eq.trans (e_aload_n d_208_4 rfl) (Eq.trans (e_iload_n d_208_5 rfl) (Eq.trans (e_iload_n d_208_6 rfl) (e_callV d_208_7 ml_2_82 fit_208_204 par_204 rfl rfl sh_34 (Nat.le_of_ble_eq_true rfl) (Nat.le_of_ble_eq_true rfl) (Nat.le_of_ble_eq_true rfl) rfl (by decide) rfl)))))
theorem b208_10 {x1 x2 y0 : Int} {σ : SS} : ev 208 10 [qR 34, qI x1, qI x2] [qI y0, qR 12] σ = (ev 207 0 [qR 34] [] σ).bind (fun x => ev 208 14 [qR 34, qI x1, qI x2] (q_push x.1 [qI y0, qR 12]) x.2) :=
  Eq.trans (e_aload_n d_208_10 rfl) (e_callV d_208_11 ml_2_85 fit_208_207 par_207 rfl rfl sh_34 (Nat.le_of_ble_eq_true rfl) (Nat.le_of_ble_eq_true rfl) (Nat.le_of_ble_eq_true rfl) rfl (by decide) rfl)
theorem b208_14 {x1 x2 y0 y1 : Int} {σ : SS} : ev 208 14 [qR 34, qI x1, qI x2] [qI y0, qI y1, qR 12] σ = (ev 613 0 [qR 12, qI y1, qI y0] [] σ).bind (fun x => ev 208 17 [qR 34, qI x1, qI x2] (q_push x.1 []) x.2) :=
  e_callV d_208_14 ml_2_89 fit_208_613 par_613 rfl rfl sh_12 (Nat.le_of_ble_eq_true rfl) (Nat.le_of_ble_eq_true rfl) (Nat.le_of_ble_eq_true rfl) rfl (by decide) rfl
theorem b208_17 {x1 x2 y0 : Int} {σ : SS} (h : y0 = 0 ∨ y0 = 1) : ev 208 17 [qR 34, qI x1, qI x2] [qI y0] σ = some (some (qI y0), σ) :=
  e_iret d_208_17 (q_okrZ rfl h)
theorem b205_0 {x1 x2 : Int} {σ : SS} : ev 205 0 [qR 34, qI x1, qI x2] [] σ = (ev 603 0 [qR 12, qI x1] [] σ).bind (fun x => ev 205 8 [qR 34, qI x1, qI x2] (q_push x.1 []) x.2) :=
  Eq.trans (e_aload_n d_205_0 rfl) (Eq.trans (e_getR d_205_1 fl_2_9 sh_34 rfl) (Eq.trans (e_iload_n d_205_4 rfl) (e_callV d_205_5 ml_2_33 fit_205_603 par_603 rfl rfl sh_12 (Nat.le_of_ble_eq_true rfl) (Nat.le_of_ble_eq_true rfl) (Nat.le_of_ble_eq_true rfl) rfl (by decide) rfl)))
theorem b205_8 {x1 x2 y0 : Int} {σ : SS} : ev 205 8 [qR 34, qI x1, qI x2] [qI y0] σ = if y0 = 0 then ev 205 43 [qR 34, qI x1, qI x2] [] σ else ev 205 11 [qR 34, qI x1, qI x2] [] σ :=
  e_if_eq d_205_8 (by decide)
theorem b205_11 {x1 x2 : Int} {σ : SS} (h : 0 ≤ x1 ∧ x1 < 6) : ev 205 11 [qR 34, qI x1, qI x2] [] σ = if x2 < (σ 24 x1.toNat) then ev 205 43 [qR 34, qI x1, qI x2] [] σ else ev 205 24 [qR 34, qI x1, qI x2] [] σ :=
  Eq.trans (e_iload_n d_205_11 rfl) (Eq.trans (e_aload_n d_205_12 rfl) (Eq.trans (e_getR d_205_13 fl_2_15 sh_34 rfl) (Eq.trans (e_getR d_205_16 fl_2_69 sh_21 rfl) (Eq.trans (e_iload_n d_205_19 rfl) (Eq.trans (e_iald d_205_20 sh_24 h) (e_icmp_lt d_205_21 (by decide)))))))
theorem b205_24 {x1 x2 : Int} {σ : SS} (h : (0 ≤ x1 ∧ x1 < 6) ∧ (-2147483648 ≤ ((σ 24 x1.toNat) + 4) ∧ ((σ 24 x1.toNat) + 4) ≤ 2147483647)) : ev 205 24 [qR 34, qI x1, qI x2] [] σ = if x2 < ((σ 24 x1.toNat) + 4) then ev 205 39 [qR 34, qI x1, qI x2] [] σ else ev 205 43 [qR 34, qI x1, qI x2] [] σ :=
  Eq.trans (e_iload_n d_205_24 rfl) (Eq.trans (e_aload_n d_205_25 rfl) (Eq.trans (e_getR d_205_26 fl_2_15 sh_34 rfl) (Eq.trans (e_getR d_205_29 fl_2_69 sh_21 rfl) (Eq.trans (e_iload_n d_205_32 rfl) (Eq.trans (e_iald d_205_33 sh_24 h.1) (Eq.trans (e_iconst d_205_34 k_4) (Eq.trans (e_iadd d_205_35 h.2) (e_icmp_ge d_205_36 (by decide)))))))))
theorem b205_39 {x1 x2 : Int} {σ : SS} : ev 205 39 [qR 34, qI x1, qI x2] [] σ = ev 205 44 [qR 34, qI x1, qI x2] [qI 1] σ :=
  Eq.trans (e_iconst d_205_39 k_1) (e_goto d_205_40 (by decide))
theorem b205_43 {x1 x2 : Int} {σ : SS} : ev 205 43 [qR 34, qI x1, qI x2] [] σ = ev 205 44 [qR 34, qI x1, qI x2] [qI 0] σ :=
  e_iconst d_205_43 k_0
theorem b205_44 {x1 x2 y0 : Int} {σ : SS} (h : y0 = 0 ∨ y0 = 1) : ev 205 44 [qR 34, qI x1, qI x2] [qI y0] σ = some (some (qI y0), σ) :=
  e_iret d_205_44 (q_okrZ rfl h)
theorem b211_0 {x1 x2 x3 : Int} {σ : SS} : ev 211 0 [qR 34, qI x1, qI x2, qI x3, qU, qU, qU] [] σ = (ev 201 0 [qR 34, qI x1, qI x2, qU] [] σ).bind (fun x => ev 211 6 [qR 34, qI x1, qI x2, qI x3, qU, qU, qU] (q_push x.1 []) x.2) :=
  Eq.trans (e_aload_n d_211_0 rfl) (Eq.trans (e_iload_n d_211_1 rfl) (Eq.trans (e_iload_n d_211_2 rfl) (e_callV d_211_3 ml_2_50 fit_211_201 par_201 rfl rfl sh_34 (Nat.le_of_ble_eq_true rfl) (Nat.le_of_ble_eq_true rfl) (Nat.le_of_ble_eq_true rfl) rfl (by decide) rfl)))
theorem b211_6 {x1 x2 x3 y0 : Int} {σ : SS} : ev 211 6 [qR 34, qI x1, qI x2, qI x3, qU, qU, qU] [qI y0] σ = (ev 201 0 [qR 34, qI x1, qI x3, qU] [] σ).bind (fun x => ev 211 14 [qR 34, qI x1, qI x2, qI x3, qI y0, qU, qU] (q_push x.1 []) x.2) :=
  Eq.trans (e_istore d_211_6 (by decide) (Nat.le_of_ble_eq_true rfl) rfl) (Eq.trans (e_aload_n d_211_8 rfl) (Eq.trans (e_iload_n d_211_9 rfl) (Eq.trans (e_iload_n d_211_10 rfl) (e_callV d_211_11 ml_2_50 fit_211_201 par_201 rfl rfl sh_34 (Nat.le_of_ble_eq_true rfl) (Nat.le_of_ble_eq_true rfl) (Nat.le_of_ble_eq_true rfl) rfl (by decide) rfl))))
theorem b211_14 {x1 x2 x3 x4 y0 : Int} {σ : SS} : ev 211 14 [qR 34, qI x1, qI x2, qI x3, qI x4, qU, qU] [qI y0] σ = ev 211 19 [qR 34, qI x1, qI x2, qI x3, qI x4, qI y0, qI 0] [] σ :=
  Eq.trans (e_istore d_211_14 (by decide) (Nat.le_of_ble_eq_true rfl) rfl) (Eq.trans (e_iconst d_211_16 k_0) (e_istore d_211_17 (by decide) (Nat.le_of_ble_eq_true rfl) rfl))
theorem b211_19 {x1 x2 x3 x4 x5 x6 : Int} {σ : SS} : ev 211 19 [qR 34, qI x1, qI x2, qI x3, qI x4, qI x5, qI x6] [] σ = if 5 < x6 then ev 211 78 [qR 34, qI x1, qI x2, qI x3, qI x4, qI x5, qI x6] [] σ else ev 211 25 [qR 34, qI x1, qI x2, qI x3, qI x4, qI x5, qI x6] [] σ :=
  Eq.trans (e_iload d_211_19 rfl) (Eq.trans (e_iconst d_211_21 k_5) (e_icmp_gt d_211_22 (by decide)))
theorem b211_25 {x1 x2 x3 x4 x5 x6 : Int} {σ : SS} (h : -2147483648 ≤ (x4 + x6) ∧ (x4 + x6) ≤ 2147483647) : ev 211 25 [qR 34, qI x1, qI x2, qI x3, qI x4, qI x5, qI x6] [] σ = (ev 613 0 [qR 12, qI (x4 + x6), qI (σ 12 11)] [] σ).bind (fun x => ev 211 44 [qR 34, qI x1, qI x2, qI x3, qI x4, qI x5, qI x6] (q_push x.1 []) x.2) :=
  Eq.trans (e_aload_n d_211_25 rfl) (Eq.trans (e_getR d_211_26 fl_2_9 sh_34 rfl) (Eq.trans (e_iload d_211_29 rfl) (Eq.trans (e_iload d_211_31 rfl) (Eq.trans (e_iadd d_211_33 h) (Eq.trans (e_aload_n d_211_34 rfl) (Eq.trans (e_getR d_211_35 fl_2_9 sh_34 rfl) (Eq.trans (e_getI d_211_38 fl_2_92 sh_12 rfl) (e_callV d_211_41 ml_2_89 fit_211_613 par_613 rfl rfl sh_12 (Nat.le_of_ble_eq_true rfl) (Nat.le_of_ble_eq_true rfl) (Nat.le_of_ble_eq_true rfl) rfl (by decide) rfl))))))))
theorem b211_44 {x1 x2 x3 x4 x5 x6 y0 : Int} {σ : SS} : ev 211 44 [qR 34, qI x1, qI x2, qI x3, qI x4, qI x5, qI x6] [qI y0] σ = if y0 = 0 then ev 211 72 [qR 34, qI x1, qI x2, qI x3, qI x4, qI x5, qI x6] [] σ else ev 211 47 [qR 34, qI x1, qI x2, qI x3, qI x4, qI x5, qI x6] [] σ :=
  e_if_eq d_211_44 (by decide)
theorem b211_47 {x1 x2 x3 x4 x5 x6 : Int} {σ : SS} (h : -2147483648 ≤ (x5 + x6) ∧ (x5 + x6) ≤ 2147483647) : ev 211 47 [qR 34, qI x1, qI x2, qI x3, qI x4, qI x5, qI x6] [] σ = (ev 613 0 [qR 12, qI (x5 + x6), qI (σ 12 11)] [] σ).bind (fun x => ev 211 66 [qR 34, qI x1, qI x2, qI x3, qI x4, qI x5, qI x6] (q_push x.1 []) x.2) :=
  Eq.trans (e_aload_n d_211_47 rfl) (Eq.trans (e_getR d_211_48 fl_2_9 sh_34 rfl) (Eq.trans (e_iload d_211_51 rfl) (Eq.trans (e_iload d_211_53 rfl) (Eq.trans (e_iadd d_211_55 h) (Eq.trans (e_aload_n d_211_56 rfl) (Eq.trans (e_getR d_211_57 fl_2_9 sh_34 rfl) (Eq.trans (e_getI d_211_60 fl_2_92 sh_12 rfl) (e_callV d_211_63 ml_2_89 fit_211_613 par_613 rfl rfl sh_12 (Nat.le_of_ble_eq_true rfl) (Nat.le_of_ble_eq_true rfl) (Nat.le_of_ble_eq_true rfl) rfl (by decide) rfl))))))))
theorem b211_66 {x1 x2 x3 x4 x5 x6 y0 : Int} {σ : SS} : ev 211 66 [qR 34, qI x1, qI x2, qI x3, qI x4, qI x5, qI x6] [qI y0] σ = if y0 = 0 then ev 211 72 [qR 34, qI x1, qI x2, qI x3, qI x4, qI x5, qI x6] [] σ else ev 211 69 [qR 34, qI x1, qI x2, qI x3, qI x4, qI x5, qI x6] [] σ :=
  e_if_eq d_211_66 (by decide)
theorem b211_69 {x1 x2 x3 x4 x5 x6 : Int} {σ : SS} : ev 211 69 [qR 34, qI x1, qI x2, qI x3, qI x4, qI x5, qI x6] [] σ = some (some (qI x6), σ) :=
  Eq.trans (e_iload d_211_69 rfl) (e_iret d_211_71 (q_okrI rfl))
theorem b211_72 {x1 x2 x3 x4 x5 x6 : Int} {σ : SS} (h : -2147483648 ≤ (x6 + 1) ∧ (x6 + 1) ≤ 2147483647) : ev 211 72 [qR 34, qI x1, qI x2, qI x3, qI x4, qI x5, qI x6] [] σ = ev 211 19 [qR 34, qI x1, qI x2, qI x3, qI x4, qI x5, qI (x6 + 1)] [] σ :=
  Eq.trans (e_iinc d_211_72 (by decide) rfl h rfl) (e_goto d_211_75 (by decide))
theorem b211_78 {x1 x2 x3 x4 x5 x6 : Int} {σ : SS} : ev 211 78 [qR 34, qI x1, qI x2, qI x3, qI x4, qI x5, qI x6] [] σ = some (some (qI (-1)), σ) :=
  Eq.trans (e_iconst d_211_78 k_m1) (e_iret d_211_79 (q_okrI rfl))
theorem b209_0 {x1 : Int} {σ : SS} : ev 209 0 [qR 34, qI x1, qU, qU, qU] [] σ = (ev 207 0 [qR 34] [] σ).bind (fun x => ev 209 4 [qR 34, qI x1, qU, qU, qU] (q_push x.1 []) x.2) :=
  Eq.trans (e_aload_n d_209_0 rfl) (e_callV d_209_1 ml_2_85 fit_209_207 par_207 rfl rfl sh_34 (Nat.le_of_ble_eq_true rfl) (Nat.le_of_ble_eq_true rfl) (Nat.le_of_ble_eq_true rfl) rfl (by decide) rfl)
theorem b209_4 {x1 y0 : Int} {σ : SS} : ev 209 4 [qR 34, qI x1, qU, qU, qU] [qI y0] σ = ev 209 10 [qR 34, qI x1, qI y0, qI 0, qI 0] [] σ :=
  Eq.trans (e_istore_n d_209_4 (by decide) (Nat.le_of_ble_eq_true rfl) rfl) (Eq.trans (e_iconst d_209_5 k_0) (Eq.trans (e_istore_n d_209_6 (by decide) (Nat.le_of_ble_eq_true rfl) rfl) (Eq.trans (e_iconst d_209_7 k_0) (e_istore d_209_8 (by decide) (Nat.le_of_ble_eq_true rfl) rfl))))
theorem b209_10 {x1 x2 x3 x4 : Int} {σ : SS} : ev 209 10 [qR 34, qI x1, qI x2, qI x3, qI x4] [] σ = if x4 < 24 then ev 209 17 [qR 34, qI x1, qI x2, qI x3, qI x4] [] σ else ev 209 48 [qR 34, qI x1, qI x2, qI x3, qI x4] [] σ :=
  Eq.trans (e_iload d_209_10 rfl) (Eq.trans (e_bipush d_209_12 kb_24) (e_icmp_ge d_209_14 (by decide)))
theorem b209_17 {x1 x2 x3 x4 : Int} {σ : SS} : ev 209 17 [qR 34, qI x1, qI x2, qI x3, qI x4] [] σ = (ev 203 0 [qR 34, qI x1, qI x4] [] σ).bind (fun x => ev 209 28 [qR 34, qI x1, qI x2, qI x3, qI x4] (q_push x.1 [qR 12]) x.2) :=
  Eq.trans (e_aload_n d_209_17 rfl) (Eq.trans (e_getR d_209_18 fl_2_9 sh_34 rfl) (Eq.trans (e_aload_n d_209_21 rfl) (Eq.trans (e_iload_n d_209_22 rfl) (Eq.trans (e_iload d_209_23 rfl) (e_callV d_209_25 ml_2_61 fit_209_203 par_203 rfl rfl sh_34 (Nat.le_of_ble_eq_true rfl) (Nat.le_of_ble_eq_true rfl) (Nat.le_of_ble_eq_true rfl) rfl (by decide) rfl)))))
theorem b209_28 {x1 x2 x3 x4 y0 : Int} {σ : SS} : ev 209 28 [qR 34, qI x1, qI x2, qI x3, qI x4] [qI y0, qR 12] σ = (ev 613 0 [qR 12, qI y0, qI x2] [] σ).bind (fun x => ev 209 32 [qR 34, qI x1, qI x2, qI x3, qI x4] (q_push x.1 []) x.2) :=
  Eq.trans (e_iload_n d_209_28 rfl) (e_callV d_209_29 ml_2_89 fit_209_613 par_613 rfl rfl sh_12 (Nat.le_of_ble_eq_true rfl) (Nat.le_of_ble_eq_true rfl) (Nat.le_of_ble_eq_true rfl) rfl (by decide) rfl)
theorem b209_32 {x1 x2 x3 x4 y0 : Int} {σ : SS} : ev 209 32 [qR 34, qI x1, qI x2, qI x3, qI x4] [qI y0] σ = if y0 = 0 then ev 209 42 [qR 34, qI x1, qI x2, qI x3, qI x4] [] σ else ev 209 35 [qR 34, qI x1, qI x2, qI x3, qI x4] [] σ :=
  e_if_eq d_209_32 (by decide)
theorem b209_35 {x1 x2 x3 x4 : Int} {σ : SS} : ev 209 35 [qR 34, qI x1, qI x2, qI x3, qI x4] [] σ = ev 209 42 [qR 34, qI x1, qI x2, qI (q_or x3 (q_shl 1 x4)), qI x4] [] σ :=
  Eq.trans (e_iload_n d_209_35 rfl) (Eq.trans (e_iconst d_209_36 k_1) (Eq.trans (e_iload d_209_37 rfl) (Eq.trans (e_ishl d_209_39) (Eq.trans (e_ior d_209_40) (e_istore_n d_209_41 (by decide) (Nat.le_of_ble_eq_true rfl) rfl)))))
theorem b209_42 {x1 x2 x3 x4 : Int} {σ : SS} (h : -2147483648 ≤ (x4 + 1) ∧ (x4 + 1) ≤ 2147483647) : ev 209 42 [qR 34, qI x1, qI x2, qI x3, qI x4] [] σ = ev 209 10 [qR 34, qI x1, qI x2, qI x3, qI (x4 + 1)] [] σ :=
  Eq.trans (e_iinc d_209_42 (by decide) rfl h rfl) (e_goto d_209_45 (by decide))
theorem b209_48 {x1 x2 x3 x4 : Int} {σ : SS} : ev 209 48 [qR 34, qI x1, qI x2, qI x3, qI x4] [] σ = some (some (qI x3), σ) :=
  Eq.trans (e_iload_n d_209_48 rfl) (e_iret d_209_49 (q_okrI rfl))
theorem b203_0 {x1 x2 : Int} {σ : SS} : ev 203 0 [qR 34, qI x1, qI x2] [] σ = (ev 201 0 [qR 34, qI x1, qI x2, qU] [] σ).bind (fun x => ev 203 6 [qR 34, qI x1, qI x2] (q_push x.1 []) x.2) :=
  Eq.trans (e_aload_n d_203_0 rfl) (Eq.trans (e_iload_n d_203_1 rfl) (Eq.trans (e_iload_n d_203_2 rfl) (e_callV d_203_3 ml_2_50 fit_203_201 par_201 rfl rfl sh_34 (Nat.le_of_ble_eq_true rfl) (Nat.le_of_ble_eq_true rfl) (Nat.le_of_ble_eq_true rfl) rfl (by decide) rfl)))
theorem b203_6 {x1 x2 y0 : Int} {σ : SS} : ev 203 6 [qR 34, qI x1, qI x2] [qI y0] σ = (ev 202 0 [qR 34, qI x1] [] σ).bind (fun x => ev 203 11 [qR 34, qI x1, qI x2] (q_push x.1 [qI y0]) x.2) :=
  Eq.trans (e_aload_n d_203_6 rfl) (Eq.trans (e_iload_n d_203_7 rfl) (e_callV d_203_8 ml_2_54 fit_203_202 par_202 rfl rfl sh_34 (Nat.le_of_ble_eq_true rfl) (Nat.le_of_ble_eq_true rfl) (Nat.le_of_ble_eq_true rfl) rfl (by decide) rfl))
theorem b203_11 {x1 x2 y0 y1 : Int} {σ : SS} (h : -2147483648 ≤ (y1 + y0) ∧ (y1 + y0) ≤ 2147483647) : ev 203 11 [qR 34, qI x1, qI x2] [qI y0, qI y1] σ = some (some (qI (y1 + y0)), σ) :=
  Eq.trans (e_iadd d_203_11 h) (e_iret d_203_12 (q_okrI rfl))
theorem b212_0 {x1 x2 : Int} {σ : SS} : ev 212 0 [qR 34, qI x1, qI x2, qU, qU, qU, qU] [] σ = (ev 1201 0 [qI x1, qI x2] [] σ).bind (fun x => ev 212 5 [qR 34, qI x1, qI x2, qU, qU, qU, qU] (q_push x.1 []) x.2) :=
  Eq.trans (e_iload_n d_212_0 rfl) (Eq.trans (e_iload_n d_212_1 rfl) (e_callS d_212_2 (by decide) ml_2_64 fit_212_1201 par_1201 rfl rfl (Nat.le_of_ble_eq_true rfl) (Nat.le_of_ble_eq_true rfl) (Nat.le_of_ble_eq_true rfl) rfl (by decide) rfl))
theorem b212_5 {x1 x2 y0 : Int} {σ : SS} (h : -2147483648 ≤ (y0 - (σ 12 11)) ∧ (y0 - (σ 12 11)) ≤ 2147483647) : ev 212 5 [qR 34, qI x1, qI x2, qU, qU, qU, qU] [qI y0] σ = (ev 1201 0 [qI 0, qI (y0 - (σ 12 11))] [] σ).bind (fun x => ev 212 19 [qR 34, qI x1, qI x2, qI y0, qU, qU, qU] (q_push x.1 []) x.2) :=
  Eq.trans (e_istore_n d_212_5 (by decide) (Nat.le_of_ble_eq_true rfl) rfl) (Eq.trans (e_iconst d_212_6 k_0) (Eq.trans (e_iload_n d_212_7 rfl) (Eq.trans (e_aload_n d_212_8 rfl) (Eq.trans (e_getR d_212_9 fl_2_9 sh_34 rfl) (Eq.trans (e_getI d_212_12 fl_2_92 sh_12 rfl) (Eq.trans (e_isub d_212_15 h) (e_callS d_212_16 (by decide) ml_2_64 fit_212_1201 par_1201 rfl rfl (Nat.le_of_ble_eq_true rfl) (Nat.le_of_ble_eq_true rfl) (Nat.le_of_ble_eq_true rfl) rfl (by decide) rfl)))))))
theorem b212_19 {x1 x2 x3 y0 : Int} {σ : SS} (h : -2147483648 ≤ (y0 * (σ 12 13)) ∧ (y0 * (σ 12 13)) ≤ 2147483647) : ev 212 19 [qR 34, qI x1, qI x2, qI x3, qU, qU, qU] [qI y0] σ = (ev 612 0 [qR 12, qI (y0 * (σ 12 13))] [] σ).bind (fun x => ev 212 38 [qR 34, qI x1, qI x2, qI x3, qI (y0 * (σ 12 13)), qU, qU] (q_push x.1 []) x.2) :=
  Eq.trans (e_aload_n d_212_19 rfl) (Eq.trans (e_getR d_212_20 fl_2_9 sh_34 rfl) (Eq.trans (e_getI d_212_23 fl_2_95 sh_12 rfl) (Eq.trans (e_imul d_212_26 h) (Eq.trans (e_istore d_212_27 (by decide) (Nat.le_of_ble_eq_true rfl) rfl) (Eq.trans (e_aload_n d_212_29 rfl) (Eq.trans (e_getR d_212_30 fl_2_9 sh_34 rfl) (Eq.trans (e_iload d_212_33 rfl) (e_callV d_212_35 ml_2_79 fit_212_612 par_612 rfl rfl sh_12 (Nat.le_of_ble_eq_true rfl) (Nat.le_of_ble_eq_true rfl) (Nat.le_of_ble_eq_true rfl) rfl (by decide) rfl))))))))
theorem b212_38 {x1 x2 x3 x4 y0 : Int} {σ : SS} : ev 212 38 [qR 34, qI x1, qI x2, qI x3, qI x4, qU, qU] [qI y0] σ = (ev 613 0 [qR 12, qI x1, qI y0] [] σ).bind (fun x => ev 212 50 [qR 34, qI x1, qI x2, qI x3, qI x4, qI y0, qU] (q_push x.1 []) x.2) :=
  Eq.trans (e_istore d_212_38 (by decide) (Nat.le_of_ble_eq_true rfl) rfl) (Eq.trans (e_aload_n d_212_40 rfl) (Eq.trans (e_getR d_212_41 fl_2_9 sh_34 rfl) (Eq.trans (e_iload_n d_212_44 rfl) (Eq.trans (e_iload d_212_45 rfl) (e_callV d_212_47 ml_2_89 fit_212_613 par_613 rfl rfl sh_12 (Nat.le_of_ble_eq_true rfl) (Nat.le_of_ble_eq_true rfl) (Nat.le_of_ble_eq_true rfl) rfl (by decide) rfl)))))
theorem b212_50 {x1 x2 x3 x4 x5 y0 : Int} {σ : SS} : ev 212 50 [qR 34, qI x1, qI x2, qI x3, qI x4, qI x5, qU] [qI y0] σ = if y0 = 0 then ev 212 70 [qR 34, qI x1, qI x2, qI x3, qI x4, qI x5, qU] [] σ else ev 212 53 [qR 34, qI x1, qI x2, qI x3, qI x4, qI x5, qU] [] σ :=
  e_if_eq d_212_50 (by decide)
theorem b212_53 {x1 x2 x3 x4 x5 : Int} {σ : SS} : ev 212 53 [qR 34, qI x1, qI x2, qI x3, qI x4, qI x5, qU] [] σ = (ev 613 0 [qR 12, qI x2, qI x5] [] σ).bind (fun x => ev 212 63 [qR 34, qI x1, qI x2, qI x3, qI x4, qI x5, qU] (q_push x.1 []) x.2) :=
  Eq.trans (e_aload_n d_212_53 rfl) (Eq.trans (e_getR d_212_54 fl_2_9 sh_34 rfl) (Eq.trans (e_iload_n d_212_57 rfl) (Eq.trans (e_iload d_212_58 rfl) (e_callV d_212_60 ml_2_89 fit_212_613 par_613 rfl rfl sh_12 (Nat.le_of_ble_eq_true rfl) (Nat.le_of_ble_eq_true rfl) (Nat.le_of_ble_eq_true rfl) rfl (by decide) rfl))))
theorem b212_63 {x1 x2 x3 x4 x5 y0 : Int} {σ : SS} : ev 212 63 [qR 34, qI x1, qI x2, qI x3, qI x4, qI x5, qU] [qI y0] σ = if y0 = 0 then ev 212 70 [qR 34, qI x1, qI x2, qI x3, qI x4, qI x5, qU] [] σ else ev 212 66 [qR 34, qI x1, qI x2, qI x3, qI x4, qI x5, qU] [] σ :=
  e_if_eq d_212_63 (by decide)
theorem b212_66 {x1 x2 x3 x4 x5 : Int} {σ : SS} : ev 212 66 [qR 34, qI x1, qI x2, qI x3, qI x4, qI x5, qU] [] σ = ev 212 71 [qR 34, qI x1, qI x2, qI x3, qI x4, qI x5, qU] [qI 1] σ :=
  Eq.trans (e_iconst d_212_66 k_1) (e_goto d_212_67 (by decide))
theorem b212_70 {x1 x2 x3 x4 x5 : Int} {σ : SS} : ev 212 70 [qR 34, qI x1, qI x2, qI x3, qI x4, qI x5, qU] [] σ = ev 212 71 [qR 34, qI x1, qI x2, qI x3, qI x4, qI x5, qU] [qI 0] σ :=
  e_iconst d_212_70 k_0
theorem b212_71 {x1 x2 x3 x4 x5 y0 : Int} {σ : SS} : ev 212 71 [qR 34, qI x1, qI x2, qI x3, qI x4, qI x5, qU] [qI y0] σ = if y0 = 0 then ev 212 91 [qR 34, qI x1, qI x2, qI x3, qI x4, qI x5, qI y0] [] σ else ev 212 78 [qR 34, qI x1, qI x2, qI x3, qI x4, qI x5, qI y0] [] σ :=
  Eq.trans (e_istore d_212_71 (by decide) (Nat.le_of_ble_eq_true rfl) rfl) (Eq.trans (e_iload d_212_73 rfl) (e_if_eq d_212_75 (by decide)))
theorem b212_78 {x1 x2 x3 x4 x5 x6 : Int} {σ : SS} : ev 212 78 [qR 34, qI x1, qI x2, qI x3, qI x4, qI x5, qI x6] [] σ = if 9999 < x4 then ev 212 91 [qR 34, qI x1, qI x2, qI x3, qI x4, qI x5, qI x6] [] σ else ev 212 86 [qR 34, qI x1, qI x2, qI x3, qI x4, qI x5, qI x6] [] σ :=
  Eq.trans (e_iload d_212_78 rfl) (Eq.trans (e_sipush d_212_80 ks_9999) (e_icmp_gt d_212_83 (by decide)))
theorem b212_86 {x1 x2 x3 x4 x5 x6 : Int} {σ : SS} : ev 212 86 [qR 34, qI x1, qI x2, qI x3, qI x4, qI x5, qI x6] [] σ = ev 212 92 [qR 34, qI x1, qI x2, qI x3, qI x4, qI x5, qI x6] [qI x4] σ :=
  Eq.trans (e_iload d_212_86 rfl) (e_goto d_212_88 (by decide))
theorem b212_91 {x1 x2 x3 x4 x5 x6 : Int} {σ : SS} : ev 212 91 [qR 34, qI x1, qI x2, qI x3, qI x4, qI x5, qI x6] [] σ = ev 212 92 [qR 34, qI x1, qI x2, qI x3, qI x4, qI x5, qI x6] [qI (-1)] σ :=
  e_iconst d_212_91 k_m1
theorem b212_92 {x1 x2 x3 x4 x5 x6 y0 : Int} {σ : SS} : ev 212 92 [qR 34, qI x1, qI x2, qI x3, qI x4, qI x5, qI x6] [qI y0] σ = some (some (qI y0), σ) :=
  e_iret d_212_92 (q_okrI rfl)
theorem b213_0 {x1 x2 : Int} {σ : SS} : ev 213 0 [qR 34, qI x1, qI x2, qU, qU, qU] [] σ = (ev 603 0 [qR 12, qI x1] [] σ).bind (fun x => ev 213 8 [qR 34, qI x1, qI x2, qU, qU, qU] (q_push x.1 []) x.2) :=
  Eq.trans (e_aload_n d_213_0 rfl) (Eq.trans (e_getR d_213_1 fl_2_9 sh_34 rfl) (Eq.trans (e_iload_n d_213_4 rfl) (e_callV d_213_5 ml_2_33 fit_213_603 par_603 rfl rfl sh_12 (Nat.le_of_ble_eq_true rfl) (Nat.le_of_ble_eq_true rfl) (Nat.le_of_ble_eq_true rfl) rfl (by decide) rfl)))
theorem b213_8 {x1 x2 y0 : Int} {σ : SS} : ev 213 8 [qR 34, qI x1, qI x2, qU, qU, qU] [qI y0] σ = if y0 = 0 then ev 213 23 [qR 34, qI x1, qI x2, qU, qU, qU] [] σ else ev 213 11 [qR 34, qI x1, qI x2, qU, qU, qU] [] σ :=
  e_if_eq d_213_8 (by decide)
theorem b213_11 {x1 x2 : Int} {σ : SS} (h : 0 ≤ x1 ∧ x1 < 6) : ev 213 11 [qR 34, qI x1, qI x2, qU, qU, qU] [] σ = ev 213 24 [qR 34, qI x1, qI x2, qU, qU, qU] [qI (σ 18 x1.toNat)] σ :=
  Eq.trans (e_aload_n d_213_11 rfl) (Eq.trans (e_getR d_213_12 fl_2_9 sh_34 rfl) (Eq.trans (e_getR d_213_15 fl_2_98 sh_12 rfl) (Eq.trans (e_iload_n d_213_18 rfl) (Eq.trans (e_iald d_213_19 sh_18 h) (e_goto d_213_20 (by decide))))))
theorem b213_23 {x1 x2 : Int} {σ : SS} : ev 213 23 [qR 34, qI x1, qI x2, qU, qU, qU] [] σ = ev 213 24 [qR 34, qI x1, qI x2, qU, qU, qU] [qI 0] σ :=
  e_iconst d_213_23 k_0
theorem b213_24 {x1 x2 y0 : Int} {σ : SS} : ev 213 24 [qR 34, qI x1, qI x2, qU, qU, qU] [qI y0] σ = (ev 200 0 [qR 34, qI x1, qU] [] σ).bind (fun x => ev 213 30 [qR 34, qI x1, qI x2, qI y0, qU, qU] (q_push x.1 []) x.2) :=
  Eq.trans (e_istore_n d_213_24 (by decide) (Nat.le_of_ble_eq_true rfl) rfl) (Eq.trans (e_aload_n d_213_25 rfl) (Eq.trans (e_iload_n d_213_26 rfl) (e_callV d_213_27 ml_2_43 fit_213_200 par_200 rfl rfl sh_34 (Nat.le_of_ble_eq_true rfl) (Nat.le_of_ble_eq_true rfl) (Nat.le_of_ble_eq_true rfl) rfl (by decide) rfl)))
theorem b213_30 {x1 x2 x3 y0 : Int} {σ : SS} : ev 213 30 [qR 34, qI x1, qI x2, qI x3, qU, qU] [qI y0] σ = (ev 202 0 [qR 34, qI x1] [] σ).bind (fun x => ev 213 35 [qR 34, qI x1, qI x2, qI x3, qU, qU] (q_push x.1 [qI y0]) x.2) :=
  Eq.trans (e_aload_n d_213_30 rfl) (Eq.trans (e_iload_n d_213_31 rfl) (e_callV d_213_32 ml_2_54 fit_213_202 par_202 rfl rfl sh_34 (Nat.le_of_ble_eq_true rfl) (Nat.le_of_ble_eq_true rfl) (Nat.le_of_ble_eq_true rfl) rfl (by decide) rfl))
theorem b213_35 {x1 x2 x3 y0 y1 : Int} {σ : SS} (h : -2147483648 ≤ (y1 + y0) ∧ (y1 + y0) ≤ 2147483647) : ev 213 35 [qR 34, qI x1, qI x2, qI x3, qU, qU] [qI y0, qI y1] σ = (ev 203 0 [qR 34, qI x1, qI x2] [] σ).bind (fun x => ev 213 48 [qR 34, qI x1, qI x2, qI x3, qI (y1 + y0), qU] (q_push x.1 [qR 12]) x.2) :=
  Eq.trans (e_iadd d_213_35 h) (Eq.trans (e_istore d_213_36 (by decide) (Nat.le_of_ble_eq_true rfl) rfl) (Eq.trans (e_aload_n d_213_38 rfl) (Eq.trans (e_getR d_213_39 fl_2_9 sh_34 rfl) (Eq.trans (e_aload_n d_213_42 rfl) (Eq.trans (e_iload_n d_213_43 rfl) (Eq.trans (e_iload_n d_213_44 rfl) (e_callV d_213_45 ml_2_61 fit_213_203 par_203 rfl rfl sh_34 (Nat.le_of_ble_eq_true rfl) (Nat.le_of_ble_eq_true rfl) (Nat.le_of_ble_eq_true rfl) rfl (by decide) rfl)))))))
theorem b213_48 {x1 x2 x3 x4 y0 : Int} {σ : SS} : ev 213 48 [qR 34, qI x1, qI x2, qI x3, qI x4, qU] [qI y0, qR 12] σ = (ev 207 0 [qR 34] [] σ).bind (fun x => ev 213 52 [qR 34, qI x1, qI x2, qI x3, qI x4, qU] (q_push x.1 [qI y0, qR 12]) x.2) :=
  Eq.trans (e_aload_n d_213_48 rfl) (e_callV d_213_49 ml_2_85 fit_213_207 par_207 rfl rfl sh_34 (Nat.le_of_ble_eq_true rfl) (Nat.le_of_ble_eq_true rfl) (Nat.le_of_ble_eq_true rfl) rfl (by decide) rfl)
theorem b213_52 {x1 x2 x3 x4 y0 y1 : Int} {σ : SS} : ev 213 52 [qR 34, qI x1, qI x2, qI x3, qI x4, qU] [qI y0, qI y1, qR 12] σ = (ev 613 0 [qR 12, qI y1, qI y0] [] σ).bind (fun x => ev 213 55 [qR 34, qI x1, qI x2, qI x3, qI x4, qU] (q_push x.1 []) x.2) :=
  e_callV d_213_52 ml_2_89 fit_213_613 par_613 rfl rfl sh_12 (Nat.le_of_ble_eq_true rfl) (Nat.le_of_ble_eq_true rfl) (Nat.le_of_ble_eq_true rfl) rfl (by decide) rfl
theorem b213_55 {x1 x2 x3 x4 y0 : Int} {σ : SS} : ev 213 55 [qR 34, qI x1, qI x2, qI x3, qI x4, qU] [qI y0] σ = if y0 = 0 then ev 213 62 [qR 34, qI x1, qI x2, qI x3, qI x4, qU] [] σ else ev 213 58 [qR 34, qI x1, qI x2, qI x3, qI x4, qU] [] σ :=
  e_if_eq d_213_55 (by decide)
theorem b213_58 {x1 x2 x3 x4 : Int} {σ : SS} : ev 213 58 [qR 34, qI x1, qI x2, qI x3, qI x4, qU] [] σ = ev 213 63 [qR 34, qI x1, qI x2, qI x3, qI x4, qU] [qI x3] σ :=
  Eq.trans (e_iload_n d_213_58 rfl) (e_goto d_213_59 (by decide))
theorem b213_62 {x1 x2 x3 x4 : Int} {σ : SS} : ev 213 62 [qR 34, qI x1, qI x2, qI x3, qI x4, qU] [] σ = ev 213 63 [qR 34, qI x1, qI x2, qI x3, qI x4, qU] [qI 0] σ :=
  e_iconst d_213_62 k_0
theorem b213_63 {x1 x2 x3 x4 y0 : Int} {σ : SS} : ev 213 63 [qR 34, qI x1, qI x2, qI x3, qI x4, qU] [qI y0] σ = (ev 207 0 [qR 34] [] σ).bind (fun x => ev 213 75 [qR 34, qI x1, qI x2, qI x3, qI x4, qI y0] (q_push x.1 [qI x4, qR 12]) x.2) :=
  Eq.trans (e_istore d_213_63 (by decide) (Nat.le_of_ble_eq_true rfl) rfl) (Eq.trans (e_aload_n d_213_65 rfl) (Eq.trans (e_getR d_213_66 fl_2_9 sh_34 rfl) (Eq.trans (e_iload d_213_69 rfl) (Eq.trans (e_aload_n d_213_71 rfl) (e_callV d_213_72 ml_2_85 fit_213_207 par_207 rfl rfl sh_34 (Nat.le_of_ble_eq_true rfl) (Nat.le_of_ble_eq_true rfl) (Nat.le_of_ble_eq_true rfl) rfl (by decide) rfl)))))
theorem b213_75 {x1 x2 x3 x4 x5 y0 y1 : Int} {σ : SS} : ev 213 75 [qR 34, qI x1, qI x2, qI x3, qI x4, qI x5] [qI y0, qI y1, qR 12] σ = (ev 613 0 [qR 12, qI y1, qI y0] [] σ).bind (fun x => ev 213 78 [qR 34, qI x1, qI x2, qI x3, qI x4, qI x5] (q_push x.1 []) x.2) :=
  e_callV d_213_75 ml_2_89 fit_213_613 par_613 rfl rfl sh_12 (Nat.le_of_ble_eq_true rfl) (Nat.le_of_ble_eq_true rfl) (Nat.le_of_ble_eq_true rfl) rfl (by decide) rfl
theorem b213_78 {x1 x2 x3 x4 x5 y0 : Int} {σ : SS} : ev 213 78 [qR 34, qI x1, qI x2, qI x3, qI x4, qI x5] [qI y0] σ = if y0 = 0 then ev 213 91 [qR 34, qI x1, qI x2, qI x3, qI x4, qI x5] [] σ else ev 213 81 [qR 34, qI x1, qI x2, qI x3, qI x4, qI x5] [] σ :=
  e_if_eq d_213_78 (by decide)
theorem b213_81 {x1 x2 x3 x4 x5 : Int} {σ : SS} (h : (-2147483648 ≤ (x5 + 8) ∧ (x5 + 8) ≤ 2147483647) ∧ (-2147483648 ≤ ((x5 + 8) - x3) ∧ ((x5 + 8) - x3) ≤ 2147483647)) : ev 213 81 [qR 34, qI x1, qI x2, qI x3, qI x4, qI x5] [] σ = ev 213 93 [qR 34, qI x1, qI x2, qI x3, qI x4, qI x5] [qI ((x5 + 8) - x3)] σ :=
  Eq.trans (e_iload d_213_81 rfl) (Eq.trans (e_bipush d_213_83 kb_8) (Eq.trans (e_iadd d_213_85 h.1) (Eq.trans (e_iload_n d_213_86 rfl) (Eq.trans (e_isub d_213_87 h.2) (e_goto d_213_88 (by decide))))))
theorem b213_91 {x1 x2 x3 x4 x5 : Int} {σ : SS} : ev 213 91 [qR 34, qI x1, qI x2, qI x3, qI x4, qI x5] [] σ = ev 213 93 [qR 34, qI x1, qI x2, qI x3, qI x4, qI x5] [qI x5] σ :=
  e_iload d_213_91 rfl
theorem b213_93 {x1 x2 x3 x4 x5 y0 : Int} {σ : SS} : ev 213 93 [qR 34, qI x1, qI x2, qI x3, qI x4, qI x5] [qI y0] σ = some (some (qI y0), σ) :=
  e_iret d_213_93 (q_okrI rfl)
theorem b1100_0 {x0 : Int} {σ : SS} : ev 1100 0 [qI x0] [] σ = some (some (qI (q_and (q_add (q_add (q_and (q_add (q_add (q_and (q_sub x0 (q_and (q_ushr x0 1) 1431655765)) 858993459) (q_and (q_ushr (q_sub x0 (q_and (q_ushr x0 1) 1431655765)) 2) 858993459)) (q_ushr (q_add (q_and (q_sub x0 (q_and (q_ushr x0 1) 1431655765)) 858993459) (q_and (q_ushr (q_sub x0 (q_and (q_ushr x0 1) 1431655765)) 2) 858993459)) 4)) 252645135) (q_ushr (q_and (q_add (q_add (q_and (q_sub x0 (q_and (q_ushr x0 1) 1431655765)) 858993459) (q_and (q_ushr (q_sub x0 (q_and (q_ushr x0 1) 1431655765)) 2) 858993459)) (q_ushr (q_add (q_and (q_sub x0 (q_and (q_ushr x0 1) 1431655765)) 858993459) (q_and (q_ushr (q_sub x0 (q_and (q_ushr x0 1) 1431655765)) 2) 858993459)) 4)) 252645135) 8)) (q_ushr (q_add (q_and (q_add (q_add (q_and (q_sub x0 (q_and (q_ushr x0 1) 1431655765)) 858993459) (q_and (q_ushr (q_sub x0 (q_and (q_ushr x0 1) 1431655765)) 2) 858993459)) (q_ushr (q_add (q_and (q_sub x0 (q_and (q_ushr x0 1) 1431655765)) 858993459) (q_and (q_ushr (q_sub x0 (q_and (q_ushr x0 1) 1431655765)) 2) 858993459)) 4)) 252645135) (q_ushr (q_and (q_add (q_add (q_and (q_sub x0 (q_and (q_ushr x0 1) 1431655765)) 858993459) (q_and (q_ushr (q_sub x0 (q_and (q_ushr x0 1) 1431655765)) 2) 858993459)) (q_ushr (q_add (q_and (q_sub x0 (q_and (q_ushr x0 1) 1431655765)) 858993459) (q_and (q_ushr (q_sub x0 (q_and (q_ushr x0 1) 1431655765)) 2) 858993459)) 4)) 252645135) 8)) 16)) 63)), σ) :=
  Eq.trans (e_iload_n d_1100_0 rfl) (Eq.trans (e_iload_n d_1100_1 rfl) (Eq.trans (e_iconst d_1100_2 k_1) (Eq.trans (e_iushr d_1100_3) (Eq.trans (e_ldcw d_1100_4 ld_11_265 k_1431655765) (Eq.trans (e_iand d_1100_7) (Eq.trans (e_isubX d_1100_8) (Eq.trans (e_istore_n d_1100_9 (by decide) (Nat.le_of_ble_eq_true rfl) rfl) (Eq.trans (e_iload_n d_1100_10 rfl) (Eq.trans (e_ldcw d_1100_11 ld_11_266 k_858993459) (Eq.trans (e_iand d_1100_14) (Eq.trans (e_iload_n d_1100_15 rfl) (Eq.trans (e_iconst d_1100_16 k_2) (Eq.trans (e_iushr d_1100_17) (Eq.trans (e_ldcw d_1100_18 ld_11_266 k_858993459) (Eq.trans (e_iand d_1100_21) (Eq.trans (e_iaddX d_1100_22) (Eq.trans (e_istore_n d_1100_23 (by decide) (Nat.le_of_ble_eq_true rfl) rfl) (Eq.trans (e_iload_n d_1100_24 rfl) (Eq.trans (e_iload_n d_1100_25 rfl) (Eq.trans (e_iconst d_1100_26 k_4) (Eq.trans (e_iushr d_1100_27) (Eq.trans (e_iaddX d_1100_28) (Eq.trans (e_ldcw d_1100_29 ld_11_267 k_252645135) (Eq.trans (e_iand d_1100_32) (Eq.trans (e_istore_n d_1100_33 (by decide) (Nat.le_of_ble_eq_true rfl) rfl) (Eq.trans (e_iload_n d_1100_34 rfl) (Eq.trans (e_iload_n d_1100_35 rfl) (Eq.trans (e_bipush d_1100_36 kb_8) (Eq.trans (e_iushr d_1100_38) (Eq.trans (e_iaddX d_1100_39) (Eq.trans (e_istore_n d_1100_40 (by decide) (Nat.le_of_ble_eq_true rfl) rfl) (Eq.trans (e_iload_n d_1100_41 rfl) (Eq.trans (e_iload_n d_1100_42 rfl) (Eq.trans (e_bipush d_1100_43 kb_16) (Eq.trans (e_iushr d_1100_45) (Eq.trans (e_iaddX d_1100_46) (Eq.trans (e_istore_n d_1100_47 (by decide) (Nat.le_of_ble_eq_true rfl) rfl) (Eq.trans (e_iload_n d_1100_48 rfl) (Eq.trans (e_bipush d_1100_49 kb_63) (Eq.trans (e_iand d_1100_51) (e_iret d_1100_52 (q_okrI rfl))))))))))))))))))))))))))))))))))))))))))
theorem b1201_0 {x0 x1 : Int} {σ : SS} : ev 1201 0 [qI x0, qI x1] [] σ = if x0 < x1 then ev 1201 9 [qI x0, qI x1] [] σ else ev 1201 5 [qI x0, qI x1] [] σ :=
  Eq.trans (e_iload_n d_1201_0 rfl) (Eq.trans (e_iload_n d_1201_1 rfl) (e_icmp_lt d_1201_2 (by decide)))
theorem b1201_5 {x0 x1 : Int} {σ : SS} : ev 1201 5 [qI x0, qI x1] [] σ = ev 1201 10 [qI x0, qI x1] [qI x0] σ :=
  Eq.trans (e_iload_n d_1201_5 rfl) (e_goto d_1201_6 (by decide))
theorem b1201_9 {x0 x1 : Int} {σ : SS} : ev 1201 9 [qI x0, qI x1] [] σ = ev 1201 10 [qI x0, qI x1] [qI x1] σ :=
  e_iload_n d_1201_9 rfl
theorem b1201_10 {x0 x1 y0 : Int} {σ : SS} : ev 1201 10 [qI x0, qI x1] [qI y0] σ = some (some (qI y0), σ) :=
  e_iret d_1201_10 (q_okrI rfl)
theorem b207_0 {σ : SS} : ev 207 0 [qR 34] [] σ = (ev 612 0 [qR 12, qI (σ 21 7)] [] σ).bind (fun x => ev 207 14 [qR 34] (q_push x.1 []) x.2) :=
  Eq.trans (e_aload_n d_207_0 rfl) (Eq.trans (e_getR d_207_1 fl_2_9 sh_34 rfl) (Eq.trans (e_aload_n d_207_4 rfl) (Eq.trans (e_getR d_207_5 fl_2_15 sh_34 rfl) (Eq.trans (e_getI d_207_8 fl_2_76 sh_21 rfl) (e_callV d_207_11 ml_2_79 fit_207_612 par_612 rfl rfl sh_12 (Nat.le_of_ble_eq_true rfl) (Nat.le_of_ble_eq_true rfl) (Nat.le_of_ble_eq_true rfl) rfl (by decide) rfl)))))
theorem b207_14 {y0 : Int} {σ : SS} : ev 207 14 [qR 34] [qI y0] σ = some (some (qI y0), σ) :=
  e_iret d_207_14 (q_okrI rfl)
theorem b1202_0 {x0 x1 : Int} {σ : SS} : ev 1202 0 [qI x0, qI x1] [] σ = if x1 < x0 then ev 1202 9 [qI x0, qI x1] [] σ else ev 1202 5 [qI x0, qI x1] [] σ :=
  Eq.trans (e_iload_n d_1202_0 rfl) (Eq.trans (e_iload_n d_1202_1 rfl) (e_icmp_gt d_1202_2 (by decide)))
theorem b1202_5 {x0 x1 : Int} {σ : SS} : ev 1202 5 [qI x0, qI x1] [] σ = ev 1202 10 [qI x0, qI x1] [qI x0] σ :=
  Eq.trans (e_iload_n d_1202_5 rfl) (e_goto d_1202_6 (by decide))
theorem b1202_9 {x0 x1 : Int} {σ : SS} : ev 1202 9 [qI x0, qI x1] [] σ = ev 1202 10 [qI x0, qI x1] [qI x1] σ :=
  e_iload_n d_1202_9 rfl
theorem b1202_10 {x0 x1 y0 : Int} {σ : SS} : ev 1202 10 [qI x0, qI x1] [qI y0] σ = some (some (qI y0), σ) :=
  e_iret d_1202_10 (q_okrI rfl)
theorem b210_0 {x1 x2 : Int} {σ : SS} : ev 210 0 [qR 34, qI x1, qI x2] [] σ = (ev 201 0 [qR 34, qI x1, qI x2, qU] [] σ).bind (fun x => ev 210 10 [qR 34, qI x1, qI x2] (q_push x.1 [qR 12]) x.2) :=
  Eq.trans (e_aload_n d_210_0 rfl) (Eq.trans (e_getR d_210_1 fl_2_9 sh_34 rfl) (Eq.trans (e_aload_n d_210_4 rfl) (Eq.trans (e_iload_n d_210_5 rfl) (Eq.trans (e_iload_n d_210_6 rfl) (e_callV d_210_7 ml_2_50 fit_210_201 par_201 rfl rfl sh_34 (Nat.le_of_ble_eq_true rfl) (Nat.le_of_ble_eq_true rfl) (Nat.le_of_ble_eq_true rfl) rfl (by decide) rfl)))))
theorem b210_10 {x1 x2 y0 : Int} {σ : SS} : ev 210 10 [qR 34, qI x1, qI x2] [qI y0, qR 12] σ = (ev 613 0 [qR 12, qI y0, qI (σ 12 11)] [] σ).bind (fun x => ev 210 20 [qR 34, qI x1, qI x2] (q_push x.1 []) x.2) :=
  Eq.trans (e_aload_n d_210_10 rfl) (Eq.trans (e_getR d_210_11 fl_2_9 sh_34 rfl) (Eq.trans (e_getI d_210_14 fl_2_92 sh_12 rfl) (e_callV d_210_17 ml_2_89 fit_210_613 par_613 rfl rfl sh_12 (Nat.le_of_ble_eq_true rfl) (Nat.le_of_ble_eq_true rfl) (Nat.le_of_ble_eq_true rfl) rfl (by decide) rfl)))
theorem b210_20 {x1 x2 y0 : Int} {σ : SS} (h : y0 = 0 ∨ y0 = 1) : ev 210 20 [qR 34, qI x1, qI x2] [qI y0] σ = some (some (qI y0), σ) :=
  e_iret d_210_20 (q_okrZ rfl h)
theorem b201_0 {x1 x2 : Int} {σ : SS} : ev 201 0 [qR 34, qI x1, qI x2, qU] [] σ = (ev 603 0 [qR 12, qI x1] [] σ).bind (fun x => ev 201 8 [qR 34, qI x1, qI x2, qU] (q_push x.1 []) x.2) :=
  Eq.trans (e_aload_n d_201_0 rfl) (Eq.trans (e_getR d_201_1 fl_2_9 sh_34 rfl) (Eq.trans (e_iload_n d_201_4 rfl) (e_callV d_201_5 ml_2_33 fit_201_603 par_603 rfl rfl sh_12 (Nat.le_of_ble_eq_true rfl) (Nat.le_of_ble_eq_true rfl) (Nat.le_of_ble_eq_true rfl) rfl (by decide) rfl)))
theorem b201_8 {x1 x2 y0 : Int} {σ : SS} : ev 201 8 [qR 34, qI x1, qI x2, qU] [qI y0] σ = if y0 = 0 then ev 201 34 [qR 34, qI x1, qI x2, qU] [] σ else ev 201 11 [qR 34, qI x1, qI x2, qU] [] σ :=
  e_if_eq d_201_8 (by decide)
theorem b201_11 {x1 x2 : Int} {σ : SS} : ev 201 11 [qR 34, qI x1, qI x2, qU] [] σ = (ev 611 0 [qR 12, qI x2] [] σ).bind (fun x => ev 201 19 [qR 34, qI x1, qI x2, qU] (q_push x.1 []) x.2) :=
  Eq.trans (e_aload_n d_201_11 rfl) (Eq.trans (e_getR d_201_12 fl_2_9 sh_34 rfl) (Eq.trans (e_iload_n d_201_15 rfl) (e_callV d_201_16 ml_2_37 fit_201_611 par_611 rfl rfl sh_12 (Nat.le_of_ble_eq_true rfl) (Nat.le_of_ble_eq_true rfl) (Nat.le_of_ble_eq_true rfl) rfl (by decide) rfl)))
theorem b201_19 {x1 x2 y0 : Int} {σ : SS} : ev 201 19 [qR 34, qI x1, qI x2, qU] [qI y0] σ = if y0 = 0 then ev 201 34 [qR 34, qI x1, qI x2, qU] [] σ else ev 201 22 [qR 34, qI x1, qI x2, qU] [] σ :=
  e_if_eq d_201_19 (by decide)
theorem b201_22 {x1 x2 : Int} {σ : SS} (h : 0 ≤ x1 ∧ x1 < 6) : ev 201 22 [qR 34, qI x1, qI x2, qU] [] σ = ev 201 35 [qR 34, qI x1, qI x2, qU] [qI (σ 17 x1.toNat)] σ :=
  Eq.trans (e_aload_n d_201_22 rfl) (Eq.trans (e_getR d_201_23 fl_2_9 sh_34 rfl) (Eq.trans (e_getR d_201_26 fl_2_40 sh_12 rfl) (Eq.trans (e_iload_n d_201_29 rfl) (Eq.trans (e_iald d_201_30 sh_17 h) (e_goto d_201_31 (by decide))))))
theorem b201_34 {x1 x2 : Int} {σ : SS} : ev 201 34 [qR 34, qI x1, qI x2, qU] [] σ = ev 201 35 [qR 34, qI x1, qI x2, qU] [qI 0] σ :=
  e_iconst d_201_34 k_0
theorem b201_35 {x1 x2 y0 : Int} {σ : SS} : ev 201 35 [qR 34, qI x1, qI x2, qU] [qI y0] σ = (ev 200 0 [qR 34, qI x1, qU] [] σ).bind (fun x => ev 201 41 [qR 34, qI x1, qI x2, qI y0] (q_push x.1 []) x.2) :=
  Eq.trans (e_istore_n d_201_35 (by decide) (Nat.le_of_ble_eq_true rfl) rfl) (Eq.trans (e_aload_n d_201_36 rfl) (Eq.trans (e_iload_n d_201_37 rfl) (e_callV d_201_38 ml_2_43 fit_201_200 par_200 rfl rfl sh_34 (Nat.le_of_ble_eq_true rfl) (Nat.le_of_ble_eq_true rfl) (Nat.le_of_ble_eq_true rfl) rfl (by decide) rfl)))
theorem b201_41 {x1 x2 x3 y0 : Int} {σ : SS} (h : -2147483648 ≤ (y0 + x3) ∧ (y0 + x3) ≤ 2147483647) : ev 201 41 [qR 34, qI x1, qI x2, qI x3] [qI y0] σ = some (some (qI (y0 + x3)), σ) :=
  Eq.trans (e_iload_n d_201_41 rfl) (Eq.trans (e_iadd d_201_42 h) (e_iret d_201_43 (q_okrI rfl)))
theorem b202_0 {x1 : Int} {σ : SS} : ev 202 0 [qR 34, qI x1] [] σ = (ev 603 0 [qR 12, qI x1] [] σ).bind (fun x => ev 202 8 [qR 34, qI x1] (q_push x.1 []) x.2) :=
  Eq.trans (e_aload_n d_202_0 rfl) (Eq.trans (e_getR d_202_1 fl_2_9 sh_34 rfl) (Eq.trans (e_iload_n d_202_4 rfl) (e_callV d_202_5 ml_2_33 fit_202_603 par_603 rfl rfl sh_12 (Nat.le_of_ble_eq_true rfl) (Nat.le_of_ble_eq_true rfl) (Nat.le_of_ble_eq_true rfl) rfl (by decide) rfl)))
theorem b202_8 {x1 y0 : Int} {σ : SS} : ev 202 8 [qR 34, qI x1] [qI y0] σ = if y0 = 0 then ev 202 23 [qR 34, qI x1] [] σ else ev 202 11 [qR 34, qI x1] [] σ :=
  e_if_eq d_202_8 (by decide)
theorem b202_11 {x1 : Int} {σ : SS} (h : 0 ≤ x1 ∧ x1 < 6) : ev 202 11 [qR 34, qI x1] [] σ = ev 202 24 [qR 34, qI x1] [qI (σ 23 x1.toNat)] σ :=
  Eq.trans (e_aload_n d_202_11 rfl) (Eq.trans (e_getR d_202_12 fl_2_15 sh_34 rfl) (Eq.trans (e_getR d_202_15 fl_2_47 sh_21 rfl) (Eq.trans (e_iload_n d_202_18 rfl) (Eq.trans (e_iald d_202_19 sh_23 h) (e_goto d_202_20 (by decide))))))
theorem b202_23 {x1 : Int} {σ : SS} : ev 202 23 [qR 34, qI x1] [] σ = ev 202 24 [qR 34, qI x1] [qI 0] σ :=
  e_iconst d_202_23 k_0
theorem b202_24 {x1 y0 : Int} {σ : SS} : ev 202 24 [qR 34, qI x1] [qI y0] σ = some (some (qI y0), σ) :=
  e_iret d_202_24 (q_okrI rfl)
theorem b200_0 {x1 : Int} {σ : SS} : ev 200 0 [qR 34, qI x1, qU] [] σ = if x1 < 0 then ev 200 10 [qR 34, qI x1, qU] [] σ else ev 200 4 [qR 34, qI x1, qU] [] σ :=
  Eq.trans (e_iload_n d_200_0 rfl) (e_if_lt d_200_1 (by decide))
theorem b200_4 {x1 : Int} {σ : SS} : ev 200 4 [qR 34, qI x1, qU] [] σ = if x1 < 6 then ev 200 12 [qR 34, qI x1, qU] [] σ else ev 200 10 [qR 34, qI x1, qU] [] σ :=
  Eq.trans (e_iload_n d_200_4 rfl) (Eq.trans (e_bipush d_200_5 kb_6) (e_icmp_lt d_200_7 (by decide)))
theorem b200_10 {x1 : Int} {σ : SS} : ev 200 10 [qR 34, qI x1, qU] [] σ = some (some (qI 0), σ) :=
  Eq.trans (e_iconst d_200_10 k_0) (e_iret d_200_11 (q_okrI rfl))
theorem b200_12 {x1 : Int} {σ : SS} (h : 0 ≤ x1 ∧ x1 < 6) : ev 200 12 [qR 34, qI x1, qU] [] σ = if (σ 22 x1.toNat) < 0 then ev 200 32 [qR 34, qI x1, qI (σ 22 x1.toNat)] [] σ else ev 200 26 [qR 34, qI x1, qI (σ 22 x1.toNat)] [] σ :=
  Eq.trans (e_aload_n d_200_12 rfl) (Eq.trans (e_getR d_200_13 fl_2_15 sh_34 rfl) (Eq.trans (e_getR d_200_16 fl_2_19 sh_21 rfl) (Eq.trans (e_iload_n d_200_19 rfl) (Eq.trans (e_iald d_200_20 sh_22 h) (Eq.trans (e_istore_n d_200_21 (by decide) (Nat.le_of_ble_eq_true rfl) rfl) (Eq.trans (e_iload_n d_200_22 rfl) (e_if_lt d_200_23 (by decide))))))))
theorem b200_26 {x1 x2 : Int} {σ : SS} : ev 200 26 [qR 34, qI x1, qI x2] [] σ = if x2 < 6 then ev 200 44 [qR 34, qI x1, qI x2] [] σ else ev 200 32 [qR 34, qI x1, qI x2] [] σ :=
  Eq.trans (e_iload_n d_200_26 rfl) (Eq.trans (e_bipush d_200_27 kb_6) (e_icmp_lt d_200_29 (by decide)))
theorem b200_32 {x1 x2 : Int} {σ : SS} (h : 0 ≤ x1 ∧ x1 < 6) : ev 200 32 [qR 34, qI x1, qI x2] [] σ = ev 200 63 [qR 34, qI x1, qI x2] [qI (σ 16 x1.toNat)] σ :=
  Eq.trans (e_aload_n d_200_32 rfl) (Eq.trans (e_getR d_200_33 fl_2_9 sh_34 rfl) (Eq.trans (e_getR d_200_36 fl_2_25 sh_12 rfl) (Eq.trans (e_iload_n d_200_39 rfl) (Eq.trans (e_iald d_200_40 sh_16 h) (e_goto d_200_41 (by decide))))))
theorem b200_44 {x1 x2 : Int} {σ : SS} (h : (0 ≤ x1 ∧ x1 < 6) ∧ (0 ≤ x2 ∧ x2 < 6) ∧ (-2147483648 ≤ ((σ 16 x1.toNat) + (σ 13 x2.toNat)) ∧ ((σ 16 x1.toNat) + (σ 13 x2.toNat)) ≤ 2147483647)) : ev 200 44 [qR 34, qI x1, qI x2] [] σ = ev 200 63 [qR 34, qI x1, qI x2] [qI ((σ 16 x1.toNat) + (σ 13 x2.toNat))] σ :=
  Eq.trans (e_aload_n d_200_44 rfl) (Eq.trans (e_getR d_200_45 fl_2_9 sh_34 rfl) (Eq.trans (e_getR d_200_48 fl_2_25 sh_12 rfl) (Eq.trans (e_iload_n d_200_51 rfl) (Eq.trans (e_iald d_200_52 sh_16 h.1) (Eq.trans (e_aload_n d_200_53 rfl) (Eq.trans (e_getR d_200_54 fl_2_9 sh_34 rfl) (Eq.trans (e_getR d_200_57 fl_2_30 sh_12 rfl) (Eq.trans (e_iload_n d_200_60 rfl) (Eq.trans (e_iald d_200_61 sh_13 h.2.1) (e_iadd d_200_62 h.2.2))))))))))
theorem b200_63 {x1 x2 y0 : Int} {σ : SS} : ev 200 63 [qR 34, qI x1, qI x2] [qI y0] σ = some (some (qI y0), σ) :=
  e_iret d_200_63 (q_okrI rfl)
theorem b1200_0 {x0 x1 : Int} {σ : SS} (h : ¬ x1 = 0) : ev 1200 0 [qI x0, qI x1, qU] [] σ = if (q_xor x0 x1) < 0 then ev 1200 10 [qI x0, qI x1, qI (q_rem x0 x1)] [] σ else ev 1200 18 [qI x0, qI x1, qI (q_rem x0 x1)] [] σ :=
  Eq.trans (e_iload_n d_1200_0 rfl) (Eq.trans (e_iload_n d_1200_1 rfl) (Eq.trans (e_iremX d_1200_2 h) (Eq.trans (e_istore_n d_1200_3 (by decide) (Nat.le_of_ble_eq_true rfl) rfl) (Eq.trans (e_iload_n d_1200_4 rfl) (Eq.trans (e_iload_n d_1200_5 rfl) (Eq.trans (e_ixor d_1200_6) (e_if_ge d_1200_7 (by decide))))))))
theorem b1200_10 {x0 x1 x2 : Int} {σ : SS} : ev 1200 10 [qI x0, qI x1, qI x2] [] σ = if x2 = 0 then ev 1200 18 [qI x0, qI x1, qI x2] [] σ else ev 1200 14 [qI x0, qI x1, qI x2] [] σ :=
  Eq.trans (e_iload_n d_1200_10 rfl) (e_if_eq d_1200_11 (by decide))
theorem b1200_14 {x0 x1 x2 : Int} {σ : SS} (h : -2147483648 ≤ (x2 + x1) ∧ (x2 + x1) ≤ 2147483647) : ev 1200 14 [qI x0, qI x1, qI x2] [] σ = some (some (qI (x2 + x1)), σ) :=
  Eq.trans (e_iload_n d_1200_14 rfl) (Eq.trans (e_iload_n d_1200_15 rfl) (Eq.trans (e_iadd d_1200_16 h) (e_iret d_1200_17 (q_okrI rfl))))
theorem b1200_18 {x0 x1 x2 : Int} {σ : SS} : ev 1200 18 [qI x0, qI x1, qI x2] [] σ = some (some (qI x2), σ) :=
  Eq.trans (e_iload_n d_1200_18 rfl) (e_iret d_1200_19 (q_okrI rfl))
