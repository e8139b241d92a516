theorem pa_0_0 : pz_at 0 0 = some (0, .aload_n 0, 1, 0, 0, 0) := by decide +kernel
theorem pa_0_1 : pz_at 0 1 = some (1, .iconst 0, 1, 0, 0, 0) := by decide +kernel
theorem pa_0_10 : pz_at 0 10 = some (10, .aload_n 0, 1, 0, 0, 0) := by decide +kernel
theorem pa_0_11 : pz_at 0 11 = some (11, .iconst 0, 1, 0, 0, 0) := by decide +kernel
theorem pa_0_12 : pz_at 0 12 = some (12, .putfield 16, 3, 0, 2, 299) := by decide +kernel
theorem pa_0_15 : pz_at 0 15 = some (15, .aload_n 0, 1, 0, 0, 0) := by decide +kernel
theorem pa_0_16 : pz_at 0 16 = some (16, .iconst 0, 1, 0, 0, 0) := by decide +kernel
theorem pa_0_17 : pz_at 0 17 = some (17, .putfield 19, 3, 0, 3, 301) := by decide +kernel
theorem pa_0_2 : pz_at 0 2 = some (2, .putfield 7, 3, 0, 0, 295) := by decide +kernel
theorem pa_0_20 : pz_at 0 20 = some (20, .aload_n 0, 1, 0, 0, 0) := by decide +kernel
theorem pa_0_21 : pz_at 0 21 = some (21, .iconst 0, 1, 0, 0, 0) := by decide +kernel
theorem pa_0_22 : pz_at 0 22 = some (22, .putfield 22, 3, 0, 4, 303) := by decide +kernel
theorem pa_0_25 : pz_at 0 25 = some (25, .aload_n 0, 1, 0, 0, 0) := by decide +kernel
theorem pa_0_26 : pz_at 0 26 = some (26, .iconst 0, 1, 0, 0, 0) := by decide +kernel
theorem pa_0_27 : pz_at 0 27 = some (27, .putfield 25, 3, 0, 5, 305) := by decide +kernel
theorem pa_0_30 : pz_at 0 30 = some (30, .aload_n 0, 1, 0, 0, 0) := by decide +kernel
theorem pa_0_31 : pz_at 0 31 = some (31, .iconst 0, 1, 0, 0, 0) := by decide +kernel
theorem pa_0_32 : pz_at 0 32 = some (32, .putfield 28, 3, 0, 6, 308) := by decide +kernel
theorem pa_0_35 : pz_at 0 35 = some (35, .aload_n 0, 1, 0, 0, 0) := by decide +kernel
theorem pa_0_36 : pz_at 0 36 = some (36, .iconst 0, 1, 0, 0, 0) := by decide +kernel
theorem pa_0_37 : pz_at 0 37 = some (37, .putfield 31, 3, 0, 7, 310) := by decide +kernel
theorem pa_0_40 : pz_at 0 40 = some (40, .return_, 1, 0, 0, 0) := by decide +kernel
theorem pa_0_5 : pz_at 0 5 = some (5, .aload_n 0, 1, 0, 0, 0) := by decide +kernel
theorem pa_0_6 : pz_at 0 6 = some (6, .iconst 0, 1, 0, 0, 0) := by decide +kernel
theorem pa_0_7 : pz_at 0 7 = some (7, .putfield 13, 3, 0, 1, 297) := by decide +kernel
theorem pf_40_0_0 : pz_gf 40 0 0 = some none := by decide +kernel
theorem pf_40_0_1 : pz_gf 40 0 1 = some none := by decide +kernel
theorem pf_40_0_2 : pz_gf 40 0 2 = some none := by decide +kernel
theorem pf_40_0_3 : pz_gf 40 0 3 = some none := by decide +kernel
theorem pf_40_0_4 : pz_gf 40 0 4 = some none := by decide +kernel
theorem pf_40_0_5 : pz_gf 40 0 5 = some none := by decide +kernel
theorem pf_40_0_6 : pz_gf 40 0 6 = some none := by decide +kernel
theorem pf_40_0_7 : pz_gf 40 0 7 = some none := by decide +kernel
theorem pr_0 : (pz_mi 0).2.2 = none := by decide +kernel
theorem pa_1_0 : pz_at 1 0 = some (0, .aload_n 0, 1, 0, 0, 0) := by decide +kernel
theorem pa_1_1 : pz_at 1 1 = some (1, .aload_n 1, 1, 0, 0, 0) := by decide +kernel
theorem pa_1_10 : pz_at 1 10 = some (10, .getfield 13, 3, 0, 1, 297) := by decide +kernel
theorem pa_1_13 : pz_at 1 13 = some (13, .putfield 13, 3, 0, 1, 297) := by decide +kernel
theorem pa_1_16 : pz_at 1 16 = some (16, .aload_n 0, 1, 0, 0, 0) := by decide +kernel
theorem pa_1_17 : pz_at 1 17 = some (17, .aload_n 1, 1, 0, 0, 0) := by decide +kernel
theorem pa_1_18 : pz_at 1 18 = some (18, .getfield 16, 3, 0, 2, 299) := by decide +kernel
theorem pa_1_2 : pz_at 1 2 = some (2, .getfield 7, 3, 0, 0, 295) := by decide +kernel
theorem pa_1_21 : pz_at 1 21 = some (21, .putfield 16, 3, 0, 2, 299) := by decide +kernel
theorem pa_1_24 : pz_at 1 24 = some (24, .aload_n 0, 1, 0, 0, 0) := by decide +kernel
theorem pa_1_25 : pz_at 1 25 = some (25, .aload_n 1, 1, 0, 0, 0) := by decide +kernel
theorem pa_1_26 : pz_at 1 26 = some (26, .getfield 19, 3, 0, 3, 301) := by decide +kernel
theorem pa_1_29 : pz_at 1 29 = some (29, .putfield 19, 3, 0, 3, 301) := by decide +kernel
theorem pa_1_32 : pz_at 1 32 = some (32, .aload_n 0, 1, 0, 0, 0) := by decide +kernel
theorem pa_1_33 : pz_at 1 33 = some (33, .aload_n 1, 1, 0, 0, 0) := by decide +kernel
theorem pa_1_34 : pz_at 1 34 = some (34, .getfield 22, 3, 0, 4, 303) := by decide +kernel
theorem pa_1_37 : pz_at 1 37 = some (37, .putfield 22, 3, 0, 4, 303) := by decide +kernel
theorem pa_1_40 : pz_at 1 40 = some (40, .aload_n 0, 1, 0, 0, 0) := by decide +kernel
theorem pa_1_41 : pz_at 1 41 = some (41, .aload_n 1, 1, 0, 0, 0) := by decide +kernel
theorem pa_1_42 : pz_at 1 42 = some (42, .getfield 25, 3, 0, 5, 305) := by decide +kernel
theorem pa_1_45 : pz_at 1 45 = some (45, .putfield 25, 3, 0, 5, 305) := by decide +kernel
theorem pa_1_48 : pz_at 1 48 = some (48, .aload_n 0, 1, 0, 0, 0) := by decide +kernel
theorem pa_1_49 : pz_at 1 49 = some (49, .aload_n 1, 1, 0, 0, 0) := by decide +kernel
theorem pa_1_5 : pz_at 1 5 = some (5, .putfield 7, 3, 0, 0, 295) := by decide +kernel
theorem pa_1_50 : pz_at 1 50 = some (50, .getfield 28, 3, 0, 6, 308) := by decide +kernel
theorem pa_1_53 : pz_at 1 53 = some (53, .putfield 28, 3, 0, 6, 308) := by decide +kernel
theorem pa_1_56 : pz_at 1 56 = some (56, .aload_n 0, 1, 0, 0, 0) := by decide +kernel
theorem pa_1_57 : pz_at 1 57 = some (57, .aload_n 1, 1, 0, 0, 0) := by decide +kernel
theorem pa_1_58 : pz_at 1 58 = some (58, .getfield 31, 3, 0, 7, 310) := by decide +kernel
theorem pa_1_61 : pz_at 1 61 = some (61, .putfield 31, 3, 0, 7, 310) := by decide +kernel
theorem pa_1_64 : pz_at 1 64 = some (64, .return_, 1, 0, 0, 0) := by decide +kernel
theorem pa_1_8 : pz_at 1 8 = some (8, .aload_n 0, 1, 0, 0, 0) := by decide +kernel
theorem pa_1_9 : pz_at 1 9 = some (9, .aload_n 1, 1, 0, 0, 0) := by decide +kernel
theorem pf_52_0_0 : pz_gf 52 0 0 = some none := by decide +kernel
theorem pf_52_0_1 : pz_gf 52 0 1 = some none := by decide +kernel
theorem pf_52_0_2 : pz_gf 52 0 2 = some none := by decide +kernel
theorem pf_52_0_3 : pz_gf 52 0 3 = some none := by decide +kernel
theorem pf_52_0_4 : pz_gf 52 0 4 = some none := by decide +kernel
theorem pf_52_0_5 : pz_gf 52 0 5 = some none := by decide +kernel
theorem pf_52_0_6 : pz_gf 52 0 6 = some none := by decide +kernel
theorem pf_52_0_7 : pz_gf 52 0 7 = some none := by decide +kernel
theorem pr_1 : (pz_mi 1).2.2 = none := by decide +kernel
theorem pa_2_0 : pz_at 2 0 = some (0, .iload_n 1, 1, 0, 0, 0) := by decide +kernel
theorem pa_2_1 : pz_at 2 1 = some (1, .tableswitch 60 0 4 #[35, 40, 45, 50, 55], 35, 0, 0, 0) := by decide +kernel
theorem pa_2_36 : pz_at 2 36 = some (36, .aload_n 0, 1, 0, 0, 0) := by decide +kernel
theorem pa_2_37 : pz_at 2 37 = some (37, .getfield 7, 3, 0, 0, 295) := by decide +kernel
theorem pa_2_40 : pz_at 2 40 = some (40, .ireturn, 1, 0, 0, 0) := by decide +kernel
theorem pa_2_41 : pz_at 2 41 = some (41, .aload_n 0, 1, 0, 0, 0) := by decide +kernel
theorem pa_2_42 : pz_at 2 42 = some (42, .getfield 13, 3, 0, 1, 297) := by decide +kernel
theorem pa_2_45 : pz_at 2 45 = some (45, .ireturn, 1, 0, 0, 0) := by decide +kernel
theorem pa_2_46 : pz_at 2 46 = some (46, .aload_n 0, 1, 0, 0, 0) := by decide +kernel
theorem pa_2_47 : pz_at 2 47 = some (47, .getfield 16, 3, 0, 2, 299) := by decide +kernel
theorem pa_2_50 : pz_at 2 50 = some (50, .ireturn, 1, 0, 0, 0) := by decide +kernel
theorem pa_2_51 : pz_at 2 51 = some (51, .aload_n 0, 1, 0, 0, 0) := by decide +kernel
theorem pa_2_52 : pz_at 2 52 = some (52, .getfield 19, 3, 0, 3, 301) := by decide +kernel
theorem pa_2_55 : pz_at 2 55 = some (55, .ireturn, 1, 0, 0, 0) := by decide +kernel
theorem pa_2_56 : pz_at 2 56 = some (56, .aload_n 0, 1, 0, 0, 0) := by decide +kernel
theorem pa_2_57 : pz_at 2 57 = some (57, .getfield 22, 3, 0, 4, 303) := by decide +kernel
theorem pa_2_60 : pz_at 2 60 = some (60, .ireturn, 1, 0, 0, 0) := by decide +kernel
theorem pa_2_61 : pz_at 2 61 = some (61, .aload_n 0, 1, 0, 0, 0) := by decide +kernel
theorem pa_2_62 : pz_at 2 62 = some (62, .getfield 25, 3, 0, 5, 305) := by decide +kernel
theorem pa_2_65 : pz_at 2 65 = some (65, .ireturn, 1, 0, 0, 0) := by decide +kernel
theorem pr_2 : (pz_mi 2).2.2 = (some .int) := by decide +kernel
theorem pa_3_0 : pz_at 3 0 = some (0, .lload_n 0, 1, 0, 0, 0) := by decide +kernel
theorem pa_3_1 : pz_at 3 1 = some (1, .iload_n 2, 1, 0, 0, 0) := by decide +kernel
theorem pa_3_10 : pz_at 3 10 = some (10, .ireturn, 1, 0, 0, 0) := by decide +kernel
theorem pa_3_2 : pz_at 3 2 = some (2, .bipush 6, 2, 0, 0, 0) := by decide +kernel
theorem pa_3_4 : pz_at 3 4 = some (4, .imul, 1, 0, 0, 0) := by decide +kernel
theorem pa_3_5 : pz_at 3 5 = some (5, .lushr, 1, 0, 0, 0) := by decide +kernel
theorem pa_3_6 : pz_at 3 6 = some (6, .l2i, 1, 0, 0, 0) := by decide +kernel
theorem pa_3_7 : pz_at 3 7 = some (7, .bipush 63, 2, 0, 0, 0) := by decide +kernel
theorem pa_3_9 : pz_at 3 9 = some (9, .iand, 1, 0, 0, 0) := by decide +kernel
theorem pr_3 : (pz_mi 3).2.2 = (some .int) := by decide +kernel
theorem pa_4_0 : pz_at 4 0 = some (0, .iload_n 2, 1, 0, 0, 0) := by decide +kernel
theorem pa_4_1 : pz_at 4 1 = some (1, .bipush 6, 2, 0, 0, 0) := by decide +kernel
theorem pa_4_10 : pz_at 4 10 = some (10, .iload 4, 2, 0, 0, 0) := by decide +kernel
theorem pa_4_12 : pz_at 4 12 = some (12, .lshl, 1, 0, 0, 0) := by decide +kernel
theorem pa_4_13 : pz_at 4 13 = some (13, .ldc2_w 41, 3, 18446744073709551615, 0, 626) := by decide +kernel
theorem pa_4_16 : pz_at 4 16 = some (16, .lxor, 1, 0, 0, 0) := by decide +kernel
theorem pa_4_17 : pz_at 4 17 = some (17, .land, 1, 0, 0, 0) := by decide +kernel
theorem pa_4_18 : pz_at 4 18 = some (18, .iload_n 3, 1, 0, 0, 0) := by decide +kernel
theorem pa_4_19 : pz_at 4 19 = some (19, .i2l, 1, 0, 0, 0) := by decide +kernel
theorem pa_4_20 : pz_at 4 20 = some (20, .iload 4, 2, 0, 0, 0) := by decide +kernel
theorem pa_4_22 : pz_at 4 22 = some (22, .lshl, 1, 0, 0, 0) := by decide +kernel
theorem pa_4_23 : pz_at 4 23 = some (23, .lor, 1, 0, 0, 0) := by decide +kernel
theorem pa_4_24 : pz_at 4 24 = some (24, .lreturn, 1, 0, 0, 0) := by decide +kernel
theorem pa_4_3 : pz_at 4 3 = some (3, .imul, 1, 0, 0, 0) := by decide +kernel
theorem pa_4_4 : pz_at 4 4 = some (4, .istore 4, 2, 0, 0, 0) := by decide +kernel
theorem pa_4_6 : pz_at 4 6 = some (6, .lload_n 0, 1, 0, 0, 0) := by decide +kernel
theorem pa_4_7 : pz_at 4 7 = some (7, .ldc2_w 39, 3, 63, 0, 625) := by decide +kernel
theorem pr_4 : (pz_mi 4).2.2 = (some .long) := by decide +kernel
theorem pa_5_0 : pz_at 5 0 = some (0, .aload_n 0, 1, 0, 0, 0) := by decide +kernel
theorem pa_5_1 : pz_at 5 1 = some (1, .getfield 19, 3, 1, 3, 253) := by decide +kernel
theorem pa_5_11 : pz_at 5 11 = some (11, .aload_n 0, 1, 0, 0, 0) := by decide +kernel
theorem pa_5_12 : pz_at 5 12 = some (12, .getfield 28, 3, 1, 6, 259) := by decide +kernel
theorem pa_5_15 : pz_at 5 15 = some (15, .iload_n 1, 1, 0, 0, 0) := by decide +kernel
theorem pa_5_16 : pz_at 5 16 = some (16, .baload, 1, 0, 0, 0) := by decide +kernel
theorem pa_5_17 : pz_at 5 17 = some (17, .ifCond .ne 7, 3, 24, 0, 0) := by decide +kernel
theorem pa_5_20 : pz_at 5 20 = some (20, .iconst 1, 1, 0, 0, 0) := by decide +kernel
theorem pa_5_21 : pz_at 5 21 = some (21, .goto 4, 3, 25, 0, 0) := by decide +kernel
theorem pa_5_24 : pz_at 5 24 = some (24, .iconst 0, 1, 0, 0, 0) := by decide +kernel
theorem pa_5_25 : pz_at 5 25 = some (25, .ireturn, 1, 0, 0, 0) := by decide +kernel
theorem pa_5_4 : pz_at 5 4 = some (4, .iload_n 1, 1, 0, 0, 0) := by decide +kernel
theorem pa_5_5 : pz_at 5 5 = some (5, .invokestatic 43, 3, 9, 2, 694) := by decide +kernel
theorem pa_5_8 : pz_at 5 8 = some (8, .ifCond .ne 16, 3, 24, 0, 0) := by decide +kernel
theorem pf_31_1_3 : pz_gf 31 1 3 = some (some 34) := by decide +kernel
theorem pf_31_1_6 : pz_gf 31 1 6 = some (some 37) := by decide +kernel
theorem pg_37 : pz_ga 37 = some (.boolean, 10) := by decide +kernel
theorem pm_9 : pz_mi 9 = (1, 3, (some .int)) := by decide +kernel
theorem pr_5 : (pz_mi 5).2.2 = (some .boolean) := by decide +kernel
theorem pa_6_0 : pz_at 6 0 = some (0, .aload_n 0, 1, 0, 0, 0) := by decide +kernel
theorem pa_6_1 : pz_at 6 1 = some (1, .getfield 15, 3, 1, 2, 250) := by decide +kernel
theorem pa_6_12 : pz_at 6 12 = some (12, .iload_n 1, 1, 0, 0, 0) := by decide +kernel
theorem pa_6_13 : pz_at 6 13 = some (13, .invokestatic 43, 3, 9, 2, 694) := by decide +kernel
theorem pa_6_16 : pz_at 6 16 = some (16, .ior, 1, 0, 0, 0) := by decide +kernel
theorem pa_6_17 : pz_at 6 17 = some (17, .istore_n 3, 1, 0, 0, 0) := by decide +kernel
theorem pa_6_18 : pz_at 6 18 = some (18, .aload_n 0, 1, 0, 0, 0) := by decide +kernel
theorem pa_6_19 : pz_at 6 19 = some (19, .getfield 15, 3, 1, 2, 250) := by decide +kernel
theorem pa_6_22 : pz_at 6 22 = some (22, .iload_n 2, 1, 0, 0, 0) := by decide +kernel
theorem pa_6_23 : pz_at 6 23 = some (23, .invokestatic 43, 3, 9, 2, 694) := by decide +kernel
theorem pa_6_26 : pz_at 6 26 = some (26, .aload_n 0, 1, 0, 0, 0) := by decide +kernel
theorem pa_6_27 : pz_at 6 27 = some (27, .getfield 19, 3, 1, 3, 253) := by decide +kernel
theorem pa_6_30 : pz_at 6 30 = some (30, .iload_n 2, 1, 0, 0, 0) := by decide +kernel
theorem pa_6_31 : pz_at 6 31 = some (31, .invokestatic 43, 3, 9, 2, 694) := by decide +kernel
theorem pa_6_34 : pz_at 6 34 = some (34, .ior, 1, 0, 0, 0) := by decide +kernel
theorem pa_6_35 : pz_at 6 35 = some (35, .istore 4, 2, 0, 0, 0) := by decide +kernel
theorem pa_6_37 : pz_at 6 37 = some (37, .aload_n 0, 1, 0, 0, 0) := by decide +kernel
theorem pa_6_38 : pz_at 6 38 = some (38, .getfield 19, 3, 1, 3, 253) := by decide +kernel
theorem pa_6_4 : pz_at 6 4 = some (4, .iload_n 1, 1, 0, 0, 0) := by decide +kernel
theorem pa_6_41 : pz_at 6 41 = some (41, .iload_n 1, 1, 0, 0, 0) := by decide +kernel
theorem pa_6_42 : pz_at 6 42 = some (42, .invokestatic 43, 3, 9, 2, 694) := by decide +kernel
theorem pa_6_45 : pz_at 6 45 = some (45, .iload 4, 2, 0, 0, 0) := by decide +kernel
theorem pa_6_47 : pz_at 6 47 = some (47, .iand, 1, 0, 0, 0) := by decide +kernel
theorem pa_6_48 : pz_at 6 48 = some (48, .ifCond .ne 20, 3, 68, 0, 0) := by decide +kernel
theorem pa_6_5 : pz_at 6 5 = some (5, .invokestatic 43, 3, 9, 2, 694) := by decide +kernel
theorem pa_6_51 : pz_at 6 51 = some (51, .aload_n 0, 1, 0, 0, 0) := by decide +kernel
theorem pa_6_52 : pz_at 6 52 = some (52, .getfield 19, 3, 1, 3, 253) := by decide +kernel
theorem pa_6_55 : pz_at 6 55 = some (55, .iload_n 2, 1, 0, 0, 0) := by decide +kernel
theorem pa_6_56 : pz_at 6 56 = some (56, .invokestatic 43, 3, 9, 2, 694) := by decide +kernel
theorem pa_6_59 : pz_at 6 59 = some (59, .iload_n 3, 1, 0, 0, 0) := by decide +kernel
theorem pa_6_60 : pz_at 6 60 = some (60, .iand, 1, 0, 0, 0) := by decide +kernel
theorem pa_6_61 : pz_at 6 61 = some (61, .ifCond .ne 7, 3, 68, 0, 0) := by decide +kernel
theorem pa_6_64 : pz_at 6 64 = some (64, .iconst 1, 1, 0, 0, 0) := by decide +kernel
theorem pa_6_65 : pz_at 6 65 = some (65, .goto 4, 3, 69, 0, 0) := by decide +kernel
theorem pa_6_68 : pz_at 6 68 = some (68, .iconst 0, 1, 0, 0, 0) := by decide +kernel
theorem pa_6_69 : pz_at 6 69 = some (69, .istore 5, 2, 0, 0, 0) := by decide +kernel
theorem pa_6_71 : pz_at 6 71 = some (71, .iload 5, 2, 0, 0, 0) := by decide +kernel
theorem pa_6_73 : pz_at 6 73 = some (73, .ifCond .eq 25, 3, 98, 0, 0) := by decide +kernel
theorem pa_6_76 : pz_at 6 76 = some (76, .aload_n 0, 1, 0, 0, 0) := by decide +kernel
theorem pa_6_77 : pz_at 6 77 = some (77, .getfield 28, 3, 1, 6, 259) := by decide +kernel
theorem pa_6_8 : pz_at 6 8 = some (8, .aload_n 0, 1, 0, 0, 0) := by decide +kernel
theorem pa_6_80 : pz_at 6 80 = some (80, .iload_n 1, 1, 0, 0, 0) := by decide +kernel
theorem pa_6_81 : pz_at 6 81 = some (81, .baload, 1, 0, 0, 0) := by decide +kernel
theorem pa_6_82 : pz_at 6 82 = some (82, .ifCond .eq 12, 3, 94, 0, 0) := by decide +kernel
theorem pa_6_85 : pz_at 6 85 = some (85, .aload_n 0, 1, 0, 0, 0) := by decide +kernel
theorem pa_6_86 : pz_at 6 86 = some (86, .getfield 28, 3, 1, 6, 259) := by decide +kernel
theorem pa_6_89 : pz_at 6 89 = some (89, .iload_n 2, 1, 0, 0, 0) := by decide +kernel
theorem pa_6_9 : pz_at 6 9 = some (9, .getfield 19, 3, 1, 3, 253) := by decide +kernel
theorem pa_6_90 : pz_at 6 90 = some (90, .baload, 1, 0, 0, 0) := by decide +kernel
theorem pa_6_91 : pz_at 6 91 = some (91, .ifCond .ne 7, 3, 98, 0, 0) := by decide +kernel
theorem pa_6_94 : pz_at 6 94 = some (94, .iconst 1, 1, 0, 0, 0) := by decide +kernel
theorem pa_6_95 : pz_at 6 95 = some (95, .goto 4, 3, 99, 0, 0) := by decide +kernel
theorem pa_6_98 : pz_at 6 98 = some (98, .iconst 0, 1, 0, 0, 0) := by decide +kernel
theorem pa_6_99 : pz_at 6 99 = some (99, .ireturn, 1, 0, 0, 0) := by decide +kernel
theorem pf_31_1_2 : pz_gf 31 1 2 = some (some 33) := by decide +kernel
theorem pr_6 : (pz_mi 6).2.2 = (some .boolean) := by decide +kernel
theorem pa_7_0 : pz_at 7 0 = some (0, .iload_n 2, 1, 0, 0, 0) := by decide +kernel
theorem pa_7_1 : pz_at 7 1 = some (1, .tableswitch 118 0 6 #[43, 52, 61, 76, 83, 90, 104], 43, 0, 0, 0) := by decide +kernel
theorem pa_7_100 : pz_at 7 100 = some (100, .goto 4, 3, 104, 0, 0) := by decide +kernel
theorem pa_7_103 : pz_at 7 103 = some (103, .iconst 0, 1, 0, 0, 0) := by decide +kernel
theorem pa_7_104 : pz_at 7 104 = some (104, .ireturn, 1, 0, 0, 0) := by decide +kernel
theorem pa_7_105 : pz_at 7 105 = some (105, .aload_n 0, 1, 0, 0, 0) := by decide +kernel
theorem pa_7_106 : pz_at 7 106 = some (106, .iload_n 1, 1, 0, 0, 0) := by decide +kernel
theorem pa_7_107 : pz_at 7 107 = some (107, .invokevirtual 51, 3, 8, 1, 710) := by decide +kernel
theorem pa_7_110 : pz_at 7 110 = some (110, .ifCond .eq 7, 3, 117, 0, 0) := by decide +kernel
theorem pa_7_113 : pz_at 7 113 = some (113, .iconst 1, 1, 0, 0, 0) := by decide +kernel
theorem pa_7_114 : pz_at 7 114 = some (114, .goto 4, 3, 118, 0, 0) := by decide +kernel
theorem pa_7_117 : pz_at 7 117 = some (117, .iconst 0, 1, 0, 0, 0) := by decide +kernel
theorem pa_7_118 : pz_at 7 118 = some (118, .ireturn, 1, 0, 0, 0) := by decide +kernel
theorem pa_7_119 : pz_at 7 119 = some (119, .aload_n 0, 1, 0, 0, 0) := by decide +kernel
theorem pa_7_120 : pz_at 7 120 = some (120, .getfield 32, 3, 1, 7, 261) := by decide +kernel
theorem pa_7_123 : pz_at 7 123 = some (123, .iload_n 1, 1, 0, 0, 0) := by decide +kernel
theorem pa_7_124 : pz_at 7 124 = some (124, .baload, 1, 0, 0, 0) := by decide +kernel
theorem pa_7_125 : pz_at 7 125 = some (125, .ifCond .eq 7, 3, 132, 0, 0) := by decide +kernel
theorem pa_7_128 : pz_at 7 128 = some (128, .iconst 1, 1, 0, 0, 0) := by decide +kernel
theorem pa_7_129 : pz_at 7 129 = some (129, .goto 4, 3, 133, 0, 0) := by decide +kernel
theorem pa_7_132 : pz_at 7 132 = some (132, .iconst 0, 1, 0, 0, 0) := by decide +kernel
theorem pa_7_133 : pz_at 7 133 = some (133, .ireturn, 1, 0, 0, 0) := by decide +kernel
theorem pa_7_44 : pz_at 7 44 = some (44, .aload_n 0, 1, 0, 0, 0) := by decide +kernel
theorem pa_7_45 : pz_at 7 45 = some (45, .getfield 15, 3, 1, 2, 250) := by decide +kernel
theorem pa_7_48 : pz_at 7 48 = some (48, .iload_n 1, 1, 0, 0, 0) := by decide +kernel
theorem pa_7_49 : pz_at 7 49 = some (49, .invokestatic 43, 3, 9, 2, 694) := by decide +kernel
theorem pa_7_52 : pz_at 7 52 = some (52, .ireturn, 1, 0, 0, 0) := by decide +kernel
theorem pa_7_53 : pz_at 7 53 = some (53, .aload_n 0, 1, 0, 0, 0) := by decide +kernel
theorem pa_7_54 : pz_at 7 54 = some (54, .getfield 19, 3, 1, 3, 253) := by decide +kernel
theorem pa_7_57 : pz_at 7 57 = some (57, .iload_n 1, 1, 0, 0, 0) := by decide +kernel
theorem pa_7_58 : pz_at 7 58 = some (58, .invokestatic 43, 3, 9, 2, 694) := by decide +kernel
theorem pa_7_61 : pz_at 7 61 = some (61, .ireturn, 1, 0, 0, 0) := by decide +kernel
theorem pa_7_62 : pz_at 7 62 = some (62, .aload_n 0, 1, 0, 0, 0) := by decide +kernel
theorem pa_7_63 : pz_at 7 63 = some (63, .getfield 28, 3, 1, 6, 259) := by decide +kernel
theorem pa_7_66 : pz_at 7 66 = some (66, .iload_n 1, 1, 0, 0, 0) := by decide +kernel
theorem pa_7_67 : pz_at 7 67 = some (67, .baload, 1, 0, 0, 0) := by decide +kernel
theorem pa_7_68 : pz_at 7 68 = some (68, .ifCond .eq 7, 3, 75, 0, 0) := by decide +kernel
theorem pa_7_71 : pz_at 7 71 = some (71, .iconst 1, 1, 0, 0, 0) := by decide +kernel
theorem pa_7_72 : pz_at 7 72 = some (72, .goto 4, 3, 76, 0, 0) := by decide +kernel
theorem pa_7_75 : pz_at 7 75 = some (75, .iconst 0, 1, 0, 0, 0) := by decide +kernel
theorem pa_7_76 : pz_at 7 76 = some (76, .ireturn, 1, 0, 0, 0) := by decide +kernel
theorem pa_7_77 : pz_at 7 77 = some (77, .aload_n 0, 1, 0, 0, 0) := by decide +kernel
theorem pa_7_78 : pz_at 7 78 = some (78, .getfield 22, 3, 1, 4, 256) := by decide +kernel
theorem pa_7_81 : pz_at 7 81 = some (81, .iload_n 1, 1, 0, 0, 0) := by decide +kernel
theorem pa_7_82 : pz_at 7 82 = some (82, .iaload, 1, 0, 0, 0) := by decide +kernel
theorem pa_7_83 : pz_at 7 83 = some (83, .ireturn, 1, 0, 0, 0) := by decide +kernel
theorem pa_7_84 : pz_at 7 84 = some (84, .aload_n 0, 1, 0, 0, 0) := by decide +kernel
theorem pa_7_85 : pz_at 7 85 = some (85, .getfield 25, 3, 1, 5, 258) := by decide +kernel
theorem pa_7_88 : pz_at 7 88 = some (88, .iload_n 1, 1, 0, 0, 0) := by decide +kernel
theorem pa_7_89 : pz_at 7 89 = some (89, .iaload, 1, 0, 0, 0) := by decide +kernel
theorem pa_7_90 : pz_at 7 90 = some (90, .ireturn, 1, 0, 0, 0) := by decide +kernel
theorem pa_7_91 : pz_at 7 91 = some (91, .aload_n 0, 1, 0, 0, 0) := by decide +kernel
theorem pa_7_92 : pz_at 7 92 = some (92, .iload_n 1, 1, 0, 0, 0) := by decide +kernel
theorem pa_7_93 : pz_at 7 93 = some (93, .invokevirtual 47, 3, 5, 1, 709) := by decide +kernel
theorem pa_7_96 : pz_at 7 96 = some (96, .ifCond .eq 7, 3, 103, 0, 0) := by decide +kernel
theorem pa_7_99 : pz_at 7 99 = some (99, .iconst 1, 1, 0, 0, 0) := by decide +kernel
theorem pc_31 : pz_gc 31 = some 1 := by decide +kernel
theorem pf_31_1_4 : pz_gf 31 1 4 = some (some 35) := by decide +kernel
theorem pf_31_1_5 : pz_gf 31 1 5 = some (some 36) := by decide +kernel
theorem pf_31_1_7 : pz_gf 31 1 7 = some (some 38) := by decide +kernel
theorem pg_35 : pz_ga 35 = some (.int, 10) := by decide +kernel
theorem pg_36 : pz_ga 36 = some (.int, 10) := by decide +kernel
theorem pg_38 : pz_ga 38 = some (.boolean, 10) := by decide +kernel
theorem pm_5 : pz_mi 5 = (1, 2, (some .boolean)) := by decide +kernel
theorem pm_8 : pz_mi 8 = (1, 2, (some .boolean)) := by decide +kernel
theorem pr_7 : (pz_mi 7).2.2 = (some .int) := by decide +kernel
theorem pa_8_0 : pz_at 8 0 = some (0, .aload_n 0, 1, 0, 0, 0) := by decide +kernel
theorem pa_8_1 : pz_at 8 1 = some (1, .iload_n 1, 1, 0, 0, 0) := by decide +kernel
theorem pa_8_12 : pz_at 8 12 = some (12, .iload_n 1, 1, 0, 0, 0) := by decide +kernel
theorem pa_8_13 : pz_at 8 13 = some (13, .invokestatic 43, 3, 9, 2, 694) := by decide +kernel
theorem pa_8_16 : pz_at 8 16 = some (16, .ifCond .ne 20, 3, 36, 0, 0) := by decide +kernel
theorem pa_8_19 : pz_at 8 19 = some (19, .aload_n 0, 1, 0, 0, 0) := by decide +kernel
theorem pa_8_2 : pz_at 8 2 = some (2, .invokevirtual 47, 3, 5, 1, 709) := by decide +kernel
theorem pa_8_20 : pz_at 8 20 = some (20, .getfield 35, 3, 1, 0, 247) := by decide +kernel
theorem pa_8_23 : pz_at 8 23 = some (23, .getfield 54, 3, 4, 10, 143) := by decide +kernel
theorem pa_8_26 : pz_at 8 26 = some (26, .iload_n 1, 1, 0, 0, 0) := by decide +kernel
theorem pa_8_27 : pz_at 8 27 = some (27, .iaload, 1, 0, 0, 0) := by decide +kernel
theorem pa_8_28 : pz_at 8 28 = some (28, .iconst 2, 1, 0, 0, 0) := by decide +kernel
theorem pa_8_29 : pz_at 8 29 = some (29, .if_icmp .eq 7, 3, 36, 0, 0) := by decide +kernel
theorem pa_8_32 : pz_at 8 32 = some (32, .iconst 1, 1, 0, 0, 0) := by decide +kernel
theorem pa_8_33 : pz_at 8 33 = some (33, .goto 4, 3, 37, 0, 0) := by decide +kernel
theorem pa_8_36 : pz_at 8 36 = some (36, .iconst 0, 1, 0, 0, 0) := by decide +kernel
theorem pa_8_37 : pz_at 8 37 = some (37, .ireturn, 1, 0, 0, 0) := by decide +kernel
theorem pa_8_5 : pz_at 8 5 = some (5, .ifCond .eq 31, 3, 36, 0, 0) := by decide +kernel
theorem pa_8_8 : pz_at 8 8 = some (8, .aload_n 0, 1, 0, 0, 0) := by decide +kernel
theorem pa_8_9 : pz_at 8 9 = some (9, .getfield 15, 3, 1, 2, 250) := by decide +kernel
theorem pf_1_4_10 : pz_gf 1 4 10 = some (some 8) := by decide +kernel
theorem pf_31_1_0 : pz_gf 31 1 0 = some (some 1) := by decide +kernel
theorem pg_8 : pz_ga 8 = some (.int, 10) := by decide +kernel
theorem pr_8 : (pz_mi 8).2.2 = (some .boolean) := by decide +kernel
theorem pa_9_0 : pz_at 9 0 = some (0, .iload_n 1, 1, 0, 0, 0) := by decide +kernel
theorem pa_9_1 : pz_at 9 1 = some (1, .iconst 4, 1, 0, 0, 0) := by decide +kernel
theorem pa_9_10 : pz_at 9 10 = some (10, .iadd, 1, 0, 0, 0) := by decide +kernel
theorem pa_9_11 : pz_at 9 11 = some (11, .iaload, 1, 0, 0, 0) := by decide +kernel
theorem pa_9_12 : pz_at 9 12 = some (12, .ior, 1, 0, 0, 0) := by decide +kernel
theorem pa_9_13 : pz_at 9 13 = some (13, .aload_n 0, 1, 0, 0, 0) := by decide +kernel
theorem pa_9_14 : pz_at 9 14 = some (14, .iload_n 2, 1, 0, 0, 0) := by decide +kernel
theorem pa_9_15 : pz_at 9 15 = some (15, .iconst 2, 1, 0, 0, 0) := by decide +kernel
theorem pa_9_16 : pz_at 9 16 = some (16, .iadd, 1, 0, 0, 0) := by decide +kernel
theorem pa_9_17 : pz_at 9 17 = some (17, .iaload, 1, 0, 0, 0) := by decide +kernel
theorem pa_9_18 : pz_at 9 18 = some (18, .ior, 1, 0, 0, 0) := by decide +kernel
theorem pa_9_19 : pz_at 9 19 = some (19, .aload_n 0, 1, 0, 0, 0) := by decide +kernel
theorem pa_9_2 : pz_at 9 2 = some (2, .imul, 1, 0, 0, 0) := by decide +kernel
theorem pa_9_20 : pz_at 9 20 = some (20, .iload_n 2, 1, 0, 0, 0) := by decide +kernel
theorem pa_9_21 : pz_at 9 21 = some (21, .iconst 3, 1, 0, 0, 0) := by decide +kernel
theorem pa_9_22 : pz_at 9 22 = some (22, .iadd, 1, 0, 0, 0) := by decide +kernel
theorem pa_9_23 : pz_at 9 23 = some (23, .iaload, 1, 0, 0, 0) := by decide +kernel
theorem pa_9_24 : pz_at 9 24 = some (24, .ior, 1, 0, 0, 0) := by decide +kernel
theorem pa_9_25 : pz_at 9 25 = some (25, .ireturn, 1, 0, 0, 0) := by decide +kernel
theorem pa_9_3 : pz_at 9 3 = some (3, .istore_n 2, 1, 0, 0, 0) := by decide +kernel
theorem pa_9_4 : pz_at 9 4 = some (4, .aload_n 0, 1, 0, 0, 0) := by decide +kernel
theorem pa_9_5 : pz_at 9 5 = some (5, .iload_n 2, 1, 0, 0, 0) := by decide +kernel
theorem pa_9_6 : pz_at 9 6 = some (6, .iaload, 1, 0, 0, 0) := by decide +kernel
theorem pa_9_7 : pz_at 9 7 = some (7, .aload_n 0, 1, 0, 0, 0) := by decide +kernel
theorem pa_9_8 : pz_at 9 8 = some (8, .iload_n 2, 1, 0, 0, 0) := by decide +kernel
theorem pa_9_9 : pz_at 9 9 = some (9, .iconst 1, 1, 0, 0, 0) := by decide +kernel
theorem pg_33 : pz_ga 33 = some (.int, 40) := by decide +kernel
theorem pr_9 : (pz_mi 9).2.2 = (some .int) := by decide +kernel
theorem pg_34 : pz_ga 34 = some (.int, 40) := by decide +kernel
theorem pa_10_0 : pz_at 10 0 = some (0, .aload_n 0, 1, 0, 0, 0) := by decide +kernel
theorem pa_10_1 : pz_at 10 1 = some (1, .invokevirtual 57, 3, 11, 0, 613) := by decide +kernel
theorem pa_10_10 : pz_at 10 10 = some (10, .istore_n 1, 1, 0, 0, 0) := by decide +kernel
theorem pa_10_11 : pz_at 10 11 = some (11, .iload_n 1, 1, 0, 0, 0) := by decide +kernel
theorem pa_10_12 : pz_at 10 12 = some (12, .ldc 64, 2, 100000, 0, 617) := by decide +kernel
theorem pa_10_14 : pz_at 10 14 = some (14, .if_icmp .ge 78, 3, 92, 0, 0) := by decide +kernel
theorem pa_10_17 : pz_at 10 17 = some (17, .aload_n 0, 1, 0, 0, 0) := by decide +kernel
theorem pa_10_18 : pz_at 10 18 = some (18, .getfield 60, 3, 1, 8, 262) := by decide +kernel
theorem pa_10_21 : pz_at 10 21 = some (21, .ifCond .eq 71, 3, 92, 0, 0) := by decide +kernel
theorem pa_10_24 : pz_at 10 24 = some (24, .aload_n 0, 1, 0, 0, 0) := by decide +kernel
theorem pa_10_25 : pz_at 10 25 = some (25, .iconst 0, 1, 0, 0, 0) := by decide +kernel
theorem pa_10_26 : pz_at 10 26 = some (26, .putfield 60, 3, 1, 8, 262) := by decide +kernel
theorem pa_10_29 : pz_at 10 29 = some (29, .iconst 0, 1, 0, 0, 0) := by decide +kernel
theorem pa_10_30 : pz_at 10 30 = some (30, .istore_n 2, 1, 0, 0, 0) := by decide +kernel
theorem pa_10_31 : pz_at 10 31 = some (31, .iload_n 2, 1, 0, 0, 0) := by decide +kernel
theorem pa_10_32 : pz_at 10 32 = some (32, .aload_n 0, 1, 0, 0, 0) := by decide +kernel
theorem pa_10_33 : pz_at 10 33 = some (33, .getfield 35, 3, 1, 0, 247) := by decide +kernel
theorem pa_10_36 : pz_at 10 36 = some (36, .getfield 65, 3, 4, 3, 126) := by decide +kernel
theorem pa_10_39 : pz_at 10 39 = some (39, .if_icmp .ge 47, 3, 86, 0, 0) := by decide +kernel
theorem pa_10_4 : pz_at 10 4 = some (4, .aload_n 0, 1, 0, 0, 0) := by decide +kernel
theorem pa_10_42 : pz_at 10 42 = some (42, .aload_n 0, 1, 0, 0, 0) := by decide +kernel
theorem pa_10_43 : pz_at 10 43 = some (43, .iload_n 2, 1, 0, 0, 0) := by decide +kernel
theorem pa_10_44 : pz_at 10 44 = some (44, .iconst 0, 1, 0, 0, 0) := by decide +kernel
theorem pa_10_45 : pz_at 10 45 = some (45, .aload_n 0, 1, 0, 0, 0) := by decide +kernel
theorem pa_10_46 : pz_at 10 46 = some (46, .iload_n 2, 1, 0, 0, 0) := by decide +kernel
theorem pa_10_47 : pz_at 10 47 = some (47, .invokevirtual 69, 3, 12, 1, 618) := by decide +kernel
theorem pa_10_5 : pz_at 10 5 = some (5, .iconst 1, 1, 0, 0, 0) := by decide +kernel
theorem pa_10_50 : pz_at 10 50 = some (50, .invokevirtual 73, 3, 13, 3, 627) := by decide +kernel
theorem pa_10_53 : pz_at 10 53 = some (53, .iconst 0, 1, 0, 0, 0) := by decide +kernel
theorem pa_10_54 : pz_at 10 54 = some (54, .istore_n 3, 1, 0, 0, 0) := by decide +kernel
theorem pa_10_55 : pz_at 10 55 = some (55, .iload_n 3, 1, 0, 0, 0) := by decide +kernel
theorem pa_10_56 : pz_at 10 56 = some (56, .aload_n 0, 1, 0, 0, 0) := by decide +kernel
theorem pa_10_57 : pz_at 10 57 = some (57, .getfield 35, 3, 1, 0, 247) := by decide +kernel
theorem pa_10_6 : pz_at 10 6 = some (6, .putfield 60, 3, 1, 8, 262) := by decide +kernel
theorem pa_10_60 : pz_at 10 60 = some (60, .getfield 77, 3, 4, 11, 146) := by decide +kernel
theorem pa_10_63 : pz_at 10 63 = some (63, .iload_n 2, 1, 0, 0, 0) := by decide +kernel
theorem pa_10_64 : pz_at 10 64 = some (64, .iaload, 1, 0, 0, 0) := by decide +kernel
theorem pa_10_65 : pz_at 10 65 = some (65, .if_icmp .ge 15, 3, 80, 0, 0) := by decide +kernel
theorem pa_10_68 : pz_at 10 68 = some (68, .aload_n 0, 1, 0, 0, 0) := by decide +kernel
theorem pa_10_69 : pz_at 10 69 = some (69, .iload_n 2, 1, 0, 0, 0) := by decide +kernel
theorem pa_10_70 : pz_at 10 70 = some (70, .iload_n 3, 1, 0, 0, 0) := by decide +kernel
theorem pa_10_71 : pz_at 10 71 = some (71, .invokevirtual 80, 3, 19, 2, 639) := by decide +kernel
theorem pa_10_74 : pz_at 10 74 = some (74, .iinc 3 1, 3, 0, 0, 0) := by decide +kernel
theorem pa_10_77 : pz_at 10 77 = some (77, .goto (-22), 3, 55, 0, 0) := by decide +kernel
theorem pa_10_80 : pz_at 10 80 = some (80, .iinc 2 1, 3, 0, 0, 0) := by decide +kernel
theorem pa_10_83 : pz_at 10 83 = some (83, .goto (-52), 3, 31, 0, 0) := by decide +kernel
theorem pa_10_86 : pz_at 10 86 = some (86, .iinc 1 1, 3, 0, 0, 0) := by decide +kernel
theorem pa_10_89 : pz_at 10 89 = some (89, .goto (-78), 3, 11, 0, 0) := by decide +kernel
theorem pa_10_9 : pz_at 10 9 = some (9, .iconst 0, 1, 0, 0, 0) := by decide +kernel
theorem pa_10_92 : pz_at 10 92 = some (92, .return_, 1, 0, 0, 0) := by decide +kernel
theorem pf_1_4_11 : pz_gf 1 4 11 = some (some 9) := by decide +kernel
theorem pf_1_4_3 : pz_gf 1 4 3 = some none := by decide +kernel
theorem pf_31_1_8 : pz_gf 31 1 8 = some none := by decide +kernel
theorem pg_9 : pz_ga 9 = some (.int, 10) := by decide +kernel
theorem pm_11 : pz_mi 11 = (1, 2, none) := by decide +kernel
theorem pm_12 : pz_mi 12 = (1, 6, (some .long)) := by decide +kernel
theorem pm_13 : pz_mi 13 = (1, 8, none) := by decide +kernel
theorem pm_19 : pz_mi 19 = (1, 8, none) := by decide +kernel
theorem pr_10 : (pz_mi 10).2.2 = none := by decide +kernel
theorem pa_11_0 : pz_at 11 0 = some (0, .iconst 0, 1, 0, 0, 0) := by decide +kernel
theorem pa_11_1 : pz_at 11 1 = some (1, .istore_n 1, 1, 0, 0, 0) := by decide +kernel
theorem pa_11_10 : pz_at 11 10 = some (10, .getfield 9, 3, 1, 1, 248) := by decide +kernel
theorem pa_11_13 : pz_at 11 13 = some (13, .iload_n 1, 1, 0, 0, 0) := by decide +kernel
theorem pa_11_14 : pz_at 11 14 = some (14, .lconst 0, 1, 0, 0, 0) := by decide +kernel
theorem pa_11_15 : pz_at 11 15 = some (15, .lastore, 1, 0, 0, 0) := by decide +kernel
theorem pa_11_16 : pz_at 11 16 = some (16, .iinc 1 1, 3, 0, 0, 0) := by decide +kernel
theorem pa_11_19 : pz_at 11 19 = some (19, .goto (-17), 3, 2, 0, 0) := by decide +kernel
theorem pa_11_2 : pz_at 11 2 = some (2, .iload_n 1, 1, 0, 0, 0) := by decide +kernel
theorem pa_11_22 : pz_at 11 22 = some (22, .iconst 0, 1, 0, 0, 0) := by decide +kernel
theorem pa_11_23 : pz_at 11 23 = some (23, .istore_n 1, 1, 0, 0, 0) := by decide +kernel
theorem pa_11_24 : pz_at 11 24 = some (24, .iload_n 1, 1, 0, 0, 0) := by decide +kernel
theorem pa_11_25 : pz_at 11 25 = some (25, .bipush 40, 2, 0, 0, 0) := by decide +kernel
theorem pa_11_27 : pz_at 11 27 = some (27, .if_icmp .ge 23, 3, 50, 0, 0) := by decide +kernel
theorem pa_11_3 : pz_at 11 3 = some (3, .sipush 240, 3, 0, 0, 0) := by decide +kernel
theorem pa_11_30 : pz_at 11 30 = some (30, .aload_n 0, 1, 0, 0, 0) := by decide +kernel
theorem pa_11_31 : pz_at 11 31 = some (31, .getfield 15, 3, 1, 2, 250) := by decide +kernel
theorem pa_11_34 : pz_at 11 34 = some (34, .iload_n 1, 1, 0, 0, 0) := by decide +kernel
theorem pa_11_35 : pz_at 11 35 = some (35, .iconst 0, 1, 0, 0, 0) := by decide +kernel
theorem pa_11_36 : pz_at 11 36 = some (36, .iastore, 1, 0, 0, 0) := by decide +kernel
theorem pa_11_37 : pz_at 11 37 = some (37, .aload_n 0, 1, 0, 0, 0) := by decide +kernel
theorem pa_11_38 : pz_at 11 38 = some (38, .getfield 19, 3, 1, 3, 253) := by decide +kernel
theorem pa_11_41 : pz_at 11 41 = some (41, .iload_n 1, 1, 0, 0, 0) := by decide +kernel
theorem pa_11_42 : pz_at 11 42 = some (42, .iconst 0, 1, 0, 0, 0) := by decide +kernel
theorem pa_11_43 : pz_at 11 43 = some (43, .iastore, 1, 0, 0, 0) := by decide +kernel
theorem pa_11_44 : pz_at 11 44 = some (44, .iinc 1 1, 3, 0, 0, 0) := by decide +kernel
theorem pa_11_47 : pz_at 11 47 = some (47, .goto (-23), 3, 24, 0, 0) := by decide +kernel
theorem pa_11_50 : pz_at 11 50 = some (50, .iconst 0, 1, 0, 0, 0) := by decide +kernel
theorem pa_11_51 : pz_at 11 51 = some (51, .istore_n 1, 1, 0, 0, 0) := by decide +kernel
theorem pa_11_52 : pz_at 11 52 = some (52, .iload_n 1, 1, 0, 0, 0) := by decide +kernel
theorem pa_11_53 : pz_at 11 53 = some (53, .bipush 10, 2, 0, 0, 0) := by decide +kernel
theorem pa_11_55 : pz_at 11 55 = some (55, .if_icmp .ge 37, 3, 92, 0, 0) := by decide +kernel
theorem pa_11_58 : pz_at 11 58 = some (58, .aload_n 0, 1, 0, 0, 0) := by decide +kernel
theorem pa_11_59 : pz_at 11 59 = some (59, .getfield 22, 3, 1, 4, 256) := by decide +kernel
theorem pa_11_6 : pz_at 11 6 = some (6, .if_icmp .ge 16, 3, 22, 0, 0) := by decide +kernel
theorem pa_11_62 : pz_at 11 62 = some (62, .iload_n 1, 1, 0, 0, 0) := by decide +kernel
theorem pa_11_63 : pz_at 11 63 = some (63, .iconst 0, 1, 0, 0, 0) := by decide +kernel
theorem pa_11_64 : pz_at 11 64 = some (64, .iastore, 1, 0, 0, 0) := by decide +kernel
theorem pa_11_65 : pz_at 11 65 = some (65, .aload_n 0, 1, 0, 0, 0) := by decide +kernel
theorem pa_11_66 : pz_at 11 66 = some (66, .getfield 25, 3, 1, 5, 258) := by decide +kernel
theorem pa_11_69 : pz_at 11 69 = some (69, .iload_n 1, 1, 0, 0, 0) := by decide +kernel
theorem pa_11_70 : pz_at 11 70 = some (70, .iconst 0, 1, 0, 0, 0) := by decide +kernel
theorem pa_11_71 : pz_at 11 71 = some (71, .iastore, 1, 0, 0, 0) := by decide +kernel
theorem pa_11_72 : pz_at 11 72 = some (72, .aload_n 0, 1, 0, 0, 0) := by decide +kernel
theorem pa_11_73 : pz_at 11 73 = some (73, .getfield 28, 3, 1, 6, 259) := by decide +kernel
theorem pa_11_76 : pz_at 11 76 = some (76, .iload_n 1, 1, 0, 0, 0) := by decide +kernel
theorem pa_11_77 : pz_at 11 77 = some (77, .iconst 0, 1, 0, 0, 0) := by decide +kernel
theorem pa_11_78 : pz_at 11 78 = some (78, .bastore, 1, 0, 0, 0) := by decide +kernel
theorem pa_11_79 : pz_at 11 79 = some (79, .aload_n 0, 1, 0, 0, 0) := by decide +kernel
theorem pa_11_80 : pz_at 11 80 = some (80, .getfield 32, 3, 1, 7, 261) := by decide +kernel
theorem pa_11_83 : pz_at 11 83 = some (83, .iload_n 1, 1, 0, 0, 0) := by decide +kernel
theorem pa_11_84 : pz_at 11 84 = some (84, .iconst 0, 1, 0, 0, 0) := by decide +kernel
theorem pa_11_85 : pz_at 11 85 = some (85, .bastore, 1, 0, 0, 0) := by decide +kernel
theorem pa_11_86 : pz_at 11 86 = some (86, .iinc 1 1, 3, 0, 0, 0) := by decide +kernel
theorem pa_11_89 : pz_at 11 89 = some (89, .goto (-37), 3, 52, 0, 0) := by decide +kernel
theorem pa_11_9 : pz_at 11 9 = some (9, .aload_n 0, 1, 0, 0, 0) := by decide +kernel
theorem pa_11_92 : pz_at 11 92 = some (92, .return_, 1, 0, 0, 0) := by decide +kernel
theorem pf_31_1_1 : pz_gf 31 1 1 = some (some 32) := by decide +kernel
theorem pg_32 : pz_ga 32 = some (.long, 240) := by decide +kernel
theorem pr_11 : (pz_mi 11).2.2 = none := by decide +kernel
theorem pa_12_0 : pz_at 12 0 = some (0, .lconst 0, 1, 0, 0, 0) := by decide +kernel
theorem pa_12_1 : pz_at 12 1 = some (1, .lstore_n 2, 1, 0, 0, 0) := by decide +kernel
theorem pa_12_12 : pz_at 12 12 = some (12, .iload 4, 2, 0, 0, 0) := by decide +kernel
theorem pa_12_14 : pz_at 12 14 = some (14, .aload_n 0, 1, 0, 0, 0) := by decide +kernel
theorem pa_12_15 : pz_at 12 15 = some (15, .getfield 35, 3, 1, 0, 247) := by decide +kernel
theorem pa_12_18 : pz_at 12 18 = some (18, .getfield 84, 3, 4, 9, 139) := by decide +kernel
theorem pa_12_2 : pz_at 12 2 = some (2, .iconst 0, 1, 0, 0, 0) := by decide +kernel
theorem pa_12_21 : pz_at 12 21 = some (21, .iload_n 1, 1, 0, 0, 0) := by decide +kernel
theorem pa_12_22 : pz_at 12 22 = some (22, .iaload, 1, 0, 0, 0) := by decide +kernel
theorem pa_12_23 : pz_at 12 23 = some (23, .if_icmp .ge 12, 3, 35, 0, 0) := by decide +kernel
theorem pa_12_26 : pz_at 12 26 = some (26, .iconst 1, 1, 0, 0, 0) := by decide +kernel
theorem pa_12_27 : pz_at 12 27 = some (27, .iconst 4, 1, 0, 0, 0) := by decide +kernel
theorem pa_12_28 : pz_at 12 28 = some (28, .iload 4, 2, 0, 0, 0) := by decide +kernel
theorem pa_12_3 : pz_at 12 3 = some (3, .istore 4, 2, 0, 0, 0) := by decide +kernel
theorem pa_12_30 : pz_at 12 30 = some (30, .ishl, 1, 0, 0, 0) := by decide +kernel
theorem pa_12_31 : pz_at 12 31 = some (31, .ior, 1, 0, 0, 0) := by decide +kernel
theorem pa_12_32 : pz_at 12 32 = some (32, .goto 4, 3, 36, 0, 0) := by decide +kernel
theorem pa_12_35 : pz_at 12 35 = some (35, .iconst 1, 1, 0, 0, 0) := by decide +kernel
theorem pa_12_36 : pz_at 12 36 = some (36, .istore 5, 2, 0, 0, 0) := by decide +kernel
theorem pa_12_38 : pz_at 12 38 = some (38, .lload_n 2, 1, 0, 0, 0) := by decide +kernel
theorem pa_12_39 : pz_at 12 39 = some (39, .iload 4, 2, 0, 0, 0) := by decide +kernel
theorem pa_12_41 : pz_at 12 41 = some (41, .iload 5, 2, 0, 0, 0) := by decide +kernel
theorem pa_12_43 : pz_at 12 43 = some (43, .invokestatic 87, 3, 4, 3, 622) := by decide +kernel
theorem pa_12_46 : pz_at 12 46 = some (46, .lstore_n 2, 1, 0, 0, 0) := by decide +kernel
theorem pa_12_47 : pz_at 12 47 = some (47, .iinc 4 1, 3, 0, 0, 0) := by decide +kernel
theorem pa_12_5 : pz_at 12 5 = some (5, .iload 4, 2, 0, 0, 0) := by decide +kernel
theorem pa_12_50 : pz_at 12 50 = some (50, .goto (-45), 3, 5, 0, 0) := by decide +kernel
theorem pa_12_53 : pz_at 12 53 = some (53, .lload_n 2, 1, 0, 0, 0) := by decide +kernel
theorem pa_12_54 : pz_at 12 54 = some (54, .lreturn, 1, 0, 0, 0) := by decide +kernel
theorem pa_12_7 : pz_at 12 7 = some (7, .bipush 8, 2, 0, 0, 0) := by decide +kernel
theorem pa_12_9 : pz_at 12 9 = some (9, .if_icmp .ge 44, 3, 53, 0, 0) := by decide +kernel
theorem pf_1_4_9 : pz_gf 1 4 9 = some (some 7) := by decide +kernel
theorem pg_7 : pz_ga 7 = some (.int, 10) := by decide +kernel
theorem pm_4 : pz_mi 4 = (1, 5, (some .long)) := by decide +kernel
theorem pr_12 : (pz_mi 12).2.2 = (some .long) := by decide +kernel
theorem pa_13_0 : pz_at 13 0 = some (0, .iload_n 2, 1, 0, 0, 0) := by decide +kernel
theorem pa_13_1 : pz_at 13 1 = some (1, .aload_n 0, 1, 0, 0, 0) := by decide +kernel
theorem pa_13_10 : pz_at 13 10 = some (10, .if_icmp .lt 10, 3, 20, 0, 0) := by decide +kernel
theorem pa_13_13 : pz_at 13 13 = some (13, .aload_n 0, 1, 0, 0, 0) := by decide +kernel
theorem pa_13_14 : pz_at 13 14 = some (14, .iload_n 1, 1, 0, 0, 0) := by decide +kernel
theorem pa_13_15 : pz_at 13 15 = some (15, .iconst 1, 1, 0, 0, 0) := by decide +kernel
theorem pa_13_16 : pz_at 13 16 = some (16, .invokevirtual 91, 3, 14, 2, 631) := by decide +kernel
theorem pa_13_19 : pz_at 13 19 = some (19, .return_, 1, 0, 0, 0) := by decide +kernel
theorem pa_13_2 : pz_at 13 2 = some (2, .getfield 35, 3, 1, 0, 247) := by decide +kernel
theorem pa_13_20 : pz_at 13 20 = some (20, .iload_n 1, 1, 0, 0, 0) := by decide +kernel
theorem pa_13_21 : pz_at 13 21 = some (21, .bipush 24, 2, 0, 0, 0) := by decide +kernel
theorem pa_13_23 : pz_at 13 23 = some (23, .imul, 1, 0, 0, 0) := by decide +kernel
theorem pa_13_24 : pz_at 13 24 = some (24, .iload_n 2, 1, 0, 0, 0) := by decide +kernel
theorem pa_13_25 : pz_at 13 25 = some (25, .iadd, 1, 0, 0, 0) := by decide +kernel
theorem pa_13_26 : pz_at 13 26 = some (26, .istore 5, 2, 0, 0, 0) := by decide +kernel
theorem pa_13_28 : pz_at 13 28 = some (28, .aload_n 0, 1, 0, 0, 0) := by decide +kernel
theorem pa_13_29 : pz_at 13 29 = some (29, .getfield 9, 3, 1, 1, 248) := by decide +kernel
theorem pa_13_32 : pz_at 13 32 = some (32, .iload 5, 2, 0, 0, 0) := by decide +kernel
theorem pa_13_34 : pz_at 13 34 = some (34, .laload, 1, 0, 0, 0) := by decide +kernel
theorem pa_13_35 : pz_at 13 35 = some (35, .lload_n 3, 1, 0, 0, 0) := by decide +kernel
theorem pa_13_36 : pz_at 13 36 = some (36, .lor, 1, 0, 0, 0) := by decide +kernel
theorem pa_13_37 : pz_at 13 37 = some (37, .lstore 6, 2, 0, 0, 0) := by decide +kernel
theorem pa_13_39 : pz_at 13 39 = some (39, .lload 6, 2, 0, 0, 0) := by decide +kernel
theorem pa_13_41 : pz_at 13 41 = some (41, .aload_n 0, 1, 0, 0, 0) := by decide +kernel
theorem pa_13_42 : pz_at 13 42 = some (42, .getfield 9, 3, 1, 1, 248) := by decide +kernel
theorem pa_13_45 : pz_at 13 45 = some (45, .iload 5, 2, 0, 0, 0) := by decide +kernel
theorem pa_13_47 : pz_at 13 47 = some (47, .laload, 1, 0, 0, 0) := by decide +kernel
theorem pa_13_48 : pz_at 13 48 = some (48, .lcmp, 1, 0, 0, 0) := by decide +kernel
theorem pa_13_49 : pz_at 13 49 = some (49, .ifCond .eq 17, 3, 66, 0, 0) := by decide +kernel
theorem pa_13_5 : pz_at 13 5 = some (5, .getfield 77, 3, 4, 11, 146) := by decide +kernel
theorem pa_13_52 : pz_at 13 52 = some (52, .aload_n 0, 1, 0, 0, 0) := by decide +kernel
theorem pa_13_53 : pz_at 13 53 = some (53, .getfield 9, 3, 1, 1, 248) := by decide +kernel
theorem pa_13_56 : pz_at 13 56 = some (56, .iload 5, 2, 0, 0, 0) := by decide +kernel
theorem pa_13_58 : pz_at 13 58 = some (58, .lload 6, 2, 0, 0, 0) := by decide +kernel
theorem pa_13_60 : pz_at 13 60 = some (60, .lastore, 1, 0, 0, 0) := by decide +kernel
theorem pa_13_61 : pz_at 13 61 = some (61, .aload_n 0, 1, 0, 0, 0) := by decide +kernel
theorem pa_13_62 : pz_at 13 62 = some (62, .iconst 1, 1, 0, 0, 0) := by decide +kernel
theorem pa_13_63 : pz_at 13 63 = some (63, .putfield 60, 3, 1, 8, 262) := by decide +kernel
theorem pa_13_66 : pz_at 13 66 = some (66, .return_, 1, 0, 0, 0) := by decide +kernel
theorem pa_13_8 : pz_at 13 8 = some (8, .iload_n 1, 1, 0, 0, 0) := by decide +kernel
theorem pa_13_9 : pz_at 13 9 = some (9, .iaload, 1, 0, 0, 0) := by decide +kernel
theorem pm_14 : pz_mi 14 = (1, 3, none) := by decide +kernel
theorem pr_13 : (pz_mi 13).2.2 = none := by decide +kernel
theorem pa_14_0 : pz_at 14 0 = some (0, .aload_n 0, 1, 0, 0, 0) := by decide +kernel
theorem pa_14_1 : pz_at 14 1 = some (1, .getfield 32, 3, 1, 7, 261) := by decide +kernel
theorem pa_14_10 : pz_at 14 10 = some (10, .getfield 32, 3, 1, 7, 261) := by decide +kernel
theorem pa_14_13 : pz_at 14 13 = some (13, .iload_n 1, 1, 0, 0, 0) := by decide +kernel
theorem pa_14_14 : pz_at 14 14 = some (14, .iconst 1, 1, 0, 0, 0) := by decide +kernel
theorem pa_14_15 : pz_at 14 15 = some (15, .bastore, 1, 0, 0, 0) := by decide +kernel
theorem pa_14_16 : pz_at 14 16 = some (16, .aload_n 0, 1, 0, 0, 0) := by decide +kernel
theorem pa_14_17 : pz_at 14 17 = some (17, .iconst 1, 1, 0, 0, 0) := by decide +kernel
theorem pa_14_18 : pz_at 14 18 = some (18, .putfield 60, 3, 1, 8, 262) := by decide +kernel
theorem pa_14_21 : pz_at 14 21 = some (21, .aload_n 0, 1, 0, 0, 0) := by decide +kernel
theorem pa_14_22 : pz_at 14 22 = some (22, .getfield 35, 3, 1, 0, 247) := by decide +kernel
theorem pa_14_25 : pz_at 14 25 = some (25, .getfield 54, 3, 4, 10, 143) := by decide +kernel
theorem pa_14_28 : pz_at 14 28 = some (28, .iload_n 1, 1, 0, 0, 0) := by decide +kernel
theorem pa_14_29 : pz_at 14 29 = some (29, .iaload, 1, 0, 0, 0) := by decide +kernel
theorem pa_14_30 : pz_at 14 30 = some (30, .iconst 2, 1, 0, 0, 0) := by decide +kernel
theorem pa_14_31 : pz_at 14 31 = some (31, .if_icmp .ne 13, 3, 44, 0, 0) := by decide +kernel
theorem pa_14_34 : pz_at 14 34 = some (34, .aload_n 0, 1, 0, 0, 0) := by decide +kernel
theorem pa_14_35 : pz_at 14 35 = some (35, .aload_n 0, 1, 0, 0, 0) := by decide +kernel
theorem pa_14_36 : pz_at 14 36 = some (36, .getfield 25, 3, 1, 5, 258) := by decide +kernel
theorem pa_14_39 : pz_at 14 39 = some (39, .iload_n 1, 1, 0, 0, 0) := by decide +kernel
theorem pa_14_4 : pz_at 14 4 = some (4, .iload_n 1, 1, 0, 0, 0) := by decide +kernel
theorem pa_14_40 : pz_at 14 40 = some (40, .iload_n 2, 1, 0, 0, 0) := by decide +kernel
theorem pa_14_41 : pz_at 14 41 = some (41, .invokevirtual 94, 3, 15, 3, 635) := by decide +kernel
theorem pa_14_44 : pz_at 14 44 = some (44, .return_, 1, 0, 0, 0) := by decide +kernel
theorem pa_14_5 : pz_at 14 5 = some (5, .baload, 1, 0, 0, 0) := by decide +kernel
theorem pa_14_6 : pz_at 14 6 = some (6, .ifCond .ne 15, 3, 21, 0, 0) := by decide +kernel
theorem pa_14_9 : pz_at 14 9 = some (9, .aload_n 0, 1, 0, 0, 0) := by decide +kernel
theorem pm_15 : pz_mi 15 = (1, 5, none) := by decide +kernel
theorem pr_14 : (pz_mi 14).2.2 = none := by decide +kernel
theorem pa_15_0 : pz_at 15 0 = some (0, .aload_n 1, 1, 0, 0, 0) := by decide +kernel
theorem pa_15_1 : pz_at 15 1 = some (1, .iload_n 2, 1, 0, 0, 0) := by decide +kernel
theorem pa_15_10 : pz_at 15 10 = some (10, .iload_n 2, 1, 0, 0, 0) := by decide +kernel
theorem pa_15_11 : pz_at 15 11 = some (11, .iaload, 1, 0, 0, 0) := by decide +kernel
theorem pa_15_12 : pz_at 15 12 = some (12, .if_icmp .eq 13, 3, 25, 0, 0) := by decide +kernel
theorem pa_15_15 : pz_at 15 15 = some (15, .aload_n 1, 1, 0, 0, 0) := by decide +kernel
theorem pa_15_16 : pz_at 15 16 = some (16, .iload_n 2, 1, 0, 0, 0) := by decide +kernel
theorem pa_15_17 : pz_at 15 17 = some (17, .iload 4, 2, 0, 0, 0) := by decide +kernel
theorem pa_15_19 : pz_at 15 19 = some (19, .iastore, 1, 0, 0, 0) := by decide +kernel
theorem pa_15_2 : pz_at 15 2 = some (2, .iaload, 1, 0, 0, 0) := by decide +kernel
theorem pa_15_20 : pz_at 15 20 = some (20, .aload_n 0, 1, 0, 0, 0) := by decide +kernel
theorem pa_15_21 : pz_at 15 21 = some (21, .iconst 1, 1, 0, 0, 0) := by decide +kernel
theorem pa_15_22 : pz_at 15 22 = some (22, .putfield 60, 3, 1, 8, 262) := by decide +kernel
theorem pa_15_25 : pz_at 15 25 = some (25, .return_, 1, 0, 0, 0) := by decide +kernel
theorem pa_15_3 : pz_at 15 3 = some (3, .iload_n 3, 1, 0, 0, 0) := by decide +kernel
theorem pa_15_4 : pz_at 15 4 = some (4, .ior, 1, 0, 0, 0) := by decide +kernel
theorem pa_15_5 : pz_at 15 5 = some (5, .istore 4, 2, 0, 0, 0) := by decide +kernel
theorem pa_15_7 : pz_at 15 7 = some (7, .iload 4, 2, 0, 0, 0) := by decide +kernel
theorem pa_15_9 : pz_at 15 9 = some (9, .aload_n 1, 1, 0, 0, 0) := by decide +kernel
theorem pr_15 : (pz_mi 15).2.2 = none := by decide +kernel
theorem pa_16_0 : pz_at 16 0 = some (0, .aload_n 0, 1, 0, 0, 0) := by decide +kernel
theorem pa_16_1 : pz_at 16 1 = some (1, .getfield 28, 3, 1, 6, 259) := by decide +kernel
theorem pa_16_10 : pz_at 16 10 = some (10, .getfield 28, 3, 1, 6, 259) := by decide +kernel
theorem pa_16_13 : pz_at 16 13 = some (13, .iload_n 1, 1, 0, 0, 0) := by decide +kernel
theorem pa_16_14 : pz_at 16 14 = some (14, .iconst 1, 1, 0, 0, 0) := by decide +kernel
theorem pa_16_15 : pz_at 16 15 = some (15, .bastore, 1, 0, 0, 0) := by decide +kernel
theorem pa_16_16 : pz_at 16 16 = some (16, .aload_n 0, 1, 0, 0, 0) := by decide +kernel
theorem pa_16_17 : pz_at 16 17 = some (17, .iconst 1, 1, 0, 0, 0) := by decide +kernel
theorem pa_16_18 : pz_at 16 18 = some (18, .putfield 60, 3, 1, 8, 262) := by decide +kernel
theorem pa_16_21 : pz_at 16 21 = some (21, .return_, 1, 0, 0, 0) := by decide +kernel
theorem pa_16_4 : pz_at 16 4 = some (4, .iload_n 1, 1, 0, 0, 0) := by decide +kernel
theorem pa_16_5 : pz_at 16 5 = some (5, .baload, 1, 0, 0, 0) := by decide +kernel
theorem pa_16_6 : pz_at 16 6 = some (6, .ifCond .ne 15, 3, 21, 0, 0) := by decide +kernel
theorem pa_16_9 : pz_at 16 9 = some (9, .aload_n 0, 1, 0, 0, 0) := by decide +kernel
theorem pr_16 : (pz_mi 16).2.2 = none := by decide +kernel
theorem pa_17_0 : pz_at 17 0 = some (0, .iconst 1, 1, 0, 0, 0) := by decide +kernel
theorem pa_17_1 : pz_at 17 1 = some (1, .istore 4, 2, 0, 0, 0) := by decide +kernel
theorem pa_17_10 : pz_at 17 10 = some (10, .iload_n 3, 1, 0, 0, 0) := by decide +kernel
theorem pa_17_11 : pz_at 17 11 = some (11, .iload 4, 2, 0, 0, 0) := by decide +kernel
theorem pa_17_13 : pz_at 17 13 = some (13, .ishr, 1, 0, 0, 0) := by decide +kernel
theorem pa_17_14 : pz_at 17 14 = some (14, .iconst 1, 1, 0, 0, 0) := by decide +kernel
theorem pa_17_15 : pz_at 17 15 = some (15, .iand, 1, 0, 0, 0) := by decide +kernel
theorem pa_17_16 : pz_at 17 16 = some (16, .iconst 1, 1, 0, 0, 0) := by decide +kernel
theorem pa_17_17 : pz_at 17 17 = some (17, .if_icmp .ne 56, 3, 73, 0, 0) := by decide +kernel
theorem pa_17_20 : pz_at 17 20 = some (20, .aload_n 0, 1, 0, 0, 0) := by decide +kernel
theorem pa_17_21 : pz_at 17 21 = some (21, .getfield 35, 3, 1, 0, 247) := by decide +kernel
theorem pa_17_24 : pz_at 17 24 = some (24, .iload_n 1, 1, 0, 0, 0) := by decide +kernel
theorem pa_17_25 : pz_at 17 25 = some (25, .iload_n 2, 1, 0, 0, 0) := by decide +kernel
theorem pa_17_26 : pz_at 17 26 = some (26, .iload 4, 2, 0, 0, 0) := by decide +kernel
theorem pa_17_28 : pz_at 17 28 = some (28, .invokevirtual 98, 3, 65, 3, 686) := by decide +kernel
theorem pa_17_3 : pz_at 17 3 = some (3, .iload 4, 2, 0, 0, 0) := by decide +kernel
theorem pa_17_31 : pz_at 17 31 = some (31, .istore 5, 2, 0, 0, 0) := by decide +kernel
theorem pa_17_33 : pz_at 17 33 = some (33, .iload 5, 2, 0, 0, 0) := by decide +kernel
theorem pa_17_35 : pz_at 17 35 = some (35, .iconst (-1), 1, 0, 0, 0) := by decide +kernel
theorem pa_17_36 : pz_at 17 36 = some (36, .if_icmp .ne 19, 3, 55, 0, 0) := by decide +kernel
theorem pa_17_39 : pz_at 17 39 = some (39, .aload_n 0, 1, 0, 0, 0) := by decide +kernel
theorem pa_17_40 : pz_at 17 40 = some (40, .aload_n 0, 1, 0, 0, 0) := by decide +kernel
theorem pa_17_41 : pz_at 17 41 = some (41, .getfield 22, 3, 1, 4, 256) := by decide +kernel
theorem pa_17_44 : pz_at 17 44 = some (44, .iload_n 1, 1, 0, 0, 0) := by decide +kernel
theorem pa_17_45 : pz_at 17 45 = some (45, .iconst 1, 1, 0, 0, 0) := by decide +kernel
theorem pa_17_46 : pz_at 17 46 = some (46, .iload 4, 2, 0, 0, 0) := by decide +kernel
theorem pa_17_48 : pz_at 17 48 = some (48, .ishl, 1, 0, 0, 0) := by decide +kernel
theorem pa_17_49 : pz_at 17 49 = some (49, .invokevirtual 94, 3, 15, 3, 635) := by decide +kernel
theorem pa_17_5 : pz_at 17 5 = some (5, .bipush 9, 2, 0, 0, 0) := by decide +kernel
theorem pa_17_52 : pz_at 17 52 = some (52, .goto 21, 3, 73, 0, 0) := by decide +kernel
theorem pa_17_55 : pz_at 17 55 = some (55, .aload_n 0, 1, 0, 0, 0) := by decide +kernel
theorem pa_17_56 : pz_at 17 56 = some (56, .iload_n 1, 1, 0, 0, 0) := by decide +kernel
theorem pa_17_57 : pz_at 17 57 = some (57, .iload 5, 2, 0, 0, 0) := by decide +kernel
theorem pa_17_59 : pz_at 17 59 = some (59, .aload_n 0, 1, 0, 0, 0) := by decide +kernel
theorem pa_17_60 : pz_at 17 60 = some (60, .getfield 9, 3, 1, 1, 248) := by decide +kernel
theorem pa_17_63 : pz_at 17 63 = some (63, .iload_n 1, 1, 0, 0, 0) := by decide +kernel
theorem pa_17_64 : pz_at 17 64 = some (64, .bipush 24, 2, 0, 0, 0) := by decide +kernel
theorem pa_17_66 : pz_at 17 66 = some (66, .imul, 1, 0, 0, 0) := by decide +kernel
theorem pa_17_67 : pz_at 17 67 = some (67, .iload_n 2, 1, 0, 0, 0) := by decide +kernel
theorem pa_17_68 : pz_at 17 68 = some (68, .iadd, 1, 0, 0, 0) := by decide +kernel
theorem pa_17_69 : pz_at 17 69 = some (69, .laload, 1, 0, 0, 0) := by decide +kernel
theorem pa_17_7 : pz_at 17 7 = some (7, .if_icmp .gt 72, 3, 79, 0, 0) := by decide +kernel
theorem pa_17_70 : pz_at 17 70 = some (70, .invokevirtual 73, 3, 13, 3, 627) := by decide +kernel
theorem pa_17_73 : pz_at 17 73 = some (73, .iinc 4 1, 3, 0, 0, 0) := by decide +kernel
theorem pa_17_76 : pz_at 17 76 = some (76, .goto (-73), 3, 3, 0, 0) := by decide +kernel
theorem pa_17_79 : pz_at 17 79 = some (79, .return_, 1, 0, 0, 0) := by decide +kernel
theorem pc_1 : pz_gc 1 = some 4 := by decide +kernel
theorem pm_65 : pz_mi 65 = (4, 7, (some .int)) := by decide +kernel
theorem pr_17 : (pz_mi 17).2.2 = none := by decide +kernel
theorem pa_18_0 : pz_at 18 0 = some (0, .iconst 0, 1, 0, 0, 0) := by decide +kernel
theorem pa_18_1 : pz_at 18 1 = some (1, .istore 5, 2, 0, 0, 0) := by decide +kernel
theorem pa_18_10 : pz_at 18 10 = some (10, .iconst 4, 1, 0, 0, 0) := by decide +kernel
theorem pa_18_11 : pz_at 18 11 = some (11, .iload 5, 2, 0, 0, 0) := by decide +kernel
theorem pa_18_13 : pz_at 18 13 = some (13, .ishl, 1, 0, 0, 0) := by decide +kernel
theorem pa_18_14 : pz_at 18 14 = some (14, .iand, 1, 0, 0, 0) := by decide +kernel
theorem pa_18_15 : pz_at 18 15 = some (15, .ifCond .eq 16, 3, 31, 0, 0) := by decide +kernel
theorem pa_18_18 : pz_at 18 18 = some (18, .aload_n 0, 1, 0, 0, 0) := by decide +kernel
theorem pa_18_19 : pz_at 18 19 = some (19, .aload_n 1, 1, 0, 0, 0) := by decide +kernel
theorem pa_18_20 : pz_at 18 20 = some (20, .iload_n 2, 1, 0, 0, 0) := by decide +kernel
theorem pa_18_21 : pz_at 18 21 = some (21, .iconst 4, 1, 0, 0, 0) := by decide +kernel
theorem pa_18_22 : pz_at 18 22 = some (22, .imul, 1, 0, 0, 0) := by decide +kernel
theorem pa_18_23 : pz_at 18 23 = some (23, .iload 5, 2, 0, 0, 0) := by decide +kernel
theorem pa_18_25 : pz_at 18 25 = some (25, .iadd, 1, 0, 0, 0) := by decide +kernel
theorem pa_18_26 : pz_at 18 26 = some (26, .iload 4, 2, 0, 0, 0) := by decide +kernel
theorem pa_18_28 : pz_at 18 28 = some (28, .invokevirtual 94, 3, 15, 3, 635) := by decide +kernel
theorem pa_18_3 : pz_at 18 3 = some (3, .iload 5, 2, 0, 0, 0) := by decide +kernel
theorem pa_18_31 : pz_at 18 31 = some (31, .iinc 5 1, 3, 0, 0, 0) := by decide +kernel
theorem pa_18_34 : pz_at 18 34 = some (34, .goto (-31), 3, 3, 0, 0) := by decide +kernel
theorem pa_18_37 : pz_at 18 37 = some (37, .iload_n 3, 1, 0, 0, 0) := by decide +kernel
theorem pa_18_38 : pz_at 18 38 = some (38, .bipush 32, 2, 0, 0, 0) := by decide +kernel
theorem pa_18_40 : pz_at 18 40 = some (40, .iand, 1, 0, 0, 0) := by decide +kernel
theorem pa_18_41 : pz_at 18 41 = some (41, .ifCond .eq 15, 3, 56, 0, 0) := by decide +kernel
theorem pa_18_44 : pz_at 18 44 = some (44, .aload_n 0, 1, 0, 0, 0) := by decide +kernel
theorem pa_18_45 : pz_at 18 45 = some (45, .aload_n 1, 1, 0, 0, 0) := by decide +kernel
theorem pa_18_46 : pz_at 18 46 = some (46, .iload_n 2, 1, 0, 0, 0) := by decide +kernel
theorem pa_18_47 : pz_at 18 47 = some (47, .iconst 4, 1, 0, 0, 0) := by decide +kernel
theorem pa_18_48 : pz_at 18 48 = some (48, .imul, 1, 0, 0, 0) := by decide +kernel
theorem pa_18_49 : pz_at 18 49 = some (49, .iconst 3, 1, 0, 0, 0) := by decide +kernel
theorem pa_18_5 : pz_at 18 5 = some (5, .iconst 3, 1, 0, 0, 0) := by decide +kernel
theorem pa_18_50 : pz_at 18 50 = some (50, .iadd, 1, 0, 0, 0) := by decide +kernel
theorem pa_18_51 : pz_at 18 51 = some (51, .iload 4, 2, 0, 0, 0) := by decide +kernel
theorem pa_18_53 : pz_at 18 53 = some (53, .invokevirtual 94, 3, 15, 3, 635) := by decide +kernel
theorem pa_18_56 : pz_at 18 56 = some (56, .return_, 1, 0, 0, 0) := by decide +kernel
theorem pa_18_6 : pz_at 18 6 = some (6, .if_icmp .ge 31, 3, 37, 0, 0) := by decide +kernel
theorem pa_18_9 : pz_at 18 9 = some (9, .iload_n 3, 1, 0, 0, 0) := by decide +kernel
theorem pr_18 : (pz_mi 18).2.2 = none := by decide +kernel
theorem pa_19_0 : pz_at 19 0 = some (0, .iload_n 1, 1, 0, 0, 0) := by decide +kernel
theorem pa_19_1 : pz_at 19 1 = some (1, .bipush 24, 2, 0, 0, 0) := by decide +kernel
theorem pa_19_100 : pz_at 19 100 = some (100, .if_icmp .ne 16, 3, 116, 0, 0) := by decide +kernel
theorem pa_19_103 : pz_at 19 103 = some (103, .aload_n 0, 1, 0, 0, 0) := by decide +kernel
theorem pa_19_104 : pz_at 19 104 = some (104, .iload_n 1, 1, 0, 0, 0) := by decide +kernel
theorem pa_19_105 : pz_at 19 105 = some (105, .iload_n 2, 1, 0, 0, 0) := by decide +kernel
theorem pa_19_106 : pz_at 19 106 = some (106, .lload 4, 2, 0, 0, 0) := by decide +kernel
theorem pa_19_108 : pz_at 19 108 = some (108, .invokevirtual 112, 3, 23, 3, 658) := by decide +kernel
theorem pa_19_11 : pz_at 19 11 = some (11, .iload_n 3, 1, 0, 0, 0) := by decide +kernel
theorem pa_19_111 : pz_at 19 111 = some (111, .istore 7, 2, 0, 0, 0) := by decide +kernel
theorem pa_19_113 : pz_at 19 113 = some (113, .goto 84, 3, 197, 0, 0) := by decide +kernel
theorem pa_19_116 : pz_at 19 116 = some (116, .iload 6, 2, 0, 0, 0) := by decide +kernel
theorem pa_19_118 : pz_at 19 118 = some (118, .bipush 28, 2, 0, 0, 0) := by decide +kernel
theorem pa_19_12 : pz_at 19 12 = some (12, .laload, 1, 0, 0, 0) := by decide +kernel
theorem pa_19_120 : pz_at 19 120 = some (120, .if_icmp .ne 22, 3, 142, 0, 0) := by decide +kernel
theorem pa_19_123 : pz_at 19 123 = some (123, .aload_n 0, 1, 0, 0, 0) := by decide +kernel
theorem pa_19_124 : pz_at 19 124 = some (124, .iload_n 1, 1, 0, 0, 0) := by decide +kernel
theorem pa_19_125 : pz_at 19 125 = some (125, .aload_n 0, 1, 0, 0, 0) := by decide +kernel
theorem pa_19_126 : pz_at 19 126 = some (126, .getfield 35, 3, 1, 0, 247) := by decide +kernel
theorem pa_19_129 : pz_at 19 129 = some (129, .getfield 115, 3, 4, 15, 159) := by decide +kernel
theorem pa_19_13 : pz_at 19 13 = some (13, .lstore 4, 2, 0, 0, 0) := by decide +kernel
theorem pa_19_132 : pz_at 19 132 = some (132, .iload_n 3, 1, 0, 0, 0) := by decide +kernel
theorem pa_19_133 : pz_at 19 133 = some (133, .iaload, 1, 0, 0, 0) := by decide +kernel
theorem pa_19_134 : pz_at 19 134 = some (134, .lload 4, 2, 0, 0, 0) := by decide +kernel
theorem pa_19_136 : pz_at 19 136 = some (136, .invokevirtual 73, 3, 13, 3, 627) := by decide +kernel
theorem pa_19_139 : pz_at 19 139 = some (139, .goto 58, 3, 197, 0, 0) := by decide +kernel
theorem pa_19_142 : pz_at 19 142 = some (142, .iload 6, 2, 0, 0, 0) := by decide +kernel
theorem pa_19_144 : pz_at 19 144 = some (144, .bipush 23, 2, 0, 0, 0) := by decide +kernel
theorem pa_19_146 : pz_at 19 146 = some (146, .if_icmp .lt 21, 3, 167, 0, 0) := by decide +kernel
theorem pa_19_149 : pz_at 19 149 = some (149, .iload 6, 2, 0, 0, 0) := by decide +kernel
theorem pa_19_15 : pz_at 19 15 = some (15, .lload 4, 2, 0, 0, 0) := by decide +kernel
theorem pa_19_151 : pz_at 19 151 = some (151, .bipush 27, 2, 0, 0, 0) := by decide +kernel
theorem pa_19_153 : pz_at 19 153 = some (153, .if_icmp .gt 14, 3, 167, 0, 0) := by decide +kernel
theorem pa_19_156 : pz_at 19 156 = some (156, .aload_n 0, 1, 0, 0, 0) := by decide +kernel
theorem pa_19_157 : pz_at 19 157 = some (157, .iload_n 1, 1, 0, 0, 0) := by decide +kernel
theorem pa_19_158 : pz_at 19 158 = some (158, .iload_n 2, 1, 0, 0, 0) := by decide +kernel
theorem pa_19_159 : pz_at 19 159 = some (159, .lload 4, 2, 0, 0, 0) := by decide +kernel
theorem pa_19_161 : pz_at 19 161 = some (161, .invokevirtual 118, 3, 25, 3, 670) := by decide +kernel
theorem pa_19_164 : pz_at 19 164 = some (164, .goto 33, 3, 197, 0, 0) := by decide +kernel
theorem pa_19_167 : pz_at 19 167 = some (167, .iload 6, 2, 0, 0, 0) := by decide +kernel
theorem pa_19_169 : pz_at 19 169 = some (169, .bipush 29, 2, 0, 0, 0) := by decide +kernel
theorem pa_19_17 : pz_at 19 17 = some (17, .lconst 0, 1, 0, 0, 0) := by decide +kernel
theorem pa_19_171 : pz_at 19 171 = some (171, .if_icmp .lt 16, 3, 187, 0, 0) := by decide +kernel
theorem pa_19_174 : pz_at 19 174 = some (174, .aload_n 0, 1, 0, 0, 0) := by decide +kernel
theorem pa_19_175 : pz_at 19 175 = some (175, .iload_n 1, 1, 0, 0, 0) := by decide +kernel
theorem pa_19_176 : pz_at 19 176 = some (176, .iload_n 2, 1, 0, 0, 0) := by decide +kernel
theorem pa_19_177 : pz_at 19 177 = some (177, .lload 4, 2, 0, 0, 0) := by decide +kernel
theorem pa_19_179 : pz_at 19 179 = some (179, .invokevirtual 121, 3, 26, 3, 674) := by decide +kernel
theorem pa_19_18 : pz_at 19 18 = some (18, .lcmp, 1, 0, 0, 0) := by decide +kernel
theorem pa_19_182 : pz_at 19 182 = some (182, .istore 7, 2, 0, 0, 0) := by decide +kernel
theorem pa_19_184 : pz_at 19 184 = some (184, .goto 13, 3, 197, 0, 0) := by decide +kernel
theorem pa_19_187 : pz_at 19 187 = some (187, .aload_n 0, 1, 0, 0, 0) := by decide +kernel
theorem pa_19_188 : pz_at 19 188 = some (188, .iload_n 1, 1, 0, 0, 0) := by decide +kernel
theorem pa_19_189 : pz_at 19 189 = some (189, .iload_n 2, 1, 0, 0, 0) := by decide +kernel
theorem pa_19_19 : pz_at 19 19 = some (19, .ifCond .ne 4, 3, 23, 0, 0) := by decide +kernel
theorem pa_19_190 : pz_at 19 190 = some (190, .lload 4, 2, 0, 0, 0) := by decide +kernel
theorem pa_19_192 : pz_at 19 192 = some (192, .invokevirtual 124, 3, 20, 3, 678) := by decide +kernel
theorem pa_19_195 : pz_at 19 195 = some (195, .istore 7, 2, 0, 0, 0) := by decide +kernel
theorem pa_19_197 : pz_at 19 197 = some (197, .aload_n 0, 1, 0, 0, 0) := by decide +kernel
theorem pa_19_198 : pz_at 19 198 = some (198, .iload_n 1, 1, 0, 0, 0) := by decide +kernel
theorem pa_19_199 : pz_at 19 199 = some (199, .iload_n 2, 1, 0, 0, 0) := by decide +kernel
theorem pa_19_200 : pz_at 19 200 = some (200, .iload 7, 2, 0, 0, 0) := by decide +kernel
theorem pa_19_202 : pz_at 19 202 = some (202, .invokevirtual 127, 3, 17, 3, 682) := by decide +kernel
theorem pa_19_205 : pz_at 19 205 = some (205, .return_, 1, 0, 0, 0) := by decide +kernel
theorem pa_19_22 : pz_at 19 22 = some (22, .return_, 1, 0, 0, 0) := by decide +kernel
theorem pa_19_23 : pz_at 19 23 = some (23, .aload_n 0, 1, 0, 0, 0) := by decide +kernel
theorem pa_19_24 : pz_at 19 24 = some (24, .getfield 35, 3, 1, 0, 247) := by decide +kernel
theorem pa_19_27 : pz_at 19 27 = some (27, .getfield 102, 3, 4, 12, 150) := by decide +kernel
theorem pa_19_3 : pz_at 19 3 = some (3, .imul, 1, 0, 0, 0) := by decide +kernel
theorem pa_19_30 : pz_at 19 30 = some (30, .iload_n 3, 1, 0, 0, 0) := by decide +kernel
theorem pa_19_31 : pz_at 19 31 = some (31, .iaload, 1, 0, 0, 0) := by decide +kernel
theorem pa_19_32 : pz_at 19 32 = some (32, .istore 6, 2, 0, 0, 0) := by decide +kernel
theorem pa_19_34 : pz_at 19 34 = some (34, .iconst 0, 1, 0, 0, 0) := by decide +kernel
theorem pa_19_35 : pz_at 19 35 = some (35, .istore 7, 2, 0, 0, 0) := by decide +kernel
theorem pa_19_37 : pz_at 19 37 = some (37, .iload 6, 2, 0, 0, 0) := by decide +kernel
theorem pa_19_39 : pz_at 19 39 = some (39, .bipush 10, 2, 0, 0, 0) := by decide +kernel
theorem pa_19_4 : pz_at 19 4 = some (4, .iload_n 2, 1, 0, 0, 0) := by decide +kernel
theorem pa_19_41 : pz_at 19 41 = some (41, .if_icmp .lt 10, 3, 51, 0, 0) := by decide +kernel
theorem pa_19_44 : pz_at 19 44 = some (44, .iload 6, 2, 0, 0, 0) := by decide +kernel
theorem pa_19_46 : pz_at 19 46 = some (46, .bipush 15, 2, 0, 0, 0) := by decide +kernel
theorem pa_19_48 : pz_at 19 48 = some (48, .if_icmp .le 10, 3, 58, 0, 0) := by decide +kernel
theorem pa_19_5 : pz_at 19 5 = some (5, .iadd, 1, 0, 0, 0) := by decide +kernel
theorem pa_19_51 : pz_at 19 51 = some (51, .iload 6, 2, 0, 0, 0) := by decide +kernel
theorem pa_19_53 : pz_at 19 53 = some (53, .bipush 20, 2, 0, 0, 0) := by decide +kernel
theorem pa_19_55 : pz_at 19 55 = some (55, .if_icmp .ne 16, 3, 71, 0, 0) := by decide +kernel
theorem pa_19_58 : pz_at 19 58 = some (58, .aload_n 0, 1, 0, 0, 0) := by decide +kernel
theorem pa_19_59 : pz_at 19 59 = some (59, .iload_n 1, 1, 0, 0, 0) := by decide +kernel
theorem pa_19_6 : pz_at 19 6 = some (6, .istore_n 3, 1, 0, 0, 0) := by decide +kernel
theorem pa_19_60 : pz_at 19 60 = some (60, .iload_n 2, 1, 0, 0, 0) := by decide +kernel
theorem pa_19_61 : pz_at 19 61 = some (61, .lload 4, 2, 0, 0, 0) := by decide +kernel
theorem pa_19_63 : pz_at 19 63 = some (63, .invokevirtual 105, 3, 21, 3, 643) := by decide +kernel
theorem pa_19_66 : pz_at 19 66 = some (66, .istore 7, 2, 0, 0, 0) := by decide +kernel
theorem pa_19_68 : pz_at 19 68 = some (68, .goto 129, 3, 197, 0, 0) := by decide +kernel
theorem pa_19_7 : pz_at 19 7 = some (7, .aload_n 0, 1, 0, 0, 0) := by decide +kernel
theorem pa_19_71 : pz_at 19 71 = some (71, .iload 6, 2, 0, 0, 0) := by decide +kernel
theorem pa_19_73 : pz_at 19 73 = some (73, .bipush 16, 2, 0, 0, 0) := by decide +kernel
theorem pa_19_75 : pz_at 19 75 = some (75, .if_icmp .lt 21, 3, 96, 0, 0) := by decide +kernel
theorem pa_19_78 : pz_at 19 78 = some (78, .iload 6, 2, 0, 0, 0) := by decide +kernel
theorem pa_19_8 : pz_at 19 8 = some (8, .getfield 9, 3, 1, 1, 248) := by decide +kernel
theorem pa_19_80 : pz_at 19 80 = some (80, .bipush 19, 2, 0, 0, 0) := by decide +kernel
theorem pa_19_82 : pz_at 19 82 = some (82, .if_icmp .gt 14, 3, 96, 0, 0) := by decide +kernel
theorem pa_19_85 : pz_at 19 85 = some (85, .aload_n 0, 1, 0, 0, 0) := by decide +kernel
theorem pa_19_86 : pz_at 19 86 = some (86, .iload_n 1, 1, 0, 0, 0) := by decide +kernel
theorem pa_19_87 : pz_at 19 87 = some (87, .iload_n 2, 1, 0, 0, 0) := by decide +kernel
theorem pa_19_88 : pz_at 19 88 = some (88, .lload 4, 2, 0, 0, 0) := by decide +kernel
theorem pa_19_90 : pz_at 19 90 = some (90, .invokevirtual 109, 3, 22, 3, 654) := by decide +kernel
theorem pa_19_93 : pz_at 19 93 = some (93, .goto 104, 3, 197, 0, 0) := by decide +kernel
theorem pa_19_96 : pz_at 19 96 = some (96, .iload 6, 2, 0, 0, 0) := by decide +kernel
theorem pa_19_98 : pz_at 19 98 = some (98, .bipush 21, 2, 0, 0, 0) := by decide +kernel
theorem pf_1_4_12 : pz_gf 1 4 12 = some (some 10) := by decide +kernel
theorem pf_1_4_15 : pz_gf 1 4 15 = some (some 13) := by decide +kernel
theorem pg_10 : pz_ga 10 = some (.int, 240) := by decide +kernel
theorem pg_13 : pz_ga 13 = some (.int, 240) := by decide +kernel
theorem pm_17 : pz_mi 17 = (1, 6, none) := by decide +kernel
theorem pm_20 : pz_mi 20 = (1, 10, (some .int)) := by decide +kernel
theorem pm_21 : pz_mi 21 = (1, 15, (some .int)) := by decide +kernel
theorem pm_22 : pz_mi 22 = (1, 9, none) := by decide +kernel
theorem pm_23 : pz_mi 23 = (1, 10, (some .int)) := by decide +kernel
theorem pm_25 : pz_mi 25 = (1, 14, none) := by decide +kernel
theorem pm_26 : pz_mi 26 = (1, 7, (some .int)) := by decide +kernel
theorem pr_19 : (pz_mi 19).2.2 = none := by decide +kernel
theorem pa_20_0 : pz_at 20 0 = some (0, .iload_n 1, 1, 0, 0, 0) := by decide +kernel
theorem pa_20_1 : pz_at 20 1 = some (1, .bipush 24, 2, 0, 0, 0) := by decide +kernel
theorem pa_20_12 : pz_at 20 12 = some (12, .getfield 131, 3, 4, 13, 153) := by decide +kernel
theorem pa_20_128 : pz_at 20 128 = some (128, .iconst 2, 1, 0, 0, 0) := by decide +kernel
theorem pa_20_129 : pz_at 20 129 = some (129, .istore 9, 2, 0, 0, 0) := by decide +kernel
theorem pa_20_131 : pz_at 20 131 = some (131, .goto 75, 3, 206, 0, 0) := by decide +kernel
theorem pa_20_134 : pz_at 20 134 = some (134, .lload_n 3, 1, 0, 0, 0) := by decide +kernel
theorem pa_20_135 : pz_at 20 135 = some (135, .iload 6, 2, 0, 0, 0) := by decide +kernel
theorem pa_20_137 : pz_at 20 137 = some (137, .iconst 1, 1, 0, 0, 0) := by decide +kernel
theorem pa_20_138 : pz_at 20 138 = some (138, .invokestatic 87, 3, 4, 3, 622) := by decide +kernel
theorem pa_20_141 : pz_at 20 141 = some (141, .lstore 7, 2, 0, 0, 0) := by decide +kernel
theorem pa_20_143 : pz_at 20 143 = some (143, .goto 63, 3, 206, 0, 0) := by decide +kernel
theorem pa_20_146 : pz_at 20 146 = some (146, .lload_n 3, 1, 0, 0, 0) := by decide +kernel
theorem pa_20_147 : pz_at 20 147 = some (147, .iload 6, 2, 0, 0, 0) := by decide +kernel
theorem pa_20_149 : pz_at 20 149 = some (149, .lload_n 3, 1, 0, 0, 0) := by decide +kernel
theorem pa_20_15 : pz_at 20 15 = some (15, .iload 5, 2, 0, 0, 0) := by decide +kernel
theorem pa_20_150 : pz_at 20 150 = some (150, .aload_n 0, 1, 0, 0, 0) := by decide +kernel
theorem pa_20_151 : pz_at 20 151 = some (151, .getfield 35, 3, 1, 0, 247) := by decide +kernel
theorem pa_20_154 : pz_at 20 154 = some (154, .getfield 134, 3, 4, 14, 156) := by decide +kernel
theorem pa_20_157 : pz_at 20 157 = some (157, .iload 5, 2, 0, 0, 0) := by decide +kernel
theorem pa_20_159 : pz_at 20 159 = some (159, .iaload, 1, 0, 0, 0) := by decide +kernel
theorem pa_20_160 : pz_at 20 160 = some (160, .invokestatic 137, 3, 3, 2, 647) := by decide +kernel
theorem pa_20_163 : pz_at 20 163 = some (163, .invokestatic 87, 3, 4, 3, 622) := by decide +kernel
theorem pa_20_166 : pz_at 20 166 = some (166, .lstore 7, 2, 0, 0, 0) := by decide +kernel
theorem pa_20_168 : pz_at 20 168 = some (168, .goto 38, 3, 206, 0, 0) := by decide +kernel
theorem pa_20_17 : pz_at 20 17 = some (17, .iaload, 1, 0, 0, 0) := by decide +kernel
theorem pa_20_171 : pz_at 20 171 = some (171, .lload_n 3, 1, 0, 0, 0) := by decide +kernel
theorem pa_20_172 : pz_at 20 172 = some (172, .iload 6, 2, 0, 0, 0) := by decide +kernel
theorem pa_20_174 : pz_at 20 174 = some (174, .iconst 2, 1, 0, 0, 0) := by decide +kernel
theorem pa_20_175 : pz_at 20 175 = some (175, .invokestatic 87, 3, 4, 3, 622) := by decide +kernel
theorem pa_20_178 : pz_at 20 178 = some (178, .lstore 7, 2, 0, 0, 0) := by decide +kernel
theorem pa_20_18 : pz_at 20 18 = some (18, .istore 6, 2, 0, 0, 0) := by decide +kernel
theorem pa_20_180 : pz_at 20 180 = some (180, .goto 26, 3, 206, 0, 0) := by decide +kernel
theorem pa_20_183 : pz_at 20 183 = some (183, .iconst 4, 1, 0, 0, 0) := by decide +kernel
theorem pa_20_184 : pz_at 20 184 = some (184, .istore 9, 2, 0, 0, 0) := by decide +kernel
theorem pa_20_186 : pz_at 20 186 = some (186, .lload_n 3, 1, 0, 0, 0) := by decide +kernel
theorem pa_20_187 : pz_at 20 187 = some (187, .iload 6, 2, 0, 0, 0) := by decide +kernel
theorem pa_20_189 : pz_at 20 189 = some (189, .iconst 2, 1, 0, 0, 0) := by decide +kernel
theorem pa_20_190 : pz_at 20 190 = some (190, .invokestatic 87, 3, 4, 3, 622) := by decide +kernel
theorem pa_20_193 : pz_at 20 193 = some (193, .lstore 7, 2, 0, 0, 0) := by decide +kernel
theorem pa_20_195 : pz_at 20 195 = some (195, .goto 11, 3, 206, 0, 0) := by decide +kernel
theorem pa_20_198 : pz_at 20 198 = some (198, .aload_n 0, 1, 0, 0, 0) := by decide +kernel
theorem pa_20_199 : pz_at 20 199 = some (199, .iload_n 1, 1, 0, 0, 0) := by decide +kernel
theorem pa_20_20 : pz_at 20 20 = some (20, .lload_n 3, 1, 0, 0, 0) := by decide +kernel
theorem pa_20_200 : pz_at 20 200 = some (200, .invokevirtual 141, 3, 16, 1, 662) := by decide +kernel
theorem pa_20_203 : pz_at 20 203 = some (203, .goto 3, 3, 206, 0, 0) := by decide +kernel
theorem pa_20_206 : pz_at 20 206 = some (206, .aload_n 0, 1, 0, 0, 0) := by decide +kernel
theorem pa_20_207 : pz_at 20 207 = some (207, .iload_n 1, 1, 0, 0, 0) := by decide +kernel
theorem pa_20_208 : pz_at 20 208 = some (208, .iload_n 2, 1, 0, 0, 0) := by decide +kernel
theorem pa_20_209 : pz_at 20 209 = some (209, .iconst 1, 1, 0, 0, 0) := by decide +kernel
theorem pa_20_21 : pz_at 20 21 = some (21, .lstore 7, 2, 0, 0, 0) := by decide +kernel
theorem pa_20_210 : pz_at 20 210 = some (210, .iadd, 1, 0, 0, 0) := by decide +kernel
theorem pa_20_211 : pz_at 20 211 = some (211, .lload 7, 2, 0, 0, 0) := by decide +kernel
theorem pa_20_213 : pz_at 20 213 = some (213, .invokevirtual 73, 3, 13, 3, 627) := by decide +kernel
theorem pa_20_216 : pz_at 20 216 = some (216, .iload 9, 2, 0, 0, 0) := by decide +kernel
theorem pa_20_218 : pz_at 20 218 = some (218, .ireturn, 1, 0, 0, 0) := by decide +kernel
theorem pa_20_23 : pz_at 20 23 = some (23, .iconst 0, 1, 0, 0, 0) := by decide +kernel
theorem pa_20_24 : pz_at 20 24 = some (24, .istore 9, 2, 0, 0, 0) := by decide +kernel
theorem pa_20_26 : pz_at 20 26 = some (26, .aload_n 0, 1, 0, 0, 0) := by decide +kernel
theorem pa_20_27 : pz_at 20 27 = some (27, .getfield 35, 3, 1, 0, 247) := by decide +kernel
theorem pa_20_3 : pz_at 20 3 = some (3, .imul, 1, 0, 0, 0) := by decide +kernel
theorem pa_20_30 : pz_at 20 30 = some (30, .getfield 102, 3, 4, 12, 150) := by decide +kernel
theorem pa_20_33 : pz_at 20 33 = some (33, .iload 5, 2, 0, 0, 0) := by decide +kernel
theorem pa_20_35 : pz_at 20 35 = some (35, .iaload, 1, 0, 0, 0) := by decide +kernel
theorem pa_20_36 : pz_at 20 36 = some (36, .tableswitch 170 4 22 #[92, 92, 98, 110, 135, 147, 170, 170, 170, 170, 170, 170, 170, 170, 170, 170, 170, 170, 162], 92, 0, 0, 0) := by decide +kernel
theorem pa_20_4 : pz_at 20 4 = some (4, .iload_n 2, 1, 0, 0, 0) := by decide +kernel
theorem pa_20_5 : pz_at 20 5 = some (5, .iadd, 1, 0, 0, 0) := by decide +kernel
theorem pa_20_6 : pz_at 20 6 = some (6, .istore 5, 2, 0, 0, 0) := by decide +kernel
theorem pa_20_8 : pz_at 20 8 = some (8, .aload_n 0, 1, 0, 0, 0) := by decide +kernel
theorem pa_20_9 : pz_at 20 9 = some (9, .getfield 35, 3, 1, 0, 247) := by decide +kernel
theorem pf_1_4_13 : pz_gf 1 4 13 = some (some 11) := by decide +kernel
theorem pf_1_4_14 : pz_gf 1 4 14 = some (some 12) := by decide +kernel
theorem pg_11 : pz_ga 11 = some (.int, 240) := by decide +kernel
theorem pg_12 : pz_ga 12 = some (.int, 240) := by decide +kernel
theorem pm_16 : pz_mi 16 = (1, 2, none) := by decide +kernel
theorem pm_3 : pz_mi 3 = (1, 3, (some .int)) := by decide +kernel
theorem pr_20 : (pz_mi 20).2.2 = (some .int) := by decide +kernel
theorem pa_21_0 : pz_at 21 0 = some (0, .iload_n 1, 1, 0, 0, 0) := by decide +kernel
theorem pa_21_1 : pz_at 21 1 = some (1, .bipush 24, 2, 0, 0, 0) := by decide +kernel
theorem pa_21_100 : pz_at 21 100 = some (100, .iload 9, 2, 0, 0, 0) := by decide +kernel
theorem pa_21_102 : pz_at 21 102 = some (102, .invokestatic 137, 3, 3, 2, 647) := by decide +kernel
theorem pa_21_105 : pz_at 21 105 = some (105, .istore 10, 2, 0, 0, 0) := by decide +kernel
theorem pa_21_107 : pz_at 21 107 = some (107, .iload 10, 2, 0, 0, 0) := by decide +kernel
theorem pa_21_109 : pz_at 21 109 = some (109, .bipush (-2), 2, 0, 0, 0) := by decide +kernel
theorem pa_21_111 : pz_at 21 111 = some (111, .iand, 1, 0, 0, 0) := by decide +kernel
theorem pa_21_112 : pz_at 21 112 = some (112, .istore 11, 2, 0, 0, 0) := by decide +kernel
theorem pa_21_114 : pz_at 21 114 = some (114, .iload 11, 2, 0, 0, 0) := by decide +kernel
theorem pa_21_116 : pz_at 21 116 = some (116, .iload 10, 2, 0, 0, 0) := by decide +kernel
theorem pa_21_118 : pz_at 21 118 = some (118, .if_icmp .ne 7, 3, 125, 0, 0) := by decide +kernel
theorem pa_21_12 : pz_at 21 12 = some (12, .getfield 102, 3, 4, 12, 150) := by decide +kernel
theorem pa_21_121 : pz_at 21 121 = some (121, .iconst 0, 1, 0, 0, 0) := by decide +kernel
theorem pa_21_122 : pz_at 21 122 = some (122, .goto 5, 3, 127, 0, 0) := by decide +kernel
theorem pa_21_125 : pz_at 21 125 = some (125, .bipush 8, 2, 0, 0, 0) := by decide +kernel
theorem pa_21_127 : pz_at 21 127 = some (127, .istore 12, 2, 0, 0, 0) := by decide +kernel
theorem pa_21_129 : pz_at 21 129 = some (129, .iload 11, 2, 0, 0, 0) := by decide +kernel
theorem pa_21_131 : pz_at 21 131 = some (131, .ifCond .ne 6, 3, 137, 0, 0) := by decide +kernel
theorem pa_21_134 : pz_at 21 134 = some (134, .iload 12, 2, 0, 0, 0) := by decide +kernel
theorem pa_21_136 : pz_at 21 136 = some (136, .ireturn, 1, 0, 0, 0) := by decide +kernel
theorem pa_21_137 : pz_at 21 137 = some (137, .iload 6, 2, 0, 0, 0) := by decide +kernel
theorem pa_21_139 : pz_at 21 139 = some (139, .bipush 20, 2, 0, 0, 0) := by decide +kernel
theorem pa_21_141 : pz_at 21 141 = some (141, .if_icmp .eq 48, 3, 189, 0, 0) := by decide +kernel
theorem pa_21_144 : pz_at 21 144 = some (144, .aload_n 0, 1, 0, 0, 0) := by decide +kernel
theorem pa_21_145 : pz_at 21 145 = some (145, .iload 7, 2, 0, 0, 0) := by decide +kernel
theorem pa_21_147 : pz_at 21 147 = some (147, .ifCond .eq 10, 3, 157, 0, 0) := by decide +kernel
theorem pa_21_15 : pz_at 21 15 = some (15, .iload 5, 2, 0, 0, 0) := by decide +kernel
theorem pa_21_150 : pz_at 21 150 = some (150, .aload_n 0, 1, 0, 0, 0) := by decide +kernel
theorem pa_21_151 : pz_at 21 151 = some (151, .getfield 19, 3, 1, 3, 253) := by decide +kernel
theorem pa_21_154 : pz_at 21 154 = some (154, .goto 7, 3, 161, 0, 0) := by decide +kernel
theorem pa_21_157 : pz_at 21 157 = some (157, .aload_n 0, 1, 0, 0, 0) := by decide +kernel
theorem pa_21_158 : pz_at 21 158 = some (158, .getfield 15, 3, 1, 2, 250) := by decide +kernel
theorem pa_21_161 : pz_at 21 161 = some (161, .iload_n 1, 1, 0, 0, 0) := by decide +kernel
theorem pa_21_162 : pz_at 21 162 = some (162, .iload 11, 2, 0, 0, 0) := by decide +kernel
theorem pa_21_164 : pz_at 21 164 = some (164, .iconst 1, 1, 0, 0, 0) := by decide +kernel
theorem pa_21_165 : pz_at 21 165 = some (165, .iload 8, 2, 0, 0, 0) := by decide +kernel
theorem pa_21_167 : pz_at 21 167 = some (167, .ifCond .eq 8, 3, 175, 0, 0) := by decide +kernel
theorem pa_21_17 : pz_at 21 17 = some (17, .iaload, 1, 0, 0, 0) := by decide +kernel
theorem pa_21_170 : pz_at 21 170 = some (170, .bipush 24, 2, 0, 0, 0) := by decide +kernel
theorem pa_21_172 : pz_at 21 172 = some (172, .goto 13, 3, 185, 0, 0) := by decide +kernel
theorem pa_21_175 : pz_at 21 175 = some (175, .aload_n 0, 1, 0, 0, 0) := by decide +kernel
theorem pa_21_176 : pz_at 21 176 = some (176, .getfield 35, 3, 1, 0, 247) := by decide +kernel
theorem pa_21_179 : pz_at 21 179 = some (179, .getfield 115, 3, 4, 15, 159) := by decide +kernel
theorem pa_21_18 : pz_at 21 18 = some (18, .istore 6, 2, 0, 0, 0) := by decide +kernel
theorem pa_21_182 : pz_at 21 182 = some (182, .iload 5, 2, 0, 0, 0) := by decide +kernel
theorem pa_21_184 : pz_at 21 184 = some (184, .iaload, 1, 0, 0, 0) := by decide +kernel
theorem pa_21_185 : pz_at 21 185 = some (185, .ishl, 1, 0, 0, 0) := by decide +kernel
theorem pa_21_186 : pz_at 21 186 = some (186, .invokevirtual 145, 3, 18, 4, 650) := by decide +kernel
theorem pa_21_189 : pz_at 21 189 = some (189, .lload_n 3, 1, 0, 0, 0) := by decide +kernel
theorem pa_21_190 : pz_at 21 190 = some (190, .iload 9, 2, 0, 0, 0) := by decide +kernel
theorem pa_21_192 : pz_at 21 192 = some (192, .iload 11, 2, 0, 0, 0) := by decide +kernel
theorem pa_21_194 : pz_at 21 194 = some (194, .invokestatic 87, 3, 4, 3, 622) := by decide +kernel
theorem pa_21_197 : pz_at 21 197 = some (197, .lstore 13, 2, 0, 0, 0) := by decide +kernel
theorem pa_21_199 : pz_at 21 199 = some (199, .aload_n 0, 1, 0, 0, 0) := by decide +kernel
theorem pa_21_20 : pz_at 21 20 = some (20, .iload 6, 2, 0, 0, 0) := by decide +kernel
theorem pa_21_200 : pz_at 21 200 = some (200, .iload_n 1, 1, 0, 0, 0) := by decide +kernel
theorem pa_21_201 : pz_at 21 201 = some (201, .iload_n 2, 1, 0, 0, 0) := by decide +kernel
theorem pa_21_202 : pz_at 21 202 = some (202, .iconst 1, 1, 0, 0, 0) := by decide +kernel
theorem pa_21_203 : pz_at 21 203 = some (203, .iadd, 1, 0, 0, 0) := by decide +kernel
theorem pa_21_204 : pz_at 21 204 = some (204, .iload 6, 2, 0, 0, 0) := by decide +kernel
theorem pa_21_206 : pz_at 21 206 = some (206, .bipush 12, 2, 0, 0, 0) := by decide +kernel
theorem pa_21_208 : pz_at 21 208 = some (208, .if_icmp .ne 23, 3, 231, 0, 0) := by decide +kernel
theorem pa_21_211 : pz_at 21 211 = some (211, .lload 13, 2, 0, 0, 0) := by decide +kernel
theorem pa_21_213 : pz_at 21 213 = some (213, .aload_n 0, 1, 0, 0, 0) := by decide +kernel
theorem pa_21_214 : pz_at 21 214 = some (214, .getfield 35, 3, 1, 0, 247) := by decide +kernel
theorem pa_21_217 : pz_at 21 217 = some (217, .getfield 131, 3, 4, 13, 153) := by decide +kernel
theorem pa_21_22 : pz_at 21 22 = some (22, .bipush 11, 2, 0, 0, 0) := by decide +kernel
theorem pa_21_220 : pz_at 21 220 = some (220, .iload 5, 2, 0, 0, 0) := by decide +kernel
theorem pa_21_222 : pz_at 21 222 = some (222, .iaload, 1, 0, 0, 0) := by decide +kernel
theorem pa_21_223 : pz_at 21 223 = some (223, .bipush 33, 2, 0, 0, 0) := by decide +kernel
theorem pa_21_225 : pz_at 21 225 = some (225, .invokestatic 87, 3, 4, 3, 622) := by decide +kernel
theorem pa_21_228 : pz_at 21 228 = some (228, .goto 5, 3, 233, 0, 0) := by decide +kernel
theorem pa_21_231 : pz_at 21 231 = some (231, .lload 13, 2, 0, 0, 0) := by decide +kernel
theorem pa_21_233 : pz_at 21 233 = some (233, .invokevirtual 73, 3, 13, 3, 627) := by decide +kernel
theorem pa_21_236 : pz_at 21 236 = some (236, .iload 12, 2, 0, 0, 0) := by decide +kernel
theorem pa_21_238 : pz_at 21 238 = some (238, .bipush 32, 2, 0, 0, 0) := by decide +kernel
theorem pa_21_24 : pz_at 21 24 = some (24, .if_icmp .eq 17, 3, 41, 0, 0) := by decide +kernel
theorem pa_21_240 : pz_at 21 240 = some (240, .ior, 1, 0, 0, 0) := by decide +kernel
theorem pa_21_241 : pz_at 21 241 = some (241, .iload 8, 2, 0, 0, 0) := by decide +kernel
theorem pa_21_243 : pz_at 21 243 = some (243, .ifCond .eq 8, 3, 251, 0, 0) := by decide +kernel
theorem pa_21_246 : pz_at 21 246 = some (246, .bipush 16, 2, 0, 0, 0) := by decide +kernel
theorem pa_21_248 : pz_at 21 248 = some (248, .goto 4, 3, 252, 0, 0) := by decide +kernel
theorem pa_21_251 : pz_at 21 251 = some (251, .iconst 0, 1, 0, 0, 0) := by decide +kernel
theorem pa_21_252 : pz_at 21 252 = some (252, .ior, 1, 0, 0, 0) := by decide +kernel
theorem pa_21_253 : pz_at 21 253 = some (253, .ireturn, 1, 0, 0, 0) := by decide +kernel
theorem pa_21_27 : pz_at 21 27 = some (27, .iload 6, 2, 0, 0, 0) := by decide +kernel
theorem pa_21_29 : pz_at 21 29 = some (29, .bipush 13, 2, 0, 0, 0) := by decide +kernel
theorem pa_21_3 : pz_at 21 3 = some (3, .imul, 1, 0, 0, 0) := by decide +kernel
theorem pa_21_31 : pz_at 21 31 = some (31, .if_icmp .eq 10, 3, 41, 0, 0) := by decide +kernel
theorem pa_21_34 : pz_at 21 34 = some (34, .iload 6, 2, 0, 0, 0) := by decide +kernel
theorem pa_21_36 : pz_at 21 36 = some (36, .bipush 15, 2, 0, 0, 0) := by decide +kernel
theorem pa_21_38 : pz_at 21 38 = some (38, .if_icmp .ne 7, 3, 45, 0, 0) := by decide +kernel
theorem pa_21_4 : pz_at 21 4 = some (4, .iload_n 2, 1, 0, 0, 0) := by decide +kernel
theorem pa_21_41 : pz_at 21 41 = some (41, .iconst 1, 1, 0, 0, 0) := by decide +kernel
theorem pa_21_42 : pz_at 21 42 = some (42, .goto 4, 3, 46, 0, 0) := by decide +kernel
theorem pa_21_45 : pz_at 21 45 = some (45, .iconst 0, 1, 0, 0, 0) := by decide +kernel
theorem pa_21_46 : pz_at 21 46 = some (46, .istore 7, 2, 0, 0, 0) := by decide +kernel
theorem pa_21_48 : pz_at 21 48 = some (48, .iload 6, 2, 0, 0, 0) := by decide +kernel
theorem pa_21_5 : pz_at 21 5 = some (5, .iadd, 1, 0, 0, 0) := by decide +kernel
theorem pa_21_50 : pz_at 21 50 = some (50, .bipush 14, 2, 0, 0, 0) := by decide +kernel
theorem pa_21_52 : pz_at 21 52 = some (52, .if_icmp .eq 10, 3, 62, 0, 0) := by decide +kernel
theorem pa_21_55 : pz_at 21 55 = some (55, .iload 6, 2, 0, 0, 0) := by decide +kernel
theorem pa_21_57 : pz_at 21 57 = some (57, .bipush 15, 2, 0, 0, 0) := by decide +kernel
theorem pa_21_59 : pz_at 21 59 = some (59, .if_icmp .ne 7, 3, 66, 0, 0) := by decide +kernel
theorem pa_21_6 : pz_at 21 6 = some (6, .istore 5, 2, 0, 0, 0) := by decide +kernel
theorem pa_21_62 : pz_at 21 62 = some (62, .iconst 1, 1, 0, 0, 0) := by decide +kernel
theorem pa_21_63 : pz_at 21 63 = some (63, .goto 4, 3, 67, 0, 0) := by decide +kernel
theorem pa_21_66 : pz_at 21 66 = some (66, .iconst 0, 1, 0, 0, 0) := by decide +kernel
theorem pa_21_67 : pz_at 21 67 = some (67, .istore 8, 2, 0, 0, 0) := by decide +kernel
theorem pa_21_69 : pz_at 21 69 = some (69, .iload 7, 2, 0, 0, 0) := by decide +kernel
theorem pa_21_71 : pz_at 21 71 = some (71, .ifCond .eq 16, 3, 87, 0, 0) := by decide +kernel
theorem pa_21_74 : pz_at 21 74 = some (74, .aload_n 0, 1, 0, 0, 0) := by decide +kernel
theorem pa_21_75 : pz_at 21 75 = some (75, .getfield 35, 3, 1, 0, 247) := by decide +kernel
theorem pa_21_78 : pz_at 21 78 = some (78, .getfield 131, 3, 4, 13, 153) := by decide +kernel
theorem pa_21_8 : pz_at 21 8 = some (8, .aload_n 0, 1, 0, 0, 0) := by decide +kernel
theorem pa_21_81 : pz_at 21 81 = some (81, .iload 5, 2, 0, 0, 0) := by decide +kernel
theorem pa_21_83 : pz_at 21 83 = some (83, .iaload, 1, 0, 0, 0) := by decide +kernel
theorem pa_21_84 : pz_at 21 84 = some (84, .goto 13, 3, 97, 0, 0) := by decide +kernel
theorem pa_21_87 : pz_at 21 87 = some (87, .aload_n 0, 1, 0, 0, 0) := by decide +kernel
theorem pa_21_88 : pz_at 21 88 = some (88, .getfield 35, 3, 1, 0, 247) := by decide +kernel
theorem pa_21_9 : pz_at 21 9 = some (9, .getfield 35, 3, 1, 0, 247) := by decide +kernel
theorem pa_21_91 : pz_at 21 91 = some (91, .getfield 134, 3, 4, 14, 156) := by decide +kernel
theorem pa_21_94 : pz_at 21 94 = some (94, .iload 5, 2, 0, 0, 0) := by decide +kernel
theorem pa_21_96 : pz_at 21 96 = some (96, .iaload, 1, 0, 0, 0) := by decide +kernel
theorem pa_21_97 : pz_at 21 97 = some (97, .istore 9, 2, 0, 0, 0) := by decide +kernel
theorem pa_21_99 : pz_at 21 99 = some (99, .lload_n 3, 1, 0, 0, 0) := by decide +kernel
theorem pm_18 : pz_mi 18 = (1, 6, none) := by decide +kernel
theorem pr_21 : (pz_mi 21).2.2 = (some .int) := by decide +kernel
theorem pa_22_0 : pz_at 22 0 = some (0, .iload_n 1, 1, 0, 0, 0) := by decide +kernel
theorem pa_22_1 : pz_at 22 1 = some (1, .bipush 24, 2, 0, 0, 0) := by decide +kernel
theorem pa_22_101 : pz_at 22 101 = some (101, .aload_n 0, 1, 0, 0, 0) := by decide +kernel
theorem pa_22_102 : pz_at 22 102 = some (102, .iload_n 1, 1, 0, 0, 0) := by decide +kernel
theorem pa_22_103 : pz_at 22 103 = some (103, .iload_n 2, 1, 0, 0, 0) := by decide +kernel
theorem pa_22_104 : pz_at 22 104 = some (104, .iconst 1, 1, 0, 0, 0) := by decide +kernel
theorem pa_22_105 : pz_at 22 105 = some (105, .iadd, 1, 0, 0, 0) := by decide +kernel
theorem pa_22_106 : pz_at 22 106 = some (106, .iload 6, 2, 0, 0, 0) := by decide +kernel
theorem pa_22_108 : pz_at 22 108 = some (108, .bipush 18, 2, 0, 0, 0) := by decide +kernel
theorem pa_22_110 : pz_at 22 110 = some (110, .if_icmp .ne 22, 3, 132, 0, 0) := by decide +kernel
theorem pa_22_113 : pz_at 22 113 = some (113, .lload_n 3, 1, 0, 0, 0) := by decide +kernel
theorem pa_22_114 : pz_at 22 114 = some (114, .aload_n 0, 1, 0, 0, 0) := by decide +kernel
theorem pa_22_115 : pz_at 22 115 = some (115, .getfield 35, 3, 1, 0, 247) := by decide +kernel
theorem pa_22_118 : pz_at 22 118 = some (118, .getfield 131, 3, 4, 13, 153) := by decide +kernel
theorem pa_22_12 : pz_at 22 12 = some (12, .getfield 102, 3, 4, 12, 150) := by decide +kernel
theorem pa_22_121 : pz_at 22 121 = some (121, .iload 5, 2, 0, 0, 0) := by decide +kernel
theorem pa_22_123 : pz_at 22 123 = some (123, .iaload, 1, 0, 0, 0) := by decide +kernel
theorem pa_22_124 : pz_at 22 124 = some (124, .bipush 33, 2, 0, 0, 0) := by decide +kernel
theorem pa_22_126 : pz_at 22 126 = some (126, .invokestatic 87, 3, 4, 3, 622) := by decide +kernel
theorem pa_22_129 : pz_at 22 129 = some (129, .goto 4, 3, 133, 0, 0) := by decide +kernel
theorem pa_22_132 : pz_at 22 132 = some (132, .lload_n 3, 1, 0, 0, 0) := by decide +kernel
theorem pa_22_133 : pz_at 22 133 = some (133, .invokevirtual 73, 3, 13, 3, 627) := by decide +kernel
theorem pa_22_136 : pz_at 22 136 = some (136, .return_, 1, 0, 0, 0) := by decide +kernel
theorem pa_22_15 : pz_at 22 15 = some (15, .iload 5, 2, 0, 0, 0) := by decide +kernel
theorem pa_22_17 : pz_at 22 17 = some (17, .iaload, 1, 0, 0, 0) := by decide +kernel
theorem pa_22_18 : pz_at 22 18 = some (18, .istore 6, 2, 0, 0, 0) := by decide +kernel
theorem pa_22_20 : pz_at 22 20 = some (20, .iload 6, 2, 0, 0, 0) := by decide +kernel
theorem pa_22_22 : pz_at 22 22 = some (22, .bipush 17, 2, 0, 0, 0) := by decide +kernel
theorem pa_22_24 : pz_at 22 24 = some (24, .if_icmp .eq 10, 3, 34, 0, 0) := by decide +kernel
theorem pa_22_27 : pz_at 22 27 = some (27, .iload 6, 2, 0, 0, 0) := by decide +kernel
theorem pa_22_29 : pz_at 22 29 = some (29, .bipush 19, 2, 0, 0, 0) := by decide +kernel
theorem pa_22_3 : pz_at 22 3 = some (3, .imul, 1, 0, 0, 0) := by decide +kernel
theorem pa_22_31 : pz_at 22 31 = some (31, .if_icmp .ne 7, 3, 38, 0, 0) := by decide +kernel
theorem pa_22_34 : pz_at 22 34 = some (34, .iconst 1, 1, 0, 0, 0) := by decide +kernel
theorem pa_22_35 : pz_at 22 35 = some (35, .goto 4, 3, 39, 0, 0) := by decide +kernel
theorem pa_22_38 : pz_at 22 38 = some (38, .iconst 0, 1, 0, 0, 0) := by decide +kernel
theorem pa_22_39 : pz_at 22 39 = some (39, .istore 7, 2, 0, 0, 0) := by decide +kernel
theorem pa_22_4 : pz_at 22 4 = some (4, .iload_n 2, 1, 0, 0, 0) := by decide +kernel
theorem pa_22_41 : pz_at 22 41 = some (41, .iload 7, 2, 0, 0, 0) := by decide +kernel
theorem pa_22_43 : pz_at 22 43 = some (43, .ifCond .eq 16, 3, 59, 0, 0) := by decide +kernel
theorem pa_22_46 : pz_at 22 46 = some (46, .aload_n 0, 1, 0, 0, 0) := by decide +kernel
theorem pa_22_47 : pz_at 22 47 = some (47, .getfield 35, 3, 1, 0, 247) := by decide +kernel
theorem pa_22_5 : pz_at 22 5 = some (5, .iadd, 1, 0, 0, 0) := by decide +kernel
theorem pa_22_50 : pz_at 22 50 = some (50, .getfield 131, 3, 4, 13, 153) := by decide +kernel
theorem pa_22_53 : pz_at 22 53 = some (53, .iload 5, 2, 0, 0, 0) := by decide +kernel
theorem pa_22_55 : pz_at 22 55 = some (55, .iaload, 1, 0, 0, 0) := by decide +kernel
theorem pa_22_56 : pz_at 22 56 = some (56, .goto 13, 3, 69, 0, 0) := by decide +kernel
theorem pa_22_59 : pz_at 22 59 = some (59, .aload_n 0, 1, 0, 0, 0) := by decide +kernel
theorem pa_22_6 : pz_at 22 6 = some (6, .istore 5, 2, 0, 0, 0) := by decide +kernel
theorem pa_22_60 : pz_at 22 60 = some (60, .getfield 35, 3, 1, 0, 247) := by decide +kernel
theorem pa_22_63 : pz_at 22 63 = some (63, .getfield 134, 3, 4, 14, 156) := by decide +kernel
theorem pa_22_66 : pz_at 22 66 = some (66, .iload 5, 2, 0, 0, 0) := by decide +kernel
theorem pa_22_68 : pz_at 22 68 = some (68, .iaload, 1, 0, 0, 0) := by decide +kernel
theorem pa_22_69 : pz_at 22 69 = some (69, .istore 8, 2, 0, 0, 0) := by decide +kernel
theorem pa_22_71 : pz_at 22 71 = some (71, .aload_n 0, 1, 0, 0, 0) := by decide +kernel
theorem pa_22_72 : pz_at 22 72 = some (72, .iload 7, 2, 0, 0, 0) := by decide +kernel
theorem pa_22_74 : pz_at 22 74 = some (74, .ifCond .eq 10, 3, 84, 0, 0) := by decide +kernel
theorem pa_22_77 : pz_at 22 77 = some (77, .aload_n 0, 1, 0, 0, 0) := by decide +kernel
theorem pa_22_78 : pz_at 22 78 = some (78, .getfield 19, 3, 1, 3, 253) := by decide +kernel
theorem pa_22_8 : pz_at 22 8 = some (8, .aload_n 0, 1, 0, 0, 0) := by decide +kernel
theorem pa_22_81 : pz_at 22 81 = some (81, .goto 7, 3, 88, 0, 0) := by decide +kernel
theorem pa_22_84 : pz_at 22 84 = some (84, .aload_n 0, 1, 0, 0, 0) := by decide +kernel
theorem pa_22_85 : pz_at 22 85 = some (85, .getfield 15, 3, 1, 2, 250) := by decide +kernel
theorem pa_22_88 : pz_at 22 88 = some (88, .iload_n 1, 1, 0, 0, 0) := by decide +kernel
theorem pa_22_89 : pz_at 22 89 = some (89, .bipush 32, 2, 0, 0, 0) := by decide +kernel
theorem pa_22_9 : pz_at 22 9 = some (9, .getfield 35, 3, 1, 0, 247) := by decide +kernel
theorem pa_22_91 : pz_at 22 91 = some (91, .iconst 1, 1, 0, 0, 0) := by decide +kernel
theorem pa_22_92 : pz_at 22 92 = some (92, .bipush 16, 2, 0, 0, 0) := by decide +kernel
theorem pa_22_94 : pz_at 22 94 = some (94, .iload 8, 2, 0, 0, 0) := by decide +kernel
theorem pa_22_96 : pz_at 22 96 = some (96, .iadd, 1, 0, 0, 0) := by decide +kernel
theorem pa_22_97 : pz_at 22 97 = some (97, .ishl, 1, 0, 0, 0) := by decide +kernel
theorem pa_22_98 : pz_at 22 98 = some (98, .invokevirtual 145, 3, 18, 4, 650) := by decide +kernel
theorem pr_22 : (pz_mi 22).2.2 = none := by decide +kernel
theorem pa_23_0 : pz_at 23 0 = some (0, .iload_n 1, 1, 0, 0, 0) := by decide +kernel
theorem pa_23_1 : pz_at 23 1 = some (1, .bipush 24, 2, 0, 0, 0) := by decide +kernel
theorem pa_23_100 : pz_at 23 100 = some (100, .iload 8, 2, 0, 0, 0) := by decide +kernel
theorem pa_23_102 : pz_at 23 102 = some (102, .iadd, 1, 0, 0, 0) := by decide +kernel
theorem pa_23_103 : pz_at 23 103 = some (103, .iaload, 1, 0, 0, 0) := by decide +kernel
theorem pa_23_104 : pz_at 23 104 = some (104, .invokevirtual 145, 3, 18, 4, 650) := by decide +kernel
theorem pa_23_107 : pz_at 23 107 = some (107, .iinc 8 1, 3, 0, 0, 0) := by decide +kernel
theorem pa_23_110 : pz_at 23 110 = some (110, .goto (-75), 3, 35, 0, 0) := by decide +kernel
theorem pa_23_113 : pz_at 23 113 = some (113, .aload_n 0, 1, 0, 0, 0) := by decide +kernel
theorem pa_23_114 : pz_at 23 114 = some (114, .aload_n 0, 1, 0, 0, 0) := by decide +kernel
theorem pa_23_115 : pz_at 23 115 = some (115, .getfield 15, 3, 1, 2, 250) := by decide +kernel
theorem pa_23_118 : pz_at 23 118 = some (118, .iload_n 1, 1, 0, 0, 0) := by decide +kernel
theorem pa_23_119 : pz_at 23 119 = some (119, .bipush 32, 2, 0, 0, 0) := by decide +kernel
theorem pa_23_12 : pz_at 23 12 = some (12, .getfield 134, 3, 4, 14, 156) := by decide +kernel
theorem pa_23_121 : pz_at 23 121 = some (121, .aload_n 0, 1, 0, 0, 0) := by decide +kernel
theorem pa_23_122 : pz_at 23 122 = some (122, .getfield 15, 3, 1, 2, 250) := by decide +kernel
theorem pa_23_125 : pz_at 23 125 = some (125, .iload 6, 2, 0, 0, 0) := by decide +kernel
theorem pa_23_127 : pz_at 23 127 = some (127, .iconst 4, 1, 0, 0, 0) := by decide +kernel
theorem pa_23_128 : pz_at 23 128 = some (128, .imul, 1, 0, 0, 0) := by decide +kernel
theorem pa_23_129 : pz_at 23 129 = some (129, .iconst 3, 1, 0, 0, 0) := by decide +kernel
theorem pa_23_130 : pz_at 23 130 = some (130, .iadd, 1, 0, 0, 0) := by decide +kernel
theorem pa_23_131 : pz_at 23 131 = some (131, .iaload, 1, 0, 0, 0) := by decide +kernel
theorem pa_23_132 : pz_at 23 132 = some (132, .invokevirtual 145, 3, 18, 4, 650) := by decide +kernel
theorem pa_23_135 : pz_at 23 135 = some (135, .aload_n 0, 1, 0, 0, 0) := by decide +kernel
theorem pa_23_136 : pz_at 23 136 = some (136, .aload_n 0, 1, 0, 0, 0) := by decide +kernel
theorem pa_23_137 : pz_at 23 137 = some (137, .getfield 19, 3, 1, 3, 253) := by decide +kernel
theorem pa_23_140 : pz_at 23 140 = some (140, .iload_n 1, 1, 0, 0, 0) := by decide +kernel
theorem pa_23_141 : pz_at 23 141 = some (141, .bipush 32, 2, 0, 0, 0) := by decide +kernel
theorem pa_23_143 : pz_at 23 143 = some (143, .aload_n 0, 1, 0, 0, 0) := by decide +kernel
theorem pa_23_144 : pz_at 23 144 = some (144, .getfield 19, 3, 1, 3, 253) := by decide +kernel
theorem pa_23_147 : pz_at 23 147 = some (147, .iload 6, 2, 0, 0, 0) := by decide +kernel
theorem pa_23_149 : pz_at 23 149 = some (149, .iconst 4, 1, 0, 0, 0) := by decide +kernel
theorem pa_23_15 : pz_at 23 15 = some (15, .iload 5, 2, 0, 0, 0) := by decide +kernel
theorem pa_23_150 : pz_at 23 150 = some (150, .imul, 1, 0, 0, 0) := by decide +kernel
theorem pa_23_151 : pz_at 23 151 = some (151, .iconst 3, 1, 0, 0, 0) := by decide +kernel
theorem pa_23_152 : pz_at 23 152 = some (152, .iadd, 1, 0, 0, 0) := by decide +kernel
theorem pa_23_153 : pz_at 23 153 = some (153, .iaload, 1, 0, 0, 0) := by decide +kernel
theorem pa_23_154 : pz_at 23 154 = some (154, .invokevirtual 145, 3, 18, 4, 650) := by decide +kernel
theorem pa_23_157 : pz_at 23 157 = some (157, .aload_n 0, 1, 0, 0, 0) := by decide +kernel
theorem pa_23_158 : pz_at 23 158 = some (158, .getfield 28, 3, 1, 6, 259) := by decide +kernel
theorem pa_23_161 : pz_at 23 161 = some (161, .iload 6, 2, 0, 0, 0) := by decide +kernel
theorem pa_23_163 : pz_at 23 163 = some (163, .baload, 1, 0, 0, 0) := by decide +kernel
theorem pa_23_164 : pz_at 23 164 = some (164, .ifCond .eq 8, 3, 172, 0, 0) := by decide +kernel
theorem pa_23_167 : pz_at 23 167 = some (167, .aload_n 0, 1, 0, 0, 0) := by decide +kernel
theorem pa_23_168 : pz_at 23 168 = some (168, .iload_n 1, 1, 0, 0, 0) := by decide +kernel
theorem pa_23_169 : pz_at 23 169 = some (169, .invokevirtual 141, 3, 16, 1, 662) := by decide +kernel
theorem pa_23_17 : pz_at 23 17 = some (17, .iaload, 1, 0, 0, 0) := by decide +kernel
theorem pa_23_172 : pz_at 23 172 = some (172, .aload_n 0, 1, 0, 0, 0) := by decide +kernel
theorem pa_23_173 : pz_at 23 173 = some (173, .getfield 32, 3, 1, 7, 261) := by decide +kernel
theorem pa_23_176 : pz_at 23 176 = some (176, .iload 6, 2, 0, 0, 0) := by decide +kernel
theorem pa_23_178 : pz_at 23 178 = some (178, .baload, 1, 0, 0, 0) := by decide +kernel
theorem pa_23_179 : pz_at 23 179 = some (179, .ifCond .eq 56, 3, 235, 0, 0) := by decide +kernel
theorem pa_23_18 : pz_at 23 18 = some (18, .istore 6, 2, 0, 0, 0) := by decide +kernel
theorem pa_23_182 : pz_at 23 182 = some (182, .aload_n 0, 1, 0, 0, 0) := by decide +kernel
theorem pa_23_183 : pz_at 23 183 = some (183, .getfield 35, 3, 1, 0, 247) := by decide +kernel
theorem pa_23_186 : pz_at 23 186 = some (186, .getfield 54, 3, 4, 10, 143) := by decide +kernel
theorem pa_23_189 : pz_at 23 189 = some (189, .iload 6, 2, 0, 0, 0) := by decide +kernel
theorem pa_23_191 : pz_at 23 191 = some (191, .iaload, 1, 0, 0, 0) := by decide +kernel
theorem pa_23_192 : pz_at 23 192 = some (192, .iconst 2, 1, 0, 0, 0) := by decide +kernel
theorem pa_23_193 : pz_at 23 193 = some (193, .if_icmp .ne 7, 3, 200, 0, 0) := by decide +kernel
theorem pa_23_196 : pz_at 23 196 = some (196, .iconst 1, 1, 0, 0, 0) := by decide +kernel
theorem pa_23_197 : pz_at 23 197 = some (197, .goto 4, 3, 201, 0, 0) := by decide +kernel
theorem pa_23_20 : pz_at 23 20 = some (20, .aload_n 0, 1, 0, 0, 0) := by decide +kernel
theorem pa_23_200 : pz_at 23 200 = some (200, .iconst 0, 1, 0, 0, 0) := by decide +kernel
theorem pa_23_201 : pz_at 23 201 = some (201, .istore 8, 2, 0, 0, 0) := by decide +kernel
theorem pa_23_203 : pz_at 23 203 = some (203, .aload_n 0, 1, 0, 0, 0) := by decide +kernel
theorem pa_23_204 : pz_at 23 204 = some (204, .iload_n 1, 1, 0, 0, 0) := by decide +kernel
theorem pa_23_205 : pz_at 23 205 = some (205, .iload_n 2, 1, 0, 0, 0) := by decide +kernel
theorem pa_23_206 : pz_at 23 206 = some (206, .iconst 1, 1, 0, 0, 0) := by decide +kernel
theorem pa_23_207 : pz_at 23 207 = some (207, .iadd, 1, 0, 0, 0) := by decide +kernel
theorem pa_23_208 : pz_at 23 208 = some (208, .iload 8, 2, 0, 0, 0) := by decide +kernel
theorem pa_23_21 : pz_at 23 21 = some (21, .getfield 35, 3, 1, 0, 247) := by decide +kernel
theorem pa_23_210 : pz_at 23 210 = some (210, .ifCond .eq 21, 3, 231, 0, 0) := by decide +kernel
theorem pa_23_213 : pz_at 23 213 = some (213, .lload_n 3, 1, 0, 0, 0) := by decide +kernel
theorem pa_23_214 : pz_at 23 214 = some (214, .iload 7, 2, 0, 0, 0) := by decide +kernel
theorem pa_23_216 : pz_at 23 216 = some (216, .aload_n 0, 1, 0, 0, 0) := by decide +kernel
theorem pa_23_217 : pz_at 23 217 = some (217, .iload 6, 2, 0, 0, 0) := by decide +kernel
theorem pa_23_219 : pz_at 23 219 = some (219, .iload 7, 2, 0, 0, 0) := by decide +kernel
theorem pa_23_221 : pz_at 23 221 = some (221, .lload_n 3, 1, 0, 0, 0) := by decide +kernel
theorem pa_23_222 : pz_at 23 222 = some (222, .invokevirtual 149, 3, 24, 3, 666) := by decide +kernel
theorem pa_23_225 : pz_at 23 225 = some (225, .invokestatic 87, 3, 4, 3, 622) := by decide +kernel
theorem pa_23_228 : pz_at 23 228 = some (228, .goto 4, 3, 232, 0, 0) := by decide +kernel
theorem pa_23_231 : pz_at 23 231 = some (231, .lload_n 3, 1, 0, 0, 0) := by decide +kernel
theorem pa_23_232 : pz_at 23 232 = some (232, .invokevirtual 73, 3, 13, 3, 627) := by decide +kernel
theorem pa_23_235 : pz_at 23 235 = some (235, .aload_n 0, 1, 0, 0, 0) := by decide +kernel
theorem pa_23_236 : pz_at 23 236 = some (236, .getfield 22, 3, 1, 4, 256) := by decide +kernel
theorem pa_23_239 : pz_at 23 239 = some (239, .iload 6, 2, 0, 0, 0) := by decide +kernel
theorem pa_23_24 : pz_at 23 24 = some (24, .getfield 115, 3, 4, 15, 159) := by decide +kernel
theorem pa_23_241 : pz_at 23 241 = some (241, .iaload, 1, 0, 0, 0) := by decide +kernel
theorem pa_23_242 : pz_at 23 242 = some (242, .ireturn, 1, 0, 0, 0) := by decide +kernel
theorem pa_23_27 : pz_at 23 27 = some (27, .iload 5, 2, 0, 0, 0) := by decide +kernel
theorem pa_23_29 : pz_at 23 29 = some (29, .iaload, 1, 0, 0, 0) := by decide +kernel
theorem pa_23_3 : pz_at 23 3 = some (3, .imul, 1, 0, 0, 0) := by decide +kernel
theorem pa_23_30 : pz_at 23 30 = some (30, .istore 7, 2, 0, 0, 0) := by decide +kernel
theorem pa_23_32 : pz_at 23 32 = some (32, .iconst 0, 1, 0, 0, 0) := by decide +kernel
theorem pa_23_33 : pz_at 23 33 = some (33, .istore 8, 2, 0, 0, 0) := by decide +kernel
theorem pa_23_35 : pz_at 23 35 = some (35, .iload 8, 2, 0, 0, 0) := by decide +kernel
theorem pa_23_37 : pz_at 23 37 = some (37, .aload_n 0, 1, 0, 0, 0) := by decide +kernel
theorem pa_23_38 : pz_at 23 38 = some (38, .getfield 35, 3, 1, 0, 247) := by decide +kernel
theorem pa_23_4 : pz_at 23 4 = some (4, .iload_n 2, 1, 0, 0, 0) := by decide +kernel
theorem pa_23_41 : pz_at 23 41 = some (41, .getfield 84, 3, 4, 9, 139) := by decide +kernel
theorem pa_23_44 : pz_at 23 44 = some (44, .iload 6, 2, 0, 0, 0) := by decide +kernel
theorem pa_23_46 : pz_at 23 46 = some (46, .iaload, 1, 0, 0, 0) := by decide +kernel
theorem pa_23_47 : pz_at 23 47 = some (47, .if_icmp .ge 66, 3, 113, 0, 0) := by decide +kernel
theorem pa_23_5 : pz_at 23 5 = some (5, .iadd, 1, 0, 0, 0) := by decide +kernel
theorem pa_23_50 : pz_at 23 50 = some (50, .lload_n 3, 1, 0, 0, 0) := by decide +kernel
theorem pa_23_51 : pz_at 23 51 = some (51, .iload 7, 2, 0, 0, 0) := by decide +kernel
theorem pa_23_53 : pz_at 23 53 = some (53, .iload 8, 2, 0, 0, 0) := by decide +kernel
theorem pa_23_55 : pz_at 23 55 = some (55, .iadd, 1, 0, 0, 0) := by decide +kernel
theorem pa_23_56 : pz_at 23 56 = some (56, .invokestatic 137, 3, 3, 2, 647) := by decide +kernel
theorem pa_23_59 : pz_at 23 59 = some (59, .istore 9, 2, 0, 0, 0) := by decide +kernel
theorem pa_23_6 : pz_at 23 6 = some (6, .istore 5, 2, 0, 0, 0) := by decide +kernel
theorem pa_23_61 : pz_at 23 61 = some (61, .aload_n 0, 1, 0, 0, 0) := by decide +kernel
theorem pa_23_62 : pz_at 23 62 = some (62, .aload_n 0, 1, 0, 0, 0) := by decide +kernel
theorem pa_23_63 : pz_at 23 63 = some (63, .getfield 15, 3, 1, 2, 250) := by decide +kernel
theorem pa_23_66 : pz_at 23 66 = some (66, .iload_n 1, 1, 0, 0, 0) := by decide +kernel
theorem pa_23_67 : pz_at 23 67 = some (67, .iload 9, 2, 0, 0, 0) := by decide +kernel
theorem pa_23_69 : pz_at 23 69 = some (69, .aload_n 0, 1, 0, 0, 0) := by decide +kernel
theorem pa_23_70 : pz_at 23 70 = some (70, .getfield 15, 3, 1, 2, 250) := by decide +kernel
theorem pa_23_73 : pz_at 23 73 = some (73, .iload 6, 2, 0, 0, 0) := by decide +kernel
theorem pa_23_75 : pz_at 23 75 = some (75, .iconst 4, 1, 0, 0, 0) := by decide +kernel
theorem pa_23_76 : pz_at 23 76 = some (76, .imul, 1, 0, 0, 0) := by decide +kernel
theorem pa_23_77 : pz_at 23 77 = some (77, .iload 8, 2, 0, 0, 0) := by decide +kernel
theorem pa_23_79 : pz_at 23 79 = some (79, .iadd, 1, 0, 0, 0) := by decide +kernel
theorem pa_23_8 : pz_at 23 8 = some (8, .aload_n 0, 1, 0, 0, 0) := by decide +kernel
theorem pa_23_80 : pz_at 23 80 = some (80, .iaload, 1, 0, 0, 0) := by decide +kernel
theorem pa_23_81 : pz_at 23 81 = some (81, .invokevirtual 145, 3, 18, 4, 650) := by decide +kernel
theorem pa_23_84 : pz_at 23 84 = some (84, .aload_n 0, 1, 0, 0, 0) := by decide +kernel
theorem pa_23_85 : pz_at 23 85 = some (85, .aload_n 0, 1, 0, 0, 0) := by decide +kernel
theorem pa_23_86 : pz_at 23 86 = some (86, .getfield 19, 3, 1, 3, 253) := by decide +kernel
theorem pa_23_89 : pz_at 23 89 = some (89, .iload_n 1, 1, 0, 0, 0) := by decide +kernel
theorem pa_23_9 : pz_at 23 9 = some (9, .getfield 35, 3, 1, 0, 247) := by decide +kernel
theorem pa_23_90 : pz_at 23 90 = some (90, .iload 9, 2, 0, 0, 0) := by decide +kernel
theorem pa_23_92 : pz_at 23 92 = some (92, .aload_n 0, 1, 0, 0, 0) := by decide +kernel
theorem pa_23_93 : pz_at 23 93 = some (93, .getfield 19, 3, 1, 3, 253) := by decide +kernel
theorem pa_23_96 : pz_at 23 96 = some (96, .iload 6, 2, 0, 0, 0) := by decide +kernel
theorem pa_23_98 : pz_at 23 98 = some (98, .iconst 4, 1, 0, 0, 0) := by decide +kernel
theorem pa_23_99 : pz_at 23 99 = some (99, .imul, 1, 0, 0, 0) := by decide +kernel
theorem pm_24 : pz_mi 24 = (1, 8, (some .int)) := by decide +kernel
theorem pr_23 : (pz_mi 23).2.2 = (some .int) := by decide +kernel
theorem pa_24_0 : pz_at 24 0 = some (0, .aload_n 0, 1, 0, 0, 0) := by decide +kernel
theorem pa_24_1 : pz_at 24 1 = some (1, .getfield 25, 3, 1, 5, 258) := by decide +kernel
theorem pa_24_10 : pz_at 24 10 = some (10, .bipush 35, 2, 0, 0, 0) := by decide +kernel
theorem pa_24_12 : pz_at 24 12 = some (12, .iand, 1, 0, 0, 0) := by decide +kernel
theorem pa_24_13 : pz_at 24 13 = some (13, .istore 6, 2, 0, 0, 0) := by decide +kernel
theorem pa_24_15 : pz_at 24 15 = some (15, .iconst 0, 1, 0, 0, 0) := by decide +kernel
theorem pa_24_16 : pz_at 24 16 = some (16, .istore 7, 2, 0, 0, 0) := by decide +kernel
theorem pa_24_18 : pz_at 24 18 = some (18, .iload 7, 2, 0, 0, 0) := by decide +kernel
theorem pa_24_20 : pz_at 24 20 = some (20, .aload_n 0, 1, 0, 0, 0) := by decide +kernel
theorem pa_24_21 : pz_at 24 21 = some (21, .getfield 35, 3, 1, 0, 247) := by decide +kernel
theorem pa_24_24 : pz_at 24 24 = some (24, .getfield 84, 3, 4, 9, 139) := by decide +kernel
theorem pa_24_27 : pz_at 24 27 = some (27, .iload_n 1, 1, 0, 0, 0) := by decide +kernel
theorem pa_24_28 : pz_at 24 28 = some (28, .iaload, 1, 0, 0, 0) := by decide +kernel
theorem pa_24_29 : pz_at 24 29 = some (29, .if_icmp .ge 32, 3, 61, 0, 0) := by decide +kernel
theorem pa_24_32 : pz_at 24 32 = some (32, .iload 5, 2, 0, 0, 0) := by decide +kernel
theorem pa_24_34 : pz_at 24 34 = some (34, .iconst 4, 1, 0, 0, 0) := by decide +kernel
theorem pa_24_35 : pz_at 24 35 = some (35, .iload 7, 2, 0, 0, 0) := by decide +kernel
theorem pa_24_37 : pz_at 24 37 = some (37, .ishl, 1, 0, 0, 0) := by decide +kernel
theorem pa_24_38 : pz_at 24 38 = some (38, .iand, 1, 0, 0, 0) := by decide +kernel
theorem pa_24_39 : pz_at 24 39 = some (39, .ifCond .eq 16, 3, 55, 0, 0) := by decide +kernel
theorem pa_24_4 : pz_at 24 4 = some (4, .iload_n 1, 1, 0, 0, 0) := by decide +kernel
theorem pa_24_42 : pz_at 24 42 = some (42, .iload 6, 2, 0, 0, 0) := by decide +kernel
theorem pa_24_44 : pz_at 24 44 = some (44, .lload_n 3, 1, 0, 0, 0) := by decide +kernel
theorem pa_24_45 : pz_at 24 45 = some (45, .iload_n 2, 1, 0, 0, 0) := by decide +kernel
theorem pa_24_46 : pz_at 24 46 = some (46, .iload 7, 2, 0, 0, 0) := by decide +kernel
theorem pa_24_48 : pz_at 24 48 = some (48, .iadd, 1, 0, 0, 0) := by decide +kernel
theorem pa_24_49 : pz_at 24 49 = some (49, .invokestatic 137, 3, 3, 2, 647) := by decide +kernel
theorem pa_24_5 : pz_at 24 5 = some (5, .iaload, 1, 0, 0, 0) := by decide +kernel
theorem pa_24_52 : pz_at 24 52 = some (52, .ior, 1, 0, 0, 0) := by decide +kernel
theorem pa_24_53 : pz_at 24 53 = some (53, .istore 6, 2, 0, 0, 0) := by decide +kernel
theorem pa_24_55 : pz_at 24 55 = some (55, .iinc 7 1, 3, 0, 0, 0) := by decide +kernel
theorem pa_24_58 : pz_at 24 58 = some (58, .goto (-40), 3, 18, 0, 0) := by decide +kernel
theorem pa_24_6 : pz_at 24 6 = some (6, .istore 5, 2, 0, 0, 0) := by decide +kernel
theorem pa_24_61 : pz_at 24 61 = some (61, .iload 6, 2, 0, 0, 0) := by decide +kernel
theorem pa_24_63 : pz_at 24 63 = some (63, .ireturn, 1, 0, 0, 0) := by decide +kernel
theorem pa_24_8 : pz_at 24 8 = some (8, .iload 5, 2, 0, 0, 0) := by decide +kernel
theorem pr_24 : (pz_mi 24).2.2 = (some .int) := by decide +kernel
theorem pa_25_0 : pz_at 25 0 = some (0, .iload_n 1, 1, 0, 0, 0) := by decide +kernel
theorem pa_25_1 : pz_at 25 1 = some (1, .bipush 24, 2, 0, 0, 0) := by decide +kernel
theorem pa_25_102 : pz_at 25 102 = some (102, .iload 6, 2, 0, 0, 0) := by decide +kernel
theorem pa_25_104 : pz_at 25 104 = some (104, .bipush 27, 2, 0, 0, 0) := by decide +kernel
theorem pa_25_106 : pz_at 25 106 = some (106, .if_icmp .ne 22, 3, 128, 0, 0) := by decide +kernel
theorem pa_25_109 : pz_at 25 109 = some (109, .iload 9, 2, 0, 0, 0) := by decide +kernel
theorem pa_25_111 : pz_at 25 111 = some (111, .ifCond .ne 7, 3, 118, 0, 0) := by decide +kernel
theorem pa_25_114 : pz_at 25 114 = some (114, .lconst 0, 1, 0, 0, 0) := by decide +kernel
theorem pa_25_115 : pz_at 25 115 = some (115, .goto 11, 3, 126, 0, 0) := by decide +kernel
theorem pa_25_118 : pz_at 25 118 = some (118, .lload_n 3, 1, 0, 0, 0) := by decide +kernel
theorem pa_25_119 : pz_at 25 119 = some (119, .iload 7, 2, 0, 0, 0) := by decide +kernel
theorem pa_25_12 : pz_at 25 12 = some (12, .getfield 102, 3, 4, 12, 150) := by decide +kernel
theorem pa_25_121 : pz_at 25 121 = some (121, .iload 9, 2, 0, 0, 0) := by decide +kernel
theorem pa_25_123 : pz_at 25 123 = some (123, .invokestatic 87, 3, 4, 3, 622) := by decide +kernel
theorem pa_25_126 : pz_at 25 126 = some (126, .lstore 10, 2, 0, 0, 0) := by decide +kernel
theorem pa_25_128 : pz_at 25 128 = some (128, .lload 10, 2, 0, 0, 0) := by decide +kernel
theorem pa_25_130 : pz_at 25 130 = some (130, .lconst 0, 1, 0, 0, 0) := by decide +kernel
theorem pa_25_131 : pz_at 25 131 = some (131, .lcmp, 1, 0, 0, 0) := by decide +kernel
theorem pa_25_132 : pz_at 25 132 = some (132, .ifCond .eq 20, 3, 152, 0, 0) := by decide +kernel
theorem pa_25_135 : pz_at 25 135 = some (135, .aload_n 0, 1, 0, 0, 0) := by decide +kernel
theorem pa_25_136 : pz_at 25 136 = some (136, .iload_n 1, 1, 0, 0, 0) := by decide +kernel
theorem pa_25_137 : pz_at 25 137 = some (137, .aload_n 0, 1, 0, 0, 0) := by decide +kernel
theorem pa_25_138 : pz_at 25 138 = some (138, .getfield 35, 3, 1, 0, 247) := by decide +kernel
theorem pa_25_141 : pz_at 25 141 = some (141, .getfield 115, 3, 4, 15, 159) := by decide +kernel
theorem pa_25_144 : pz_at 25 144 = some (144, .iload 5, 2, 0, 0, 0) := by decide +kernel
theorem pa_25_146 : pz_at 25 146 = some (146, .iaload, 1, 0, 0, 0) := by decide +kernel
theorem pa_25_147 : pz_at 25 147 = some (147, .lload 10, 2, 0, 0, 0) := by decide +kernel
theorem pa_25_149 : pz_at 25 149 = some (149, .invokevirtual 73, 3, 13, 3, 627) := by decide +kernel
theorem pa_25_15 : pz_at 25 15 = some (15, .iload 5, 2, 0, 0, 0) := by decide +kernel
theorem pa_25_152 : pz_at 25 152 = some (152, .lload 12, 2, 0, 0, 0) := by decide +kernel
theorem pa_25_154 : pz_at 25 154 = some (154, .lconst 0, 1, 0, 0, 0) := by decide +kernel
theorem pa_25_155 : pz_at 25 155 = some (155, .lcmp, 1, 0, 0, 0) := by decide +kernel
theorem pa_25_156 : pz_at 25 156 = some (156, .ifCond .eq 13, 3, 169, 0, 0) := by decide +kernel
theorem pa_25_159 : pz_at 25 159 = some (159, .aload_n 0, 1, 0, 0, 0) := by decide +kernel
theorem pa_25_160 : pz_at 25 160 = some (160, .iload_n 1, 1, 0, 0, 0) := by decide +kernel
theorem pa_25_161 : pz_at 25 161 = some (161, .iload_n 2, 1, 0, 0, 0) := by decide +kernel
theorem pa_25_162 : pz_at 25 162 = some (162, .iconst 1, 1, 0, 0, 0) := by decide +kernel
theorem pa_25_163 : pz_at 25 163 = some (163, .iadd, 1, 0, 0, 0) := by decide +kernel
theorem pa_25_164 : pz_at 25 164 = some (164, .lload 12, 2, 0, 0, 0) := by decide +kernel
theorem pa_25_166 : pz_at 25 166 = some (166, .invokevirtual 73, 3, 13, 3, 627) := by decide +kernel
theorem pa_25_169 : pz_at 25 169 = some (169, .return_, 1, 0, 0, 0) := by decide +kernel
theorem pa_25_17 : pz_at 25 17 = some (17, .iaload, 1, 0, 0, 0) := by decide +kernel
theorem pa_25_18 : pz_at 25 18 = some (18, .istore 6, 2, 0, 0, 0) := by decide +kernel
theorem pa_25_20 : pz_at 25 20 = some (20, .aload_n 0, 1, 0, 0, 0) := by decide +kernel
theorem pa_25_21 : pz_at 25 21 = some (21, .getfield 35, 3, 1, 0, 247) := by decide +kernel
theorem pa_25_24 : pz_at 25 24 = some (24, .getfield 131, 3, 4, 13, 153) := by decide +kernel
theorem pa_25_27 : pz_at 25 27 = some (27, .iload 5, 2, 0, 0, 0) := by decide +kernel
theorem pa_25_29 : pz_at 25 29 = some (29, .iaload, 1, 0, 0, 0) := by decide +kernel
theorem pa_25_3 : pz_at 25 3 = some (3, .imul, 1, 0, 0, 0) := by decide +kernel
theorem pa_25_30 : pz_at 25 30 = some (30, .istore 7, 2, 0, 0, 0) := by decide +kernel
theorem pa_25_32 : pz_at 25 32 = some (32, .lload_n 3, 1, 0, 0, 0) := by decide +kernel
theorem pa_25_33 : pz_at 25 33 = some (33, .iload 7, 2, 0, 0, 0) := by decide +kernel
theorem pa_25_35 : pz_at 25 35 = some (35, .invokestatic 137, 3, 3, 2, 647) := by decide +kernel
theorem pa_25_38 : pz_at 25 38 = some (38, .istore 8, 2, 0, 0, 0) := by decide +kernel
theorem pa_25_4 : pz_at 25 4 = some (4, .iload_n 2, 1, 0, 0, 0) := by decide +kernel
theorem pa_25_40 : pz_at 25 40 = some (40, .iload 8, 2, 0, 0, 0) := by decide +kernel
theorem pa_25_42 : pz_at 25 42 = some (42, .bipush (-2), 2, 0, 0, 0) := by decide +kernel
theorem pa_25_44 : pz_at 25 44 = some (44, .iand, 1, 0, 0, 0) := by decide +kernel
theorem pa_25_45 : pz_at 25 45 = some (45, .istore 9, 2, 0, 0, 0) := by decide +kernel
theorem pa_25_47 : pz_at 25 47 = some (47, .lload_n 3, 1, 0, 0, 0) := by decide +kernel
theorem pa_25_48 : pz_at 25 48 = some (48, .lstore 10, 2, 0, 0, 0) := by decide +kernel
theorem pa_25_5 : pz_at 25 5 = some (5, .iadd, 1, 0, 0, 0) := by decide +kernel
theorem pa_25_50 : pz_at 25 50 = some (50, .lload_n 3, 1, 0, 0, 0) := by decide +kernel
theorem pa_25_51 : pz_at 25 51 = some (51, .lstore 12, 2, 0, 0, 0) := by decide +kernel
theorem pa_25_53 : pz_at 25 53 = some (53, .iload 6, 2, 0, 0, 0) := by decide +kernel
theorem pa_25_55 : pz_at 25 55 = some (55, .bipush 25, 2, 0, 0, 0) := by decide +kernel
theorem pa_25_57 : pz_at 25 57 = some (57, .if_icmp .ne 45, 3, 102, 0, 0) := by decide +kernel
theorem pa_25_6 : pz_at 25 6 = some (6, .istore 5, 2, 0, 0, 0) := by decide +kernel
theorem pa_25_60 : pz_at 25 60 = some (60, .iload 9, 2, 0, 0, 0) := by decide +kernel
theorem pa_25_62 : pz_at 25 62 = some (62, .iload 8, 2, 0, 0, 0) := by decide +kernel
theorem pa_25_64 : pz_at 25 64 = some (64, .if_icmp .ne 7, 3, 71, 0, 0) := by decide +kernel
theorem pa_25_67 : pz_at 25 67 = some (67, .lconst 0, 1, 0, 0, 0) := by decide +kernel
theorem pa_25_68 : pz_at 25 68 = some (68, .goto 10, 3, 78, 0, 0) := by decide +kernel
theorem pa_25_71 : pz_at 25 71 = some (71, .lload_n 3, 1, 0, 0, 0) := by decide +kernel
theorem pa_25_72 : pz_at 25 72 = some (72, .iload 7, 2, 0, 0, 0) := by decide +kernel
theorem pa_25_74 : pz_at 25 74 = some (74, .iconst 1, 1, 0, 0, 0) := by decide +kernel
theorem pa_25_75 : pz_at 25 75 = some (75, .invokestatic 87, 3, 4, 3, 622) := by decide +kernel
theorem pa_25_78 : pz_at 25 78 = some (78, .lstore 10, 2, 0, 0, 0) := by decide +kernel
theorem pa_25_8 : pz_at 25 8 = some (8, .aload_n 0, 1, 0, 0, 0) := by decide +kernel
theorem pa_25_80 : pz_at 25 80 = some (80, .iload 9, 2, 0, 0, 0) := by decide +kernel
theorem pa_25_82 : pz_at 25 82 = some (82, .ifCond .ne 7, 3, 89, 0, 0) := by decide +kernel
theorem pa_25_85 : pz_at 25 85 = some (85, .lconst 0, 1, 0, 0, 0) := by decide +kernel
theorem pa_25_86 : pz_at 25 86 = some (86, .goto 11, 3, 97, 0, 0) := by decide +kernel
theorem pa_25_89 : pz_at 25 89 = some (89, .lload_n 3, 1, 0, 0, 0) := by decide +kernel
theorem pa_25_9 : pz_at 25 9 = some (9, .getfield 35, 3, 1, 0, 247) := by decide +kernel
theorem pa_25_90 : pz_at 25 90 = some (90, .iload 7, 2, 0, 0, 0) := by decide +kernel
theorem pa_25_92 : pz_at 25 92 = some (92, .iload 9, 2, 0, 0, 0) := by decide +kernel
theorem pa_25_94 : pz_at 25 94 = some (94, .invokestatic 87, 3, 4, 3, 622) := by decide +kernel
theorem pa_25_97 : pz_at 25 97 = some (97, .lstore 12, 2, 0, 0, 0) := by decide +kernel
theorem pa_25_99 : pz_at 25 99 = some (99, .goto 29, 3, 128, 0, 0) := by decide +kernel
theorem pr_25 : (pz_mi 25).2.2 = none := by decide +kernel
theorem pa_26_0 : pz_at 26 0 = some (0, .iload_n 1, 1, 0, 0, 0) := by decide +kernel
theorem pa_26_1 : pz_at 26 1 = some (1, .bipush 24, 2, 0, 0, 0) := by decide +kernel
theorem pa_26_100 : pz_at 26 100 = some (100, .iaload, 1, 0, 0, 0) := by decide +kernel
theorem pa_26_101 : pz_at 26 101 = some (101, .iconst 2, 1, 0, 0, 0) := by decide +kernel
theorem pa_26_102 : pz_at 26 102 = some (102, .if_icmp .ne 12, 3, 114, 0, 0) := by decide +kernel
theorem pa_26_105 : pz_at 26 105 = some (105, .lload_n 3, 1, 0, 0, 0) := by decide +kernel
theorem pa_26_106 : pz_at 26 106 = some (106, .iload 6, 2, 0, 0, 0) := by decide +kernel
theorem pa_26_108 : pz_at 26 108 = some (108, .invokestatic 137, 3, 3, 2, 647) := by decide +kernel
theorem pa_26_111 : pz_at 26 111 = some (111, .goto 4, 3, 115, 0, 0) := by decide +kernel
theorem pa_26_114 : pz_at 26 114 = some (114, .iconst 0, 1, 0, 0, 0) := by decide +kernel
theorem pa_26_115 : pz_at 26 115 = some (115, .invokevirtual 91, 3, 14, 2, 631) := by decide +kernel
theorem pa_26_118 : pz_at 26 118 = some (118, .iconst 0, 1, 0, 0, 0) := by decide +kernel
theorem pa_26_119 : pz_at 26 119 = some (119, .ireturn, 1, 0, 0, 0) := by decide +kernel
theorem pa_26_12 : pz_at 26 12 = some (12, .getfield 131, 3, 4, 13, 153) := by decide +kernel
theorem pa_26_15 : pz_at 26 15 = some (15, .iload 5, 2, 0, 0, 0) := by decide +kernel
theorem pa_26_17 : pz_at 26 17 = some (17, .iaload, 1, 0, 0, 0) := by decide +kernel
theorem pa_26_18 : pz_at 26 18 = some (18, .istore 6, 2, 0, 0, 0) := by decide +kernel
theorem pa_26_20 : pz_at 26 20 = some (20, .aload_n 0, 1, 0, 0, 0) := by decide +kernel
theorem pa_26_21 : pz_at 26 21 = some (21, .getfield 35, 3, 1, 0, 247) := by decide +kernel
theorem pa_26_24 : pz_at 26 24 = some (24, .getfield 102, 3, 4, 12, 150) := by decide +kernel
theorem pa_26_27 : pz_at 26 27 = some (27, .iload 5, 2, 0, 0, 0) := by decide +kernel
theorem pa_26_29 : pz_at 26 29 = some (29, .iaload, 1, 0, 0, 0) := by decide +kernel
theorem pa_26_3 : pz_at 26 3 = some (3, .imul, 1, 0, 0, 0) := by decide +kernel
theorem pa_26_30 : pz_at 26 30 = some (30, .lookupswitch 60 #[(29, 26), (30, 52)], 26, 0, 0, 0) := by decide +kernel
theorem pa_26_4 : pz_at 26 4 = some (4, .iload_n 2, 1, 0, 0, 0) := by decide +kernel
theorem pa_26_5 : pz_at 26 5 = some (5, .iadd, 1, 0, 0, 0) := by decide +kernel
theorem pa_26_56 : pz_at 26 56 = some (56, .aload_n 0, 1, 0, 0, 0) := by decide +kernel
theorem pa_26_57 : pz_at 26 57 = some (57, .iload_n 1, 1, 0, 0, 0) := by decide +kernel
theorem pa_26_58 : pz_at 26 58 = some (58, .iload_n 2, 1, 0, 0, 0) := by decide +kernel
theorem pa_26_59 : pz_at 26 59 = some (59, .iconst 1, 1, 0, 0, 0) := by decide +kernel
theorem pa_26_6 : pz_at 26 6 = some (6, .istore 5, 2, 0, 0, 0) := by decide +kernel
theorem pa_26_60 : pz_at 26 60 = some (60, .iadd, 1, 0, 0, 0) := by decide +kernel
theorem pa_26_61 : pz_at 26 61 = some (61, .lload_n 3, 1, 0, 0, 0) := by decide +kernel
theorem pa_26_62 : pz_at 26 62 = some (62, .invokevirtual 73, 3, 13, 3, 627) := by decide +kernel
theorem pa_26_65 : pz_at 26 65 = some (65, .lload_n 3, 1, 0, 0, 0) := by decide +kernel
theorem pa_26_66 : pz_at 26 66 = some (66, .iload 6, 2, 0, 0, 0) := by decide +kernel
theorem pa_26_68 : pz_at 26 68 = some (68, .invokestatic 137, 3, 3, 2, 647) := by decide +kernel
theorem pa_26_71 : pz_at 26 71 = some (71, .iconst 1, 1, 0, 0, 0) := by decide +kernel
theorem pa_26_72 : pz_at 26 72 = some (72, .if_icmp .ne 7, 3, 79, 0, 0) := by decide +kernel
theorem pa_26_75 : pz_at 26 75 = some (75, .iconst 0, 1, 0, 0, 0) := by decide +kernel
theorem pa_26_76 : pz_at 26 76 = some (76, .goto 5, 3, 81, 0, 0) := by decide +kernel
theorem pa_26_79 : pz_at 26 79 = some (79, .bipush 32, 2, 0, 0, 0) := by decide +kernel
theorem pa_26_8 : pz_at 26 8 = some (8, .aload_n 0, 1, 0, 0, 0) := by decide +kernel
theorem pa_26_81 : pz_at 26 81 = some (81, .ireturn, 1, 0, 0, 0) := by decide +kernel
theorem pa_26_82 : pz_at 26 82 = some (82, .iconst 1, 1, 0, 0, 0) := by decide +kernel
theorem pa_26_83 : pz_at 26 83 = some (83, .bipush 6, 2, 0, 0, 0) := by decide +kernel
theorem pa_26_85 : pz_at 26 85 = some (85, .iload 6, 2, 0, 0, 0) := by decide +kernel
theorem pa_26_87 : pz_at 26 87 = some (87, .iadd, 1, 0, 0, 0) := by decide +kernel
theorem pa_26_88 : pz_at 26 88 = some (88, .ishl, 1, 0, 0, 0) := by decide +kernel
theorem pa_26_89 : pz_at 26 89 = some (89, .ireturn, 1, 0, 0, 0) := by decide +kernel
theorem pa_26_9 : pz_at 26 9 = some (9, .getfield 35, 3, 1, 0, 247) := by decide +kernel
theorem pa_26_90 : pz_at 26 90 = some (90, .aload_n 0, 1, 0, 0, 0) := by decide +kernel
theorem pa_26_91 : pz_at 26 91 = some (91, .iload_n 1, 1, 0, 0, 0) := by decide +kernel
theorem pa_26_92 : pz_at 26 92 = some (92, .aload_n 0, 1, 0, 0, 0) := by decide +kernel
theorem pa_26_93 : pz_at 26 93 = some (93, .getfield 35, 3, 1, 0, 247) := by decide +kernel
theorem pa_26_96 : pz_at 26 96 = some (96, .getfield 54, 3, 4, 10, 143) := by decide +kernel
theorem pa_26_99 : pz_at 26 99 = some (99, .iload_n 1, 1, 0, 0, 0) := by decide +kernel
theorem pr_26 : (pz_mi 26).2.2 = (some .int) := by decide +kernel
theorem pa_27_0 : pz_at 27 0 = some (0, .aload_n 0, 1, 0, 0, 0) := by decide +kernel
theorem pa_27_1 : pz_at 27 1 = some (1, .iload_n 3, 1, 0, 0, 0) := by decide +kernel
theorem pa_27_10 : pz_at 27 10 = some (10, .iconst 0, 1, 0, 0, 0) := by decide +kernel
theorem pa_27_101 : pz_at 27 101 = some (101, .ifCond .eq 14, 3, 115, 0, 0) := by decide +kernel
theorem pa_27_104 : pz_at 27 104 = some (104, .aload_n 0, 1, 0, 0, 0) := by decide +kernel
theorem pa_27_105 : pz_at 27 105 = some (105, .invokevirtual 59, 3, 31, 0, 893) := by decide +kernel
theorem pa_27_108 : pz_at 27 108 = some (108, .ifCond .eq 7, 3, 115, 0, 0) := by decide +kernel
theorem pa_27_11 : pz_at 27 11 = some (11, .istore 4, 2, 0, 0, 0) := by decide +kernel
theorem pa_27_111 : pz_at 27 111 = some (111, .iconst 1, 1, 0, 0, 0) := by decide +kernel
theorem pa_27_112 : pz_at 27 112 = some (112, .goto 4, 3, 116, 0, 0) := by decide +kernel
theorem pa_27_115 : pz_at 27 115 = some (115, .iconst 0, 1, 0, 0, 0) := by decide +kernel
theorem pa_27_116 : pz_at 27 116 = some (116, .ireturn, 1, 0, 0, 0) := by decide +kernel
theorem pa_27_13 : pz_at 27 13 = some (13, .iload 4, 2, 0, 0, 0) := by decide +kernel
theorem pa_27_15 : pz_at 27 15 = some (15, .bipush 60, 2, 0, 0, 0) := by decide +kernel
theorem pa_27_17 : pz_at 27 17 = some (17, .if_icmp .ge 25, 3, 42, 0, 0) := by decide +kernel
theorem pa_27_2 : pz_at 27 2 = some (2, .putfield 38, 3, 2, 9, 388) := by decide +kernel
theorem pa_27_20 : pz_at 27 20 = some (20, .aload_n 0, 1, 0, 0, 0) := by decide +kernel
theorem pa_27_21 : pz_at 27 21 = some (21, .getfield 18, 3, 2, 5, 384) := by decide +kernel
theorem pa_27_24 : pz_at 27 24 = some (24, .iload 4, 2, 0, 0, 0) := by decide +kernel
theorem pa_27_26 : pz_at 27 26 = some (26, .iconst (-1), 1, 0, 0, 0) := by decide +kernel
theorem pa_27_27 : pz_at 27 27 = some (27, .iastore, 1, 0, 0, 0) := by decide +kernel
theorem pa_27_28 : pz_at 27 28 = some (28, .aload_n 0, 1, 0, 0, 0) := by decide +kernel
theorem pa_27_29 : pz_at 27 29 = some (29, .getfield 21, 3, 2, 6, 385) := by decide +kernel
theorem pa_27_32 : pz_at 27 32 = some (32, .iload 4, 2, 0, 0, 0) := by decide +kernel
theorem pa_27_34 : pz_at 27 34 = some (34, .iconst (-1), 1, 0, 0, 0) := by decide +kernel
theorem pa_27_35 : pz_at 27 35 = some (35, .iastore, 1, 0, 0, 0) := by decide +kernel
theorem pa_27_36 : pz_at 27 36 = some (36, .iinc 4 1, 3, 0, 0, 0) := by decide +kernel
theorem pa_27_39 : pz_at 27 39 = some (39, .goto (-26), 3, 13, 0, 0) := by decide +kernel
theorem pa_27_42 : pz_at 27 42 = some (42, .aload_n 0, 1, 0, 0, 0) := by decide +kernel
theorem pa_27_43 : pz_at 27 43 = some (43, .invokevirtual 45, 3, 28, 0, 871) := by decide +kernel
theorem pa_27_46 : pz_at 27 46 = some (46, .ifCond .eq 10, 3, 56, 0, 0) := by decide +kernel
theorem pa_27_49 : pz_at 27 49 = some (49, .aload_n 0, 1, 0, 0, 0) := by decide +kernel
theorem pa_27_5 : pz_at 27 5 = some (5, .aload_n 0, 1, 0, 0, 0) := by decide +kernel
theorem pa_27_50 : pz_at 27 50 = some (50, .invokevirtual 49, 3, 29, 0, 875) := by decide +kernel
theorem pa_27_53 : pz_at 27 53 = some (53, .ifCond .ne 5, 3, 58, 0, 0) := by decide +kernel
theorem pa_27_56 : pz_at 27 56 = some (56, .iconst 0, 1, 0, 0, 0) := by decide +kernel
theorem pa_27_57 : pz_at 27 57 = some (57, .ireturn, 1, 0, 0, 0) := by decide +kernel
theorem pa_27_58 : pz_at 27 58 = some (58, .iconst 0, 1, 0, 0, 0) := by decide +kernel
theorem pa_27_59 : pz_at 27 59 = some (59, .istore 4, 2, 0, 0, 0) := by decide +kernel
theorem pa_27_6 : pz_at 27 6 = some (6, .iconst 0, 1, 0, 0, 0) := by decide +kernel
theorem pa_27_61 : pz_at 27 61 = some (61, .iload 4, 2, 0, 0, 0) := by decide +kernel
theorem pa_27_63 : pz_at 27 63 = some (63, .iload_n 3, 1, 0, 0, 0) := by decide +kernel
theorem pa_27_64 : pz_at 27 64 = some (64, .if_icmp .ge 22, 3, 86, 0, 0) := by decide +kernel
theorem pa_27_67 : pz_at 27 67 = some (67, .aload_n 0, 1, 0, 0, 0) := by decide +kernel
theorem pa_27_68 : pz_at 27 68 = some (68, .iload 4, 2, 0, 0, 0) := by decide +kernel
theorem pa_27_7 : pz_at 27 7 = some (7, .putfield 42, 3, 2, 8, 387) := by decide +kernel
theorem pa_27_70 : pz_at 27 70 = some (70, .iload 4, 2, 0, 0, 0) := by decide +kernel
theorem pa_27_72 : pz_at 27 72 = some (72, .invokevirtual 52, 3, 32, 2, 883) := by decide +kernel
theorem pa_27_75 : pz_at 27 75 = some (75, .ifCond .ne 5, 3, 80, 0, 0) := by decide +kernel
theorem pa_27_78 : pz_at 27 78 = some (78, .iconst 0, 1, 0, 0, 0) := by decide +kernel
theorem pa_27_79 : pz_at 27 79 = some (79, .ireturn, 1, 0, 0, 0) := by decide +kernel
theorem pa_27_80 : pz_at 27 80 = some (80, .iinc 4 1, 3, 0, 0, 0) := by decide +kernel
theorem pa_27_83 : pz_at 27 83 = some (83, .goto (-22), 3, 61, 0, 0) := by decide +kernel
theorem pa_27_86 : pz_at 27 86 = some (86, .aload_n 0, 1, 0, 0, 0) := by decide +kernel
theorem pa_27_87 : pz_at 27 87 = some (87, .iload_n 1, 1, 0, 0, 0) := by decide +kernel
theorem pa_27_88 : pz_at 27 88 = some (88, .iconst 0, 1, 0, 0, 0) := by decide +kernel
theorem pa_27_89 : pz_at 27 89 = some (89, .invokevirtual 56, 3, 30, 2, 889) := by decide +kernel
theorem pa_27_92 : pz_at 27 92 = some (92, .ifCond .eq 23, 3, 115, 0, 0) := by decide +kernel
theorem pa_27_95 : pz_at 27 95 = some (95, .aload_n 0, 1, 0, 0, 0) := by decide +kernel
theorem pa_27_96 : pz_at 27 96 = some (96, .iload_n 2, 1, 0, 0, 0) := by decide +kernel
theorem pa_27_97 : pz_at 27 97 = some (97, .iconst 1, 1, 0, 0, 0) := by decide +kernel
theorem pa_27_98 : pz_at 27 98 = some (98, .invokevirtual 56, 3, 30, 2, 889) := by decide +kernel
theorem pc_46 : pz_gc 46 = some 2 := by decide +kernel
theorem pf_46_2_5 : pz_gf 46 2 5 = some (some 49) := by decide +kernel
theorem pf_46_2_6 : pz_gf 46 2 6 = some (some 50) := by decide +kernel
theorem pf_46_2_8 : pz_gf 46 2 8 = some none := by decide +kernel
theorem pf_46_2_9 : pz_gf 46 2 9 = some none := by decide +kernel
theorem pg_49 : pz_ga 49 = some (.int, 60) := by decide +kernel
theorem pg_50 : pz_ga 50 = some (.int, 60) := by decide +kernel
theorem pm_28 : pz_mi 28 = (2, 2, (some .boolean)) := by decide +kernel
theorem pm_29 : pz_mi 29 = (2, 2, (some .boolean)) := by decide +kernel
theorem pm_30 : pz_mi 30 = (2, 5, (some .boolean)) := by decide +kernel
theorem pm_31 : pz_mi 31 = (2, 2, (some .boolean)) := by decide +kernel
theorem pm_32 : pz_mi 32 = (2, 5, (some .boolean)) := by decide +kernel
theorem pr_27 : (pz_mi 27).2.2 = (some .boolean) := by decide +kernel
theorem pa_28_0 : pz_at 28 0 = some (0, .aload_n 0, 1, 0, 0, 0) := by decide +kernel
theorem pa_28_1 : pz_at 28 1 = some (1, .getfield 31, 3, 2, 1, 378) := by decide +kernel
theorem pa_28_11 : pz_at 28 11 = some (11, .getfield 62, 3, 5, 1, 212) := by decide +kernel
theorem pa_28_14 : pz_at 28 14 = some (14, .if_icmp .eq 5, 3, 19, 0, 0) := by decide +kernel
theorem pa_28_17 : pz_at 28 17 = some (17, .iconst 0, 1, 0, 0, 0) := by decide +kernel
theorem pa_28_18 : pz_at 28 18 = some (18, .ireturn, 1, 0, 0, 0) := by decide +kernel
theorem pa_28_19 : pz_at 28 19 = some (19, .iconst 0, 1, 0, 0, 0) := by decide +kernel
theorem pa_28_20 : pz_at 28 20 = some (20, .istore_n 1, 1, 0, 0, 0) := by decide +kernel
theorem pa_28_21 : pz_at 28 21 = some (21, .iload_n 1, 1, 0, 0, 0) := by decide +kernel
theorem pa_28_22 : pz_at 28 22 = some (22, .sipush 200, 3, 0, 0, 0) := by decide +kernel
theorem pa_28_25 : pz_at 28 25 = some (25, .if_icmp .ge 43, 3, 68, 0, 0) := by decide +kernel
theorem pa_28_28 : pz_at 28 28 = some (28, .iload_n 1, 1, 0, 0, 0) := by decide +kernel
theorem pa_28_29 : pz_at 28 29 = some (29, .aload_n 0, 1, 0, 0, 0) := by decide +kernel
theorem pa_28_30 : pz_at 28 30 = some (30, .getfield 31, 3, 2, 1, 378) := by decide +kernel
theorem pa_28_33 : pz_at 28 33 = some (33, .getfield 62, 3, 5, 1, 212) := by decide +kernel
theorem pa_28_36 : pz_at 28 36 = some (36, .if_icmp .ge 32, 3, 68, 0, 0) := by decide +kernel
theorem pa_28_39 : pz_at 28 39 = some (39, .aload_n 0, 1, 0, 0, 0) := by decide +kernel
theorem pa_28_4 : pz_at 28 4 = some (4, .getfield 62, 3, 5, 1, 212) := by decide +kernel
theorem pa_28_40 : pz_at 28 40 = some (40, .getfield 31, 3, 2, 1, 378) := by decide +kernel
theorem pa_28_43 : pz_at 28 43 = some (43, .getfield 67, 3, 5, 5, 226) := by decide +kernel
theorem pa_28_46 : pz_at 28 46 = some (46, .iload_n 1, 1, 0, 0, 0) := by decide +kernel
theorem pa_28_47 : pz_at 28 47 = some (47, .iaload, 1, 0, 0, 0) := by decide +kernel
theorem pa_28_48 : pz_at 28 48 = some (48, .aload_n 0, 1, 0, 0, 0) := by decide +kernel
theorem pa_28_49 : pz_at 28 49 = some (49, .getfield 35, 3, 2, 2, 379) := by decide +kernel
theorem pa_28_52 : pz_at 28 52 = some (52, .getfield 67, 3, 5, 5, 226) := by decide +kernel
theorem pa_28_55 : pz_at 28 55 = some (55, .iload_n 1, 1, 0, 0, 0) := by decide +kernel
theorem pa_28_56 : pz_at 28 56 = some (56, .iaload, 1, 0, 0, 0) := by decide +kernel
theorem pa_28_57 : pz_at 28 57 = some (57, .if_icmp .eq 5, 3, 62, 0, 0) := by decide +kernel
theorem pa_28_60 : pz_at 28 60 = some (60, .iconst 0, 1, 0, 0, 0) := by decide +kernel
theorem pa_28_61 : pz_at 28 61 = some (61, .ireturn, 1, 0, 0, 0) := by decide +kernel
theorem pa_28_62 : pz_at 28 62 = some (62, .iinc 1 1, 3, 0, 0, 0) := by decide +kernel
theorem pa_28_65 : pz_at 28 65 = some (65, .goto (-44), 3, 21, 0, 0) := by decide +kernel
theorem pa_28_68 : pz_at 28 68 = some (68, .iconst 1, 1, 0, 0, 0) := by decide +kernel
theorem pa_28_69 : pz_at 28 69 = some (69, .ireturn, 1, 0, 0, 0) := by decide +kernel
theorem pa_28_7 : pz_at 28 7 = some (7, .aload_n 0, 1, 0, 0, 0) := by decide +kernel
theorem pa_28_8 : pz_at 28 8 = some (8, .getfield 35, 3, 2, 2, 379) := by decide +kernel
theorem pf_16_5_1 : pz_gf 16 5 1 = some none := by decide +kernel
theorem pf_16_5_5 : pz_gf 16 5 5 = some (some 20) := by decide +kernel
theorem pf_26_5_1 : pz_gf 26 5 1 = some none := by decide +kernel
theorem pf_26_5_5 : pz_gf 26 5 5 = some (some 30) := by decide +kernel
theorem pf_46_2_1 : pz_gf 46 2 1 = some (some 26) := by decide +kernel
theorem pf_46_2_2 : pz_gf 46 2 2 = some (some 16) := by decide +kernel
theorem pg_20 : pz_ga 20 = some (.int, 200) := by decide +kernel
theorem pg_30 : pz_ga 30 = some (.int, 200) := by decide +kernel
theorem pr_28 : (pz_mi 28).2.2 = (some .boolean) := by decide +kernel
theorem pa_29_0 : pz_at 29 0 = some (0, .iconst 0, 1, 0, 0, 0) := by decide +kernel
theorem pa_29_1 : pz_at 29 1 = some (1, .istore_n 1, 1, 0, 0, 0) := by decide +kernel
theorem pa_29_10 : pz_at 29 10 = some (10, .if_icmp .ge 45, 3, 55, 0, 0) := by decide +kernel
theorem pa_29_13 : pz_at 29 13 = some (13, .aload_n 0, 1, 0, 0, 0) := by decide +kernel
theorem pa_29_14 : pz_at 29 14 = some (14, .aload_n 0, 1, 0, 0, 0) := by decide +kernel
theorem pa_29_15 : pz_at 29 15 = some (15, .getfield 27, 3, 2, 0, 377) := by decide +kernel
theorem pa_29_18 : pz_at 29 18 = some (18, .getfield 75, 3, 4, 7, 133) := by decide +kernel
theorem pa_29_2 : pz_at 29 2 = some (2, .iload_n 1, 1, 0, 0, 0) := by decide +kernel
theorem pa_29_21 : pz_at 29 21 = some (21, .iload_n 1, 1, 0, 0, 0) := by decide +kernel
theorem pa_29_22 : pz_at 29 22 = some (22, .baload, 1, 0, 0, 0) := by decide +kernel
theorem pa_29_23 : pz_at 29 23 = some (23, .aload_n 0, 1, 0, 0, 0) := by decide +kernel
theorem pa_29_24 : pz_at 29 24 = some (24, .getfield 31, 3, 2, 1, 378) := by decide +kernel
theorem pa_29_27 : pz_at 29 27 = some (27, .getfield 79, 3, 5, 4, 223) := by decide +kernel
theorem pa_29_3 : pz_at 29 3 = some (3, .aload_n 0, 1, 0, 0, 0) := by decide +kernel
theorem pa_29_30 : pz_at 29 30 = some (30, .iload_n 1, 1, 0, 0, 0) := by decide +kernel
theorem pa_29_31 : pz_at 29 31 = some (31, .iaload, 1, 0, 0, 0) := by decide +kernel
theorem pa_29_32 : pz_at 29 32 = some (32, .aload_n 0, 1, 0, 0, 0) := by decide +kernel
theorem pa_29_33 : pz_at 29 33 = some (33, .getfield 35, 3, 2, 2, 379) := by decide +kernel
theorem pa_29_36 : pz_at 29 36 = some (36, .getfield 79, 3, 5, 4, 223) := by decide +kernel
theorem pa_29_39 : pz_at 29 39 = some (39, .iload_n 1, 1, 0, 0, 0) := by decide +kernel
theorem pa_29_4 : pz_at 29 4 = some (4, .getfield 27, 3, 2, 0, 377) := by decide +kernel
theorem pa_29_40 : pz_at 29 40 = some (40, .iaload, 1, 0, 0, 0) := by decide +kernel
theorem pa_29_41 : pz_at 29 41 = some (41, .invokevirtual 81, 3, 33, 3, 879) := by decide +kernel
theorem pa_29_44 : pz_at 29 44 = some (44, .ifCond .ne 5, 3, 49, 0, 0) := by decide +kernel
theorem pa_29_47 : pz_at 29 47 = some (47, .iconst 0, 1, 0, 0, 0) := by decide +kernel
theorem pa_29_48 : pz_at 29 48 = some (48, .ireturn, 1, 0, 0, 0) := by decide +kernel
theorem pa_29_49 : pz_at 29 49 = some (49, .iinc 1 1, 3, 0, 0, 0) := by decide +kernel
theorem pa_29_52 : pz_at 29 52 = some (52, .goto (-50), 3, 2, 0, 0) := by decide +kernel
theorem pa_29_55 : pz_at 29 55 = some (55, .iconst 1, 1, 0, 0, 0) := by decide +kernel
theorem pa_29_56 : pz_at 29 56 = some (56, .ireturn, 1, 0, 0, 0) := by decide +kernel
theorem pa_29_7 : pz_at 29 7 = some (7, .getfield 70, 3, 4, 2, 123) := by decide +kernel
theorem pf_1_4_2 : pz_gf 1 4 2 = some none := by decide +kernel
theorem pf_1_4_7 : pz_gf 1 4 7 = some (some 5) := by decide +kernel
theorem pf_16_5_4 : pz_gf 16 5 4 = some (some 19) := by decide +kernel
theorem pf_26_5_4 : pz_gf 26 5 4 = some (some 29) := by decide +kernel
theorem pf_46_2_0 : pz_gf 46 2 0 = some (some 1) := by decide +kernel
theorem pg_19 : pz_ga 19 = some (.int, 8) := by decide +kernel
theorem pg_29 : pz_ga 29 = some (.int, 8) := by decide +kernel
theorem pg_5 : pz_ga 5 = some (.boolean, 8) := by decide +kernel
theorem pm_33 : pz_mi 33 = (2, 4, (some .boolean)) := by decide +kernel
theorem pr_29 : (pz_mi 29).2.2 = (some .boolean) := by decide +kernel
theorem pa_30_0 : pz_at 30 0 = some (0, .aload_n 0, 1, 0, 0, 0) := by decide +kernel
theorem pa_30_1 : pz_at 30 1 = some (1, .getfield 9, 3, 2, 3, 380) := by decide +kernel
theorem pa_30_10 : pz_at 30 10 = some (10, .aload_n 0, 1, 0, 0, 0) := by decide +kernel
theorem pa_30_11 : pz_at 30 11 = some (11, .getfield 15, 3, 2, 4, 382) := by decide +kernel
theorem pa_30_14 : pz_at 30 14 = some (14, .iload_n 2, 1, 0, 0, 0) := by decide +kernel
theorem pa_30_15 : pz_at 30 15 = some (15, .iconst 2, 1, 0, 0, 0) := by decide +kernel
theorem pa_30_16 : pz_at 30 16 = some (16, .imul, 1, 0, 0, 0) := by decide +kernel
theorem pa_30_17 : pz_at 30 17 = some (17, .iaload, 1, 0, 0, 0) := by decide +kernel
theorem pa_30_18 : pz_at 30 18 = some (18, .if_icmp .eq 5, 3, 23, 0, 0) := by decide +kernel
theorem pa_30_21 : pz_at 30 21 = some (21, .iconst 0, 1, 0, 0, 0) := by decide +kernel
theorem pa_30_22 : pz_at 30 22 = some (22, .ireturn, 1, 0, 0, 0) := by decide +kernel
theorem pa_30_23 : pz_at 30 23 = some (23, .iload_n 3, 1, 0, 0, 0) := by decide +kernel
theorem pa_30_24 : pz_at 30 24 = some (24, .ifCond .ne 20, 3, 44, 0, 0) := by decide +kernel
theorem pa_30_27 : pz_at 30 27 = some (27, .aload_n 0, 1, 0, 0, 0) := by decide +kernel
theorem pa_30_28 : pz_at 30 28 = some (28, .getfield 27, 3, 2, 0, 377) := by decide +kernel
theorem pa_30_31 : pz_at 30 31 = some (31, .getfield 85, 3, 4, 10, 142) := by decide +kernel
theorem pa_30_34 : pz_at 30 34 = some (34, .iload_n 1, 1, 0, 0, 0) := by decide +kernel
theorem pa_30_35 : pz_at 30 35 = some (35, .iaload, 1, 0, 0, 0) := by decide +kernel
theorem pa_30_36 : pz_at 30 36 = some (36, .iconst 2, 1, 0, 0, 0) := by decide +kernel
theorem pa_30_37 : pz_at 30 37 = some (37, .if_icmp .ne 7, 3, 44, 0, 0) := by decide +kernel
theorem pa_30_4 : pz_at 30 4 = some (4, .iload_n 2, 1, 0, 0, 0) := by decide +kernel
theorem pa_30_40 : pz_at 30 40 = some (40, .iconst 1, 1, 0, 0, 0) := by decide +kernel
theorem pa_30_41 : pz_at 30 41 = some (41, .goto 4, 3, 45, 0, 0) := by decide +kernel
theorem pa_30_44 : pz_at 30 44 = some (44, .iconst 0, 1, 0, 0, 0) := by decide +kernel
theorem pa_30_45 : pz_at 30 45 = some (45, .istore 4, 2, 0, 0, 0) := by decide +kernel
theorem pa_30_47 : pz_at 30 47 = some (47, .aload_n 0, 1, 0, 0, 0) := by decide +kernel
theorem pa_30_48 : pz_at 30 48 = some (48, .iload 4, 2, 0, 0, 0) := by decide +kernel
theorem pa_30_5 : pz_at 30 5 = some (5, .iconst 2, 1, 0, 0, 0) := by decide +kernel
theorem pa_30_50 : pz_at 30 50 = some (50, .aload_n 0, 1, 0, 0, 0) := by decide +kernel
theorem pa_30_51 : pz_at 30 51 = some (51, .getfield 9, 3, 2, 3, 380) := by decide +kernel
theorem pa_30_54 : pz_at 30 54 = some (54, .iload_n 2, 1, 0, 0, 0) := by decide +kernel
theorem pa_30_55 : pz_at 30 55 = some (55, .iconst 2, 1, 0, 0, 0) := by decide +kernel
theorem pa_30_56 : pz_at 30 56 = some (56, .imul, 1, 0, 0, 0) := by decide +kernel
theorem pa_30_57 : pz_at 30 57 = some (57, .iconst 1, 1, 0, 0, 0) := by decide +kernel
theorem pa_30_58 : pz_at 30 58 = some (58, .iadd, 1, 0, 0, 0) := by decide +kernel
theorem pa_30_59 : pz_at 30 59 = some (59, .iaload, 1, 0, 0, 0) := by decide +kernel
theorem pa_30_6 : pz_at 30 6 = some (6, .imul, 1, 0, 0, 0) := by decide +kernel
theorem pa_30_60 : pz_at 30 60 = some (60, .aload_n 0, 1, 0, 0, 0) := by decide +kernel
theorem pa_30_61 : pz_at 30 61 = some (61, .getfield 15, 3, 2, 4, 382) := by decide +kernel
theorem pa_30_64 : pz_at 30 64 = some (64, .iload_n 2, 1, 0, 0, 0) := by decide +kernel
theorem pa_30_65 : pz_at 30 65 = some (65, .iconst 2, 1, 0, 0, 0) := by decide +kernel
theorem pa_30_66 : pz_at 30 66 = some (66, .imul, 1, 0, 0, 0) := by decide +kernel
theorem pa_30_67 : pz_at 30 67 = some (67, .iconst 1, 1, 0, 0, 0) := by decide +kernel
theorem pa_30_68 : pz_at 30 68 = some (68, .iadd, 1, 0, 0, 0) := by decide +kernel
theorem pa_30_69 : pz_at 30 69 = some (69, .iaload, 1, 0, 0, 0) := by decide +kernel
theorem pa_30_7 : pz_at 30 7 = some (7, .iaload, 1, 0, 0, 0) := by decide +kernel
theorem pa_30_70 : pz_at 30 70 = some (70, .invokevirtual 81, 3, 33, 3, 879) := by decide +kernel
theorem pa_30_73 : pz_at 30 73 = some (73, .ireturn, 1, 0, 0, 0) := by decide +kernel
theorem pa_30_8 : pz_at 30 8 = some (8, .istore_n 3, 1, 0, 0, 0) := by decide +kernel
theorem pa_30_9 : pz_at 30 9 = some (9, .iload_n 3, 1, 0, 0, 0) := by decide +kernel
theorem pf_46_2_3 : pz_gf 46 2 3 = some (some 47) := by decide +kernel
theorem pf_46_2_4 : pz_gf 46 2 4 = some (some 48) := by decide +kernel
theorem pg_47 : pz_ga 47 = some (.int, 4) := by decide +kernel
theorem pg_48 : pz_ga 48 = some (.int, 4) := by decide +kernel
theorem pr_30 : (pz_mi 30).2.2 = (some .boolean) := by decide +kernel
theorem pa_31_0 : pz_at 31 0 = some (0, .iconst 0, 1, 0, 0, 0) := by decide +kernel
theorem pa_31_1 : pz_at 31 1 = some (1, .istore_n 1, 1, 0, 0, 0) := by decide +kernel
theorem pa_31_10 : pz_at 31 10 = some (10, .getfield 42, 3, 2, 8, 387) := by decide +kernel
theorem pa_31_13 : pz_at 31 13 = some (13, .if_icmp .ge 35, 3, 48, 0, 0) := by decide +kernel
theorem pa_31_16 : pz_at 31 16 = some (16, .aload_n 0, 1, 0, 0, 0) := by decide +kernel
theorem pa_31_17 : pz_at 31 17 = some (17, .aload_n 0, 1, 0, 0, 0) := by decide +kernel
theorem pa_31_18 : pz_at 31 18 = some (18, .getfield 24, 3, 2, 7, 386) := by decide +kernel
theorem pa_31_2 : pz_at 31 2 = some (2, .iload_n 1, 1, 0, 0, 0) := by decide +kernel
theorem pa_31_21 : pz_at 31 21 = some (21, .iload_n 1, 1, 0, 0, 0) := by decide +kernel
theorem pa_31_22 : pz_at 31 22 = some (22, .iaload, 1, 0, 0, 0) := by decide +kernel
theorem pa_31_23 : pz_at 31 23 = some (23, .aload_n 0, 1, 0, 0, 0) := by decide +kernel
theorem pa_31_24 : pz_at 31 24 = some (24, .getfield 18, 3, 2, 5, 384) := by decide +kernel
theorem pa_31_27 : pz_at 31 27 = some (27, .aload_n 0, 1, 0, 0, 0) := by decide +kernel
theorem pa_31_28 : pz_at 31 28 = some (28, .getfield 24, 3, 2, 7, 386) := by decide +kernel
theorem pa_31_3 : pz_at 31 3 = some (3, .bipush 60, 2, 0, 0, 0) := by decide +kernel
theorem pa_31_31 : pz_at 31 31 = some (31, .iload_n 1, 1, 0, 0, 0) := by decide +kernel
theorem pa_31_32 : pz_at 31 32 = some (32, .iaload, 1, 0, 0, 0) := by decide +kernel
theorem pa_31_33 : pz_at 31 33 = some (33, .iaload, 1, 0, 0, 0) := by decide +kernel
theorem pa_31_34 : pz_at 31 34 = some (34, .invokevirtual 52, 3, 32, 2, 883) := by decide +kernel
theorem pa_31_37 : pz_at 31 37 = some (37, .ifCond .ne 5, 3, 42, 0, 0) := by decide +kernel
theorem pa_31_40 : pz_at 31 40 = some (40, .iconst 0, 1, 0, 0, 0) := by decide +kernel
theorem pa_31_41 : pz_at 31 41 = some (41, .ireturn, 1, 0, 0, 0) := by decide +kernel
theorem pa_31_42 : pz_at 31 42 = some (42, .iinc 1 1, 3, 0, 0, 0) := by decide +kernel
theorem pa_31_45 : pz_at 31 45 = some (45, .goto (-43), 3, 2, 0, 0) := by decide +kernel
theorem pa_31_48 : pz_at 31 48 = some (48, .iconst 1, 1, 0, 0, 0) := by decide +kernel
theorem pa_31_49 : pz_at 31 49 = some (49, .ireturn, 1, 0, 0, 0) := by decide +kernel
theorem pa_31_5 : pz_at 31 5 = some (5, .if_icmp .ge 43, 3, 48, 0, 0) := by decide +kernel
theorem pa_31_8 : pz_at 31 8 = some (8, .iload_n 1, 1, 0, 0, 0) := by decide +kernel
theorem pa_31_9 : pz_at 31 9 = some (9, .aload_n 0, 1, 0, 0, 0) := by decide +kernel
theorem pf_46_2_7 : pz_gf 46 2 7 = some (some 51) := by decide +kernel
theorem pg_51 : pz_ga 51 = some (.int, 60) := by decide +kernel
theorem pr_31 : (pz_mi 31).2.2 = (some .boolean) := by decide +kernel
theorem pa_32_0 : pz_at 32 0 = some (0, .iconst 0, 1, 0, 0, 0) := by decide +kernel
theorem pa_32_1 : pz_at 32 1 = some (1, .istore_n 3, 1, 0, 0, 0) := by decide +kernel
theorem pa_32_12 : pz_at 32 12 = some (12, .aload_n 0, 1, 0, 0, 0) := by decide +kernel
theorem pa_32_13 : pz_at 32 13 = some (13, .getfield 27, 3, 2, 0, 377) := by decide +kernel
theorem pa_32_16 : pz_at 32 16 = some (16, .iload_n 1, 1, 0, 0, 0) := by decide +kernel
theorem pa_32_17 : pz_at 32 17 = some (17, .iload_n 3, 1, 0, 0, 0) := by decide +kernel
theorem pa_32_18 : pz_at 32 18 = some (18, .invokevirtual 88, 3, 78, 3, 887) := by decide +kernel
theorem pa_32_2 : pz_at 32 2 = some (2, .iload_n 3, 1, 0, 0, 0) := by decide +kernel
theorem pa_32_21 : pz_at 32 21 = some (21, .ifCond .eq 57, 3, 78, 0, 0) := by decide +kernel
theorem pa_32_24 : pz_at 32 24 = some (24, .aload_n 0, 1, 0, 0, 0) := by decide +kernel
theorem pa_32_25 : pz_at 32 25 = some (25, .getfield 31, 3, 2, 1, 378) := by decide +kernel
theorem pa_32_28 : pz_at 32 28 = some (28, .aload_n 0, 1, 0, 0, 0) := by decide +kernel
theorem pa_32_29 : pz_at 32 29 = some (29, .getfield 27, 3, 2, 0, 377) := by decide +kernel
theorem pa_32_3 : pz_at 32 3 = some (3, .bipush 16, 2, 0, 0, 0) := by decide +kernel
theorem pa_32_32 : pz_at 32 32 = some (32, .iload_n 1, 1, 0, 0, 0) := by decide +kernel
theorem pa_32_33 : pz_at 32 33 = some (33, .iload_n 3, 1, 0, 0, 0) := by decide +kernel
theorem pa_32_34 : pz_at 32 34 = some (34, .invokevirtual 92, 3, 79, 3, 888) := by decide +kernel
theorem pa_32_37 : pz_at 32 37 = some (37, .istore 4, 2, 0, 0, 0) := by decide +kernel
theorem pa_32_39 : pz_at 32 39 = some (39, .aload_n 0, 1, 0, 0, 0) := by decide +kernel
theorem pa_32_40 : pz_at 32 40 = some (40, .iload 4, 2, 0, 0, 0) := by decide +kernel
theorem pa_32_42 : pz_at 32 42 = some (42, .aload_n 0, 1, 0, 0, 0) := by decide +kernel
theorem pa_32_43 : pz_at 32 43 = some (43, .getfield 31, 3, 2, 1, 378) := by decide +kernel
theorem pa_32_46 : pz_at 32 46 = some (46, .getfield 95, 3, 5, 3, 218) := by decide +kernel
theorem pa_32_49 : pz_at 32 49 = some (49, .iload_n 1, 1, 0, 0, 0) := by decide +kernel
theorem pa_32_5 : pz_at 32 5 = some (5, .if_icmp .ge 79, 3, 84, 0, 0) := by decide +kernel
theorem pa_32_50 : pz_at 32 50 = some (50, .bipush 16, 2, 0, 0, 0) := by decide +kernel
theorem pa_32_52 : pz_at 32 52 = some (52, .imul, 1, 0, 0, 0) := by decide +kernel
theorem pa_32_53 : pz_at 32 53 = some (53, .iload_n 3, 1, 0, 0, 0) := by decide +kernel
theorem pa_32_54 : pz_at 32 54 = some (54, .iadd, 1, 0, 0, 0) := by decide +kernel
theorem pa_32_55 : pz_at 32 55 = some (55, .iaload, 1, 0, 0, 0) := by decide +kernel
theorem pa_32_56 : pz_at 32 56 = some (56, .aload_n 0, 1, 0, 0, 0) := by decide +kernel
theorem pa_32_57 : pz_at 32 57 = some (57, .getfield 35, 3, 2, 2, 379) := by decide +kernel
theorem pa_32_60 : pz_at 32 60 = some (60, .getfield 95, 3, 5, 3, 218) := by decide +kernel
theorem pa_32_63 : pz_at 32 63 = some (63, .iload_n 2, 1, 0, 0, 0) := by decide +kernel
theorem pa_32_64 : pz_at 32 64 = some (64, .bipush 16, 2, 0, 0, 0) := by decide +kernel
theorem pa_32_66 : pz_at 32 66 = some (66, .imul, 1, 0, 0, 0) := by decide +kernel
theorem pa_32_67 : pz_at 32 67 = some (67, .iload_n 3, 1, 0, 0, 0) := by decide +kernel
theorem pa_32_68 : pz_at 32 68 = some (68, .iadd, 1, 0, 0, 0) := by decide +kernel
theorem pa_32_69 : pz_at 32 69 = some (69, .iaload, 1, 0, 0, 0) := by decide +kernel
theorem pa_32_70 : pz_at 32 70 = some (70, .invokevirtual 81, 3, 33, 3, 879) := by decide +kernel
theorem pa_32_73 : pz_at 32 73 = some (73, .ifCond .ne 5, 3, 78, 0, 0) := by decide +kernel
theorem pa_32_76 : pz_at 32 76 = some (76, .iconst 0, 1, 0, 0, 0) := by decide +kernel
theorem pa_32_77 : pz_at 32 77 = some (77, .ireturn, 1, 0, 0, 0) := by decide +kernel
theorem pa_32_78 : pz_at 32 78 = some (78, .iinc 3 1, 3, 0, 0, 0) := by decide +kernel
theorem pa_32_8 : pz_at 32 8 = some (8, .aload_n 0, 1, 0, 0, 0) := by decide +kernel
theorem pa_32_81 : pz_at 32 81 = some (81, .goto (-79), 3, 2, 0, 0) := by decide +kernel
theorem pa_32_84 : pz_at 32 84 = some (84, .iconst 1, 1, 0, 0, 0) := by decide +kernel
theorem pa_32_85 : pz_at 32 85 = some (85, .ireturn, 1, 0, 0, 0) := by decide +kernel
theorem pa_32_9 : pz_at 32 9 = some (9, .getfield 31, 3, 2, 1, 378) := by decide +kernel
theorem pc_26 : pz_gc 26 = some 5 := by decide +kernel
theorem pf_16_5_3 : pz_gf 16 5 3 = some (some 18) := by decide +kernel
theorem pf_26_5_3 : pz_gf 26 5 3 = some (some 28) := by decide +kernel
theorem pg_18 : pz_ga 18 = some (.int, 960) := by decide +kernel
theorem pg_28 : pz_ga 28 = some (.int, 960) := by decide +kernel
theorem pm_78 : pz_mi 78 = (5, 4, (some .boolean)) := by decide +kernel
theorem pm_79 : pz_mi 79 = (5, 4, (some .boolean)) := by decide +kernel
theorem pr_32 : (pz_mi 32).2.2 = (some .boolean) := by decide +kernel
theorem pa_33_0 : pz_at 33 0 = some (0, .iload_n 1, 1, 0, 0, 0) := by decide +kernel
theorem pa_33_1 : pz_at 33 1 = some (1, .ifCond .eq 19, 3, 20, 0, 0) := by decide +kernel
theorem pa_33_101 : pz_at 33 101 = some (101, .iload_n 3, 1, 0, 0, 0) := by decide +kernel
theorem pa_33_102 : pz_at 33 102 = some (102, .iaload, 1, 0, 0, 0) := by decide +kernel
theorem pa_33_103 : pz_at 33 103 = some (103, .if_icmp .ne 7, 3, 110, 0, 0) := by decide +kernel
theorem pa_33_106 : pz_at 33 106 = some (106, .iconst 1, 1, 0, 0, 0) := by decide +kernel
theorem pa_33_107 : pz_at 33 107 = some (107, .goto 4, 3, 111, 0, 0) := by decide +kernel
theorem pa_33_110 : pz_at 33 110 = some (110, .iconst 0, 1, 0, 0, 0) := by decide +kernel
theorem pa_33_111 : pz_at 33 111 = some (111, .ireturn, 1, 0, 0, 0) := by decide +kernel
theorem pa_33_112 : pz_at 33 112 = some (112, .aload_n 0, 1, 0, 0, 0) := by decide +kernel
theorem pa_33_113 : pz_at 33 113 = some (113, .getfield 18, 3, 2, 5, 384) := by decide +kernel
theorem pa_33_116 : pz_at 33 116 = some (116, .iload_n 2, 1, 0, 0, 0) := by decide +kernel
theorem pa_33_117 : pz_at 33 117 = some (117, .iaload, 1, 0, 0, 0) := by decide +kernel
theorem pa_33_118 : pz_at 33 118 = some (118, .iload_n 3, 1, 0, 0, 0) := by decide +kernel
theorem pa_33_119 : pz_at 33 119 = some (119, .if_icmp .ne 7, 3, 126, 0, 0) := by decide +kernel
theorem pa_33_12 : pz_at 33 12 = some (12, .iload_n 3, 1, 0, 0, 0) := by decide +kernel
theorem pa_33_122 : pz_at 33 122 = some (122, .iconst 1, 1, 0, 0, 0) := by decide +kernel
theorem pa_33_123 : pz_at 33 123 = some (123, .goto 4, 3, 127, 0, 0) := by decide +kernel
theorem pa_33_126 : pz_at 33 126 = some (126, .iconst 0, 1, 0, 0, 0) := by decide +kernel
theorem pa_33_127 : pz_at 33 127 = some (127, .ireturn, 1, 0, 0, 0) := by decide +kernel
theorem pa_33_13 : pz_at 33 13 = some (13, .aload_n 0, 1, 0, 0, 0) := by decide +kernel
theorem pa_33_14 : pz_at 33 14 = some (14, .getfield 38, 3, 2, 9, 388) := by decide +kernel
theorem pa_33_17 : pz_at 33 17 = some (17, .if_icmp .ge 14, 3, 31, 0, 0) := by decide +kernel
theorem pa_33_20 : pz_at 33 20 = some (20, .iload_n 2, 1, 0, 0, 0) := by decide +kernel
theorem pa_33_21 : pz_at 33 21 = some (21, .iload_n 3, 1, 0, 0, 0) := by decide +kernel
theorem pa_33_22 : pz_at 33 22 = some (22, .if_icmp .ne 7, 3, 29, 0, 0) := by decide +kernel
theorem pa_33_25 : pz_at 33 25 = some (25, .iconst 1, 1, 0, 0, 0) := by decide +kernel
theorem pa_33_26 : pz_at 33 26 = some (26, .goto 4, 3, 30, 0, 0) := by decide +kernel
theorem pa_33_29 : pz_at 33 29 = some (29, .iconst 0, 1, 0, 0, 0) := by decide +kernel
theorem pa_33_30 : pz_at 33 30 = some (30, .ireturn, 1, 0, 0, 0) := by decide +kernel
theorem pa_33_31 : pz_at 33 31 = some (31, .aload_n 0, 1, 0, 0, 0) := by decide +kernel
theorem pa_33_32 : pz_at 33 32 = some (32, .getfield 18, 3, 2, 5, 384) := by decide +kernel
theorem pa_33_35 : pz_at 33 35 = some (35, .iload_n 2, 1, 0, 0, 0) := by decide +kernel
theorem pa_33_36 : pz_at 33 36 = some (36, .iaload, 1, 0, 0, 0) := by decide +kernel
theorem pa_33_37 : pz_at 33 37 = some (37, .iconst (-1), 1, 0, 0, 0) := by decide +kernel
theorem pa_33_38 : pz_at 33 38 = some (38, .if_icmp .ne 74, 3, 112, 0, 0) := by decide +kernel
theorem pa_33_4 : pz_at 33 4 = some (4, .iload_n 2, 1, 0, 0, 0) := by decide +kernel
theorem pa_33_41 : pz_at 33 41 = some (41, .aload_n 0, 1, 0, 0, 0) := by decide +kernel
theorem pa_33_42 : pz_at 33 42 = some (42, .getfield 21, 3, 2, 6, 385) := by decide +kernel
theorem pa_33_45 : pz_at 33 45 = some (45, .iload_n 3, 1, 0, 0, 0) := by decide +kernel
theorem pa_33_46 : pz_at 33 46 = some (46, .iaload, 1, 0, 0, 0) := by decide +kernel
theorem pa_33_47 : pz_at 33 47 = some (47, .iconst (-1), 1, 0, 0, 0) := by decide +kernel
theorem pa_33_48 : pz_at 33 48 = some (48, .if_icmp .ne 64, 3, 112, 0, 0) := by decide +kernel
theorem pa_33_5 : pz_at 33 5 = some (5, .aload_n 0, 1, 0, 0, 0) := by decide +kernel
theorem pa_33_51 : pz_at 33 51 = some (51, .aload_n 0, 1, 0, 0, 0) := by decide +kernel
theorem pa_33_52 : pz_at 33 52 = some (52, .getfield 18, 3, 2, 5, 384) := by decide +kernel
theorem pa_33_55 : pz_at 33 55 = some (55, .iload_n 2, 1, 0, 0, 0) := by decide +kernel
theorem pa_33_56 : pz_at 33 56 = some (56, .iload_n 3, 1, 0, 0, 0) := by decide +kernel
theorem pa_33_57 : pz_at 33 57 = some (57, .iastore, 1, 0, 0, 0) := by decide +kernel
theorem pa_33_58 : pz_at 33 58 = some (58, .aload_n 0, 1, 0, 0, 0) := by decide +kernel
theorem pa_33_59 : pz_at 33 59 = some (59, .getfield 21, 3, 2, 6, 385) := by decide +kernel
theorem pa_33_6 : pz_at 33 6 = some (6, .getfield 38, 3, 2, 9, 388) := by decide +kernel
theorem pa_33_62 : pz_at 33 62 = some (62, .iload_n 3, 1, 0, 0, 0) := by decide +kernel
theorem pa_33_63 : pz_at 33 63 = some (63, .iload_n 2, 1, 0, 0, 0) := by decide +kernel
theorem pa_33_64 : pz_at 33 64 = some (64, .iastore, 1, 0, 0, 0) := by decide +kernel
theorem pa_33_65 : pz_at 33 65 = some (65, .aload_n 0, 1, 0, 0, 0) := by decide +kernel
theorem pa_33_66 : pz_at 33 66 = some (66, .getfield 24, 3, 2, 7, 386) := by decide +kernel
theorem pa_33_69 : pz_at 33 69 = some (69, .aload_n 0, 1, 0, 0, 0) := by decide +kernel
theorem pa_33_70 : pz_at 33 70 = some (70, .getfield 42, 3, 2, 8, 387) := by decide +kernel
theorem pa_33_73 : pz_at 33 73 = some (73, .iload_n 2, 1, 0, 0, 0) := by decide +kernel
theorem pa_33_74 : pz_at 33 74 = some (74, .iastore, 1, 0, 0, 0) := by decide +kernel
theorem pa_33_75 : pz_at 33 75 = some (75, .aload_n 0, 1, 0, 0, 0) := by decide +kernel
theorem pa_33_76 : pz_at 33 76 = some (76, .dup, 1, 0, 0, 0) := by decide +kernel
theorem pa_33_77 : pz_at 33 77 = some (77, .getfield 42, 3, 2, 8, 387) := by decide +kernel
theorem pa_33_80 : pz_at 33 80 = some (80, .iconst 1, 1, 0, 0, 0) := by decide +kernel
theorem pa_33_81 : pz_at 33 81 = some (81, .iadd, 1, 0, 0, 0) := by decide +kernel
theorem pa_33_82 : pz_at 33 82 = some (82, .putfield 42, 3, 2, 8, 387) := by decide +kernel
theorem pa_33_85 : pz_at 33 85 = some (85, .aload_n 0, 1, 0, 0, 0) := by decide +kernel
theorem pa_33_86 : pz_at 33 86 = some (86, .getfield 31, 3, 2, 1, 378) := by decide +kernel
theorem pa_33_89 : pz_at 33 89 = some (89, .getfield 98, 3, 5, 2, 215) := by decide +kernel
theorem pa_33_9 : pz_at 33 9 = some (9, .if_icmp .lt 11, 3, 20, 0, 0) := by decide +kernel
theorem pa_33_92 : pz_at 33 92 = some (92, .iload_n 2, 1, 0, 0, 0) := by decide +kernel
theorem pa_33_93 : pz_at 33 93 = some (93, .iaload, 1, 0, 0, 0) := by decide +kernel
theorem pa_33_94 : pz_at 33 94 = some (94, .aload_n 0, 1, 0, 0, 0) := by decide +kernel
theorem pa_33_95 : pz_at 33 95 = some (95, .getfield 35, 3, 2, 2, 379) := by decide +kernel
theorem pa_33_98 : pz_at 33 98 = some (98, .getfield 98, 3, 5, 2, 215) := by decide +kernel
theorem pf_16_5_2 : pz_gf 16 5 2 = some (some 17) := by decide +kernel
theorem pf_26_5_2 : pz_gf 26 5 2 = some (some 27) := by decide +kernel
theorem pg_17 : pz_ga 17 = some (.int, 60) := by decide +kernel
theorem pg_27 : pz_ga 27 = some (.int, 60) := by decide +kernel
theorem pr_33 : (pz_mi 33).2.2 = (some .boolean) := by decide +kernel
theorem pa_34_0 : pz_at 34 0 = some (0, .aload_n 0, 1, 0, 0, 0) := by decide +kernel
theorem pa_34_1 : pz_at 34 1 = some (1, .getfield 12, 3, 3, 3, 333) := by decide +kernel
theorem pa_34_100 : pz_at 34 100 = some (100, .iload 4, 2, 0, 0, 0) := by decide +kernel
theorem pa_34_102 : pz_at 34 102 = some (102, .iload 6, 2, 0, 0, 0) := by decide +kernel
theorem pa_34_104 : pz_at 34 104 = some (104, .iadd, 1, 0, 0, 0) := by decide +kernel
theorem pa_34_105 : pz_at 34 105 = some (105, .iaload, 1, 0, 0, 0) := by decide +kernel
theorem pa_34_106 : pz_at 34 106 = some (106, .iastore, 1, 0, 0, 0) := by decide +kernel
theorem pa_34_107 : pz_at 34 107 = some (107, .aload_n 0, 1, 0, 0, 0) := by decide +kernel
theorem pa_34_108 : pz_at 34 108 = some (108, .getfield 31, 3, 3, 12, 343) := by decide +kernel
theorem pa_34_111 : pz_at 34 111 = some (111, .iload 6, 2, 0, 0, 0) := by decide +kernel
theorem pa_34_113 : pz_at 34 113 = some (113, .aload_n 3, 1, 0, 0, 0) := by decide +kernel
theorem pa_34_114 : pz_at 34 114 = some (114, .iload 4, 2, 0, 0, 0) := by decide +kernel
theorem pa_34_116 : pz_at 34 116 = some (116, .iload 6, 2, 0, 0, 0) := by decide +kernel
theorem pa_34_118 : pz_at 34 118 = some (118, .iadd, 1, 0, 0, 0) := by decide +kernel
theorem pa_34_119 : pz_at 34 119 = some (119, .iaload, 1, 0, 0, 0) := by decide +kernel
theorem pa_34_12 : pz_at 34 12 = some (12, .aload_n 0, 1, 0, 0, 0) := by decide +kernel
theorem pa_34_120 : pz_at 34 120 = some (120, .iastore, 1, 0, 0, 0) := by decide +kernel
theorem pa_34_121 : pz_at 34 121 = some (121, .iinc 6 1, 3, 0, 0, 0) := by decide +kernel
theorem pa_34_124 : pz_at 34 124 = some (124, .goto (-45), 3, 79, 0, 0) := by decide +kernel
theorem pa_34_127 : pz_at 34 127 = some (127, .iconst 0, 1, 0, 0, 0) := by decide +kernel
theorem pa_34_128 : pz_at 34 128 = some (128, .istore 6, 2, 0, 0, 0) := by decide +kernel
theorem pa_34_13 : pz_at 34 13 = some (13, .iconst 0, 1, 0, 0, 0) := by decide +kernel
theorem pa_34_130 : pz_at 34 130 = some (130, .iconst 0, 1, 0, 0, 0) := by decide +kernel
theorem pa_34_131 : pz_at 34 131 = some (131, .istore 7, 2, 0, 0, 0) := by decide +kernel
theorem pa_34_133 : pz_at 34 133 = some (133, .iload 7, 2, 0, 0, 0) := by decide +kernel
theorem pa_34_135 : pz_at 34 135 = some (135, .sipush 1500, 3, 0, 0, 0) := by decide +kernel
theorem pa_34_138 : pz_at 34 138 = some (138, .if_icmp .ge 42, 3, 180, 0, 0) := by decide +kernel
theorem pa_34_14 : pz_at 34 14 = some (14, .putfield 53, 3, 3, 9, 340) := by decide +kernel
theorem pa_34_141 : pz_at 34 141 = some (141, .aload_n 0, 1, 0, 0, 0) := by decide +kernel
theorem pa_34_142 : pz_at 34 142 = some (142, .getfield 49, 3, 3, 8, 339) := by decide +kernel
theorem pa_34_145 : pz_at 34 145 = some (145, .ifCond .le 35, 3, 180, 0, 0) := by decide +kernel
theorem pa_34_148 : pz_at 34 148 = some (148, .iload 6, 2, 0, 0, 0) := by decide +kernel
theorem pa_34_150 : pz_at 34 150 = some (150, .bipush (-4), 2, 0, 0, 0) := by decide +kernel
theorem pa_34_152 : pz_at 34 152 = some (152, .if_icmp .eq 28, 3, 180, 0, 0) := by decide +kernel
theorem pa_34_155 : pz_at 34 155 = some (155, .aload_n 0, 1, 0, 0, 0) := by decide +kernel
theorem pa_34_156 : pz_at 34 156 = some (156, .invokevirtual 80, 3, 42, 0, 757) := by decide +kernel
theorem pa_34_159 : pz_at 34 159 = some (159, .istore 6, 2, 0, 0, 0) := by decide +kernel
theorem pa_34_161 : pz_at 34 161 = some (161, .iload 6, 2, 0, 0, 0) := by decide +kernel
theorem pa_34_163 : pz_at 34 163 = some (163, .ifCond .le 11, 3, 174, 0, 0) := by decide +kernel
theorem pa_34_166 : pz_at 34 166 = some (166, .aload_n 0, 1, 0, 0, 0) := by decide +kernel
theorem pa_34_167 : pz_at 34 167 = some (167, .iload 6, 2, 0, 0, 0) := by decide +kernel
theorem pa_34_169 : pz_at 34 169 = some (169, .invokevirtual 84, 3, 38, 1, 834) := by decide +kernel
theorem pa_34_17 : pz_at 34 17 = some (17, .aload_n 0, 1, 0, 0, 0) := by decide +kernel
theorem pa_34_172 : pz_at 34 172 = some (172, .istore 6, 2, 0, 0, 0) := by decide +kernel
theorem pa_34_174 : pz_at 34 174 = some (174, .iinc 7 1, 3, 0, 0, 0) := by decide +kernel
theorem pa_34_177 : pz_at 34 177 = some (177, .goto (-44), 3, 133, 0, 0) := by decide +kernel
theorem pa_34_18 : pz_at 34 18 = some (18, .aload_n 0, 1, 0, 0, 0) := by decide +kernel
theorem pa_34_180 : pz_at 34 180 = some (180, .aload_n 0, 1, 0, 0, 0) := by decide +kernel
theorem pa_34_181 : pz_at 34 181 = some (181, .getfield 49, 3, 3, 8, 339) := by decide +kernel
theorem pa_34_184 : pz_at 34 184 = some (184, .ifCond .le 6, 3, 190, 0, 0) := by decide +kernel
theorem pa_34_187 : pz_at 34 187 = some (187, .bipush (-4), 2, 0, 0, 0) := by decide +kernel
theorem pa_34_189 : pz_at 34 189 = some (189, .ireturn, 1, 0, 0, 0) := by decide +kernel
theorem pa_34_19 : pz_at 34 19 = some (19, .getfield 38, 3, 3, 1, 331) := by decide +kernel
theorem pa_34_190 : pz_at 34 190 = some (190, .aload_n 0, 1, 0, 0, 0) := by decide +kernel
theorem pa_34_191 : pz_at 34 191 = some (191, .getfield 12, 3, 3, 3, 333) := by decide +kernel
theorem pa_34_194 : pz_at 34 194 = some (194, .aload_n 0, 1, 0, 0, 0) := by decide +kernel
theorem pa_34_195 : pz_at 34 195 = some (195, .getfield 38, 3, 3, 1, 331) := by decide +kernel
theorem pa_34_198 : pz_at 34 198 = some (198, .getfield 56, 3, 5, 0, 209) := by decide +kernel
theorem pa_34_201 : pz_at 34 201 = some (201, .aload_n 0, 1, 0, 0, 0) := by decide +kernel
theorem pa_34_202 : pz_at 34 202 = some (202, .getfield 61, 3, 3, 10, 341) := by decide +kernel
theorem pa_34_205 : pz_at 34 205 = some (205, .isub, 1, 0, 0, 0) := by decide +kernel
theorem pa_34_206 : pz_at 34 206 = some (206, .putfield 88, 3, 0, 4, 304) := by decide +kernel
theorem pa_34_209 : pz_at 34 209 = some (209, .aload_n 0, 1, 0, 0, 0) := by decide +kernel
theorem pa_34_210 : pz_at 34 210 = some (210, .iload_n 1, 1, 0, 0, 0) := by decide +kernel
theorem pa_34_211 : pz_at 34 211 = some (211, .invokevirtual 91, 3, 35, 1, 839) := by decide +kernel
theorem pa_34_214 : pz_at 34 214 = some (214, .aload_n 0, 1, 0, 0, 0) := by decide +kernel
theorem pa_34_215 : pz_at 34 215 = some (215, .getfield 12, 3, 3, 3, 333) := by decide +kernel
theorem pa_34_218 : pz_at 34 218 = some (218, .getfield 94, 3, 0, 6, 309) := by decide +kernel
theorem pa_34_22 : pz_at 34 22 = some (22, .getfield 56, 3, 5, 0, 209) := by decide +kernel
theorem pa_34_221 : pz_at 34 221 = some (221, .ireturn, 1, 0, 0, 0) := by decide +kernel
theorem pa_34_25 : pz_at 34 25 = some (25, .putfield 61, 3, 3, 10, 341) := by decide +kernel
theorem pa_34_28 : pz_at 34 28 = some (28, .aload_n 0, 1, 0, 0, 0) := by decide +kernel
theorem pa_34_29 : pz_at 34 29 = some (29, .iload 5, 2, 0, 0, 0) := by decide +kernel
theorem pa_34_31 : pz_at 34 31 = some (31, .putfield 64, 3, 3, 11, 342) := by decide +kernel
theorem pa_34_34 : pz_at 34 34 = some (34, .aload_n 0, 1, 0, 0, 0) := by decide +kernel
theorem pa_34_35 : pz_at 34 35 = some (35, .iload_n 1, 1, 0, 0, 0) := by decide +kernel
theorem pa_34_36 : pz_at 34 36 = some (36, .invokevirtual 68, 3, 36, 1, 753) := by decide +kernel
theorem pa_34_39 : pz_at 34 39 = some (39, .iconst 0, 1, 0, 0, 0) := by decide +kernel
theorem pa_34_4 : pz_at 34 4 = some (4, .invokevirtual 46, 3, 0, 0, 749) := by decide +kernel
theorem pa_34_40 : pz_at 34 40 = some (40, .istore 6, 2, 0, 0, 0) := by decide +kernel
theorem pa_34_42 : pz_at 34 42 = some (42, .iload 6, 2, 0, 0, 0) := by decide +kernel
theorem pa_34_44 : pz_at 34 44 = some (44, .aload_n 0, 1, 0, 0, 0) := by decide +kernel
theorem pa_34_45 : pz_at 34 45 = some (45, .getfield 34, 3, 3, 0, 330) := by decide +kernel
theorem pa_34_48 : pz_at 34 48 = some (48, .getfield 72, 3, 4, 8, 136) := by decide +kernel
theorem pa_34_51 : pz_at 34 51 = some (51, .iload_n 1, 1, 0, 0, 0) := by decide +kernel
theorem pa_34_52 : pz_at 34 52 = some (52, .iaload, 1, 0, 0, 0) := by decide +kernel
theorem pa_34_53 : pz_at 34 53 = some (53, .if_icmp .ge 23, 3, 76, 0, 0) := by decide +kernel
theorem pa_34_56 : pz_at 34 56 = some (56, .aload_n 0, 1, 0, 0, 0) := by decide +kernel
theorem pa_34_57 : pz_at 34 57 = some (57, .getfield 25, 3, 3, 6, 337) := by decide +kernel
theorem pa_34_60 : pz_at 34 60 = some (60, .iload 6, 2, 0, 0, 0) := by decide +kernel
theorem pa_34_62 : pz_at 34 62 = some (62, .aload_n 2, 1, 0, 0, 0) := by decide +kernel
theorem pa_34_63 : pz_at 34 63 = some (63, .iload 4, 2, 0, 0, 0) := by decide +kernel
theorem pa_34_65 : pz_at 34 65 = some (65, .iload 6, 2, 0, 0, 0) := by decide +kernel
theorem pa_34_67 : pz_at 34 67 = some (67, .iadd, 1, 0, 0, 0) := by decide +kernel
theorem pa_34_68 : pz_at 34 68 = some (68, .iaload, 1, 0, 0, 0) := by decide +kernel
theorem pa_34_69 : pz_at 34 69 = some (69, .iastore, 1, 0, 0, 0) := by decide +kernel
theorem pa_34_7 : pz_at 34 7 = some (7, .aload_n 0, 1, 0, 0, 0) := by decide +kernel
theorem pa_34_70 : pz_at 34 70 = some (70, .iinc 6 1, 3, 0, 0, 0) := by decide +kernel
theorem pa_34_73 : pz_at 34 73 = some (73, .goto (-31), 3, 42, 0, 0) := by decide +kernel
theorem pa_34_76 : pz_at 34 76 = some (76, .iconst 0, 1, 0, 0, 0) := by decide +kernel
theorem pa_34_77 : pz_at 34 77 = some (77, .istore 6, 2, 0, 0, 0) := by decide +kernel
theorem pa_34_79 : pz_at 34 79 = some (79, .iload 6, 2, 0, 0, 0) := by decide +kernel
theorem pa_34_8 : pz_at 34 8 = some (8, .iconst 0, 1, 0, 0, 0) := by decide +kernel
theorem pa_34_81 : pz_at 34 81 = some (81, .aload_n 0, 1, 0, 0, 0) := by decide +kernel
theorem pa_34_82 : pz_at 34 82 = some (82, .getfield 34, 3, 3, 0, 330) := by decide +kernel
theorem pa_34_85 : pz_at 34 85 = some (85, .getfield 77, 3, 4, 9, 138) := by decide +kernel
theorem pa_34_88 : pz_at 34 88 = some (88, .iload_n 1, 1, 0, 0, 0) := by decide +kernel
theorem pa_34_89 : pz_at 34 89 = some (89, .iaload, 1, 0, 0, 0) := by decide +kernel
theorem pa_34_9 : pz_at 34 9 = some (9, .putfield 49, 3, 3, 8, 339) := by decide +kernel
theorem pa_34_90 : pz_at 34 90 = some (90, .if_icmp .ge 37, 3, 127, 0, 0) := by decide +kernel
theorem pa_34_93 : pz_at 34 93 = some (93, .aload_n 0, 1, 0, 0, 0) := by decide +kernel
theorem pa_34_94 : pz_at 34 94 = some (94, .getfield 28, 3, 3, 7, 338) := by decide +kernel
theorem pa_34_97 : pz_at 34 97 = some (97, .iload 6, 2, 0, 0, 0) := by decide +kernel
theorem pa_34_99 : pz_at 34 99 = some (99, .aload_n 3, 1, 0, 0, 0) := by decide +kernel
theorem pc_39 : pz_gc 39 = some 3 := by decide +kernel
theorem pc_40 : pz_gc 40 = some 0 := by decide +kernel
theorem pf_1_4_8 : pz_gf 1 4 8 = some (some 6) := by decide +kernel
theorem pf_16_5_0 : pz_gf 16 5 0 = some none := by decide +kernel
theorem pf_39_3_0 : pz_gf 39 3 0 = some (some 1) := by decide +kernel
theorem pf_39_3_1 : pz_gf 39 3 1 = some (some 16) := by decide +kernel
theorem pf_39_3_10 : pz_gf 39 3 10 = some none := by decide +kernel
theorem pf_39_3_11 : pz_gf 39 3 11 = some none := by decide +kernel
theorem pf_39_3_12 : pz_gf 39 3 12 = some (some 45) := by decide +kernel
theorem pf_39_3_3 : pz_gf 39 3 3 = some (some 40) := by decide +kernel
theorem pf_39_3_6 : pz_gf 39 3 6 = some (some 43) := by decide +kernel
theorem pf_39_3_7 : pz_gf 39 3 7 = some (some 44) := by decide +kernel
theorem pf_39_3_8 : pz_gf 39 3 8 = some none := by decide +kernel
theorem pf_39_3_9 : pz_gf 39 3 9 = some none := by decide +kernel
theorem pg_43 : pz_ga 43 = some (.int, 96) := by decide +kernel
theorem pg_44 : pz_ga 44 = some (.int, 96) := by decide +kernel
theorem pg_45 : pz_ga 45 = some (.int, 3) := by decide +kernel
theorem pg_53 : pz_ga 53 = some (.int, 6) := by decide +kernel
theorem pg_54 : pz_ga 54 = some (.int, 6) := by decide +kernel
theorem pg_6 : pz_ga 6 = some (.int, 10) := by decide +kernel
theorem pm_0 : pz_mi 0 = (0, 1, none) := by decide +kernel
theorem pm_35 : pz_mi 35 = (3, 4, none) := by decide +kernel
theorem pm_36 : pz_mi 36 = (3, 3, none) := by decide +kernel
theorem pm_38 : pz_mi 38 = (3, 4, (some .int)) := by decide +kernel
theorem pm_42 : pz_mi 42 = (3, 5, (some .int)) := by decide +kernel
theorem pr_34 : (pz_mi 34).2.2 = (some .int) := by decide +kernel
theorem pa_35_0 : pz_at 35 0 = some (0, .aload_n 0, 1, 0, 0, 0) := by decide +kernel
theorem pa_35_1 : pz_at 35 1 = some (1, .getfield 12, 3, 3, 3, 333) := by decide +kernel
theorem pa_35_10 : pz_at 35 10 = some (10, .aload_n 0, 1, 0, 0, 0) := by decide +kernel
theorem pa_35_11 : pz_at 35 11 = some (11, .getfield 42, 3, 3, 2, 332) := by decide +kernel
theorem pa_35_14 : pz_at 35 14 = some (14, .getfield 100, 3, 1, 6, 260) := by decide +kernel
theorem pa_35_17 : pz_at 35 17 = some (17, .iload_n 1, 1, 0, 0, 0) := by decide +kernel
theorem pa_35_18 : pz_at 35 18 = some (18, .baload, 1, 0, 0, 0) := by decide +kernel
theorem pa_35_19 : pz_at 35 19 = some (19, .ifCond .ne 7, 3, 26, 0, 0) := by decide +kernel
theorem pa_35_22 : pz_at 35 22 = some (22, .iconst 1, 1, 0, 0, 0) := by decide +kernel
theorem pa_35_23 : pz_at 35 23 = some (23, .goto 4, 3, 27, 0, 0) := by decide +kernel
theorem pa_35_26 : pz_at 35 26 = some (26, .iconst 0, 1, 0, 0, 0) := by decide +kernel
theorem pa_35_27 : pz_at 35 27 = some (27, .istore_n 2, 1, 0, 0, 0) := by decide +kernel
theorem pa_35_28 : pz_at 35 28 = some (28, .aload_n 0, 1, 0, 0, 0) := by decide +kernel
theorem pa_35_29 : pz_at 35 29 = some (29, .getfield 12, 3, 3, 3, 333) := by decide +kernel
theorem pa_35_32 : pz_at 35 32 = some (32, .getfield 94, 3, 0, 6, 309) := by decide +kernel
theorem pa_35_35 : pz_at 35 35 = some (35, .ifCond .le 29, 3, 64, 0, 0) := by decide +kernel
theorem pa_35_38 : pz_at 35 38 = some (38, .aload_n 0, 1, 0, 0, 0) := by decide +kernel
theorem pa_35_39 : pz_at 35 39 = some (39, .getfield 42, 3, 3, 2, 332) := by decide +kernel
theorem pa_35_4 : pz_at 35 4 = some (4, .getfield 97, 3, 0, 2, 300) := by decide +kernel
theorem pa_35_42 : pz_at 35 42 = some (42, .getfield 105, 3, 1, 4, 257) := by decide +kernel
theorem pa_35_45 : pz_at 35 45 = some (45, .iload_n 1, 1, 0, 0, 0) := by decide +kernel
theorem pa_35_46 : pz_at 35 46 = some (46, .iaload, 1, 0, 0, 0) := by decide +kernel
theorem pa_35_47 : pz_at 35 47 = some (47, .aload_n 0, 1, 0, 0, 0) := by decide +kernel
theorem pa_35_48 : pz_at 35 48 = some (48, .getfield 12, 3, 3, 3, 333) := by decide +kernel
theorem pa_35_51 : pz_at 35 51 = some (51, .getfield 94, 3, 0, 6, 309) := by decide +kernel
theorem pa_35_54 : pz_at 35 54 = some (54, .ishr, 1, 0, 0, 0) := by decide +kernel
theorem pa_35_55 : pz_at 35 55 = some (55, .iconst 1, 1, 0, 0, 0) := by decide +kernel
theorem pa_35_56 : pz_at 35 56 = some (56, .iand, 1, 0, 0, 0) := by decide +kernel
theorem pa_35_57 : pz_at 35 57 = some (57, .ifCond .ne 7, 3, 64, 0, 0) := by decide +kernel
theorem pa_35_60 : pz_at 35 60 = some (60, .iconst 1, 1, 0, 0, 0) := by decide +kernel
theorem pa_35_61 : pz_at 35 61 = some (61, .goto 4, 3, 65, 0, 0) := by decide +kernel
theorem pa_35_64 : pz_at 35 64 = some (64, .iconst 0, 1, 0, 0, 0) := by decide +kernel
theorem pa_35_65 : pz_at 35 65 = some (65, .istore_n 3, 1, 0, 0, 0) := by decide +kernel
theorem pa_35_66 : pz_at 35 66 = some (66, .aload_n 0, 1, 0, 0, 0) := by decide +kernel
theorem pa_35_67 : pz_at 35 67 = some (67, .getfield 64, 3, 3, 11, 342) := by decide +kernel
theorem pa_35_7 : pz_at 35 7 = some (7, .ifCond .le 19, 3, 26, 0, 0) := by decide +kernel
theorem pa_35_70 : pz_at 35 70 = some (70, .ifCond .eq 19, 3, 89, 0, 0) := by decide +kernel
theorem pa_35_73 : pz_at 35 73 = some (73, .iload_n 2, 1, 0, 0, 0) := by decide +kernel
theorem pa_35_74 : pz_at 35 74 = some (74, .ifCond .ne 7, 3, 81, 0, 0) := by decide +kernel
theorem pa_35_77 : pz_at 35 77 = some (77, .iload_n 3, 1, 0, 0, 0) := by decide +kernel
theorem pa_35_78 : pz_at 35 78 = some (78, .ifCond .eq 11, 3, 89, 0, 0) := by decide +kernel
theorem pa_35_81 : pz_at 35 81 = some (81, .aload_n 0, 1, 0, 0, 0) := by decide +kernel
theorem pa_35_82 : pz_at 35 82 = some (82, .getfield 12, 3, 3, 3, 333) := by decide +kernel
theorem pa_35_85 : pz_at 35 85 = some (85, .iconst 1, 1, 0, 0, 0) := by decide +kernel
theorem pa_35_86 : pz_at 35 86 = some (86, .putfield 108, 3, 0, 7, 311) := by decide +kernel
theorem pa_35_89 : pz_at 35 89 = some (89, .return_, 1, 0, 0, 0) := by decide +kernel
theorem pf_39_3_2 : pz_gf 39 3 2 = some (some 31) := by decide +kernel
theorem pr_35 : (pz_mi 35).2.2 = none := by decide +kernel
theorem pa_36_0 : pz_at 36 0 = some (0, .aload_n 0, 1, 0, 0, 0) := by decide +kernel
theorem pa_36_1 : pz_at 36 1 = some (1, .getfield 18, 3, 3, 4, 335) := by decide +kernel
theorem pa_36_10 : pz_at 36 10 = some (10, .aload_n 0, 1, 0, 0, 0) := by decide +kernel
theorem pa_36_11 : pz_at 36 11 = some (11, .getfield 22, 3, 3, 5, 336) := by decide +kernel
theorem pa_36_14 : pz_at 36 14 = some (14, .aload_n 0, 1, 0, 0, 0) := by decide +kernel
theorem pa_36_15 : pz_at 36 15 = some (15, .getfield 49, 3, 3, 8, 339) := by decide +kernel
theorem pa_36_18 : pz_at 36 18 = some (18, .iconst 0, 1, 0, 0, 0) := by decide +kernel
theorem pa_36_19 : pz_at 36 19 = some (19, .iastore, 1, 0, 0, 0) := by decide +kernel
theorem pa_36_20 : pz_at 36 20 = some (20, .aload_n 0, 1, 0, 0, 0) := by decide +kernel
theorem pa_36_21 : pz_at 36 21 = some (21, .getfield 49, 3, 3, 8, 339) := by decide +kernel
theorem pa_36_24 : pz_at 36 24 = some (24, .bipush 8, 2, 0, 0, 0) := by decide +kernel
theorem pa_36_26 : pz_at 36 26 = some (26, .imul, 1, 0, 0, 0) := by decide +kernel
theorem pa_36_27 : pz_at 36 27 = some (27, .istore_n 2, 1, 0, 0, 0) := by decide +kernel
theorem pa_36_28 : pz_at 36 28 = some (28, .iload_n 2, 1, 0, 0, 0) := by decide +kernel
theorem pa_36_29 : pz_at 36 29 = some (29, .aload_n 0, 1, 0, 0, 0) := by decide +kernel
theorem pa_36_30 : pz_at 36 30 = some (30, .getfield 49, 3, 3, 8, 339) := by decide +kernel
theorem pa_36_33 : pz_at 36 33 = some (33, .iconst 1, 1, 0, 0, 0) := by decide +kernel
theorem pa_36_34 : pz_at 36 34 = some (34, .iadd, 1, 0, 0, 0) := by decide +kernel
theorem pa_36_35 : pz_at 36 35 = some (35, .bipush 8, 2, 0, 0, 0) := by decide +kernel
theorem pa_36_37 : pz_at 36 37 = some (37, .imul, 1, 0, 0, 0) := by decide +kernel
theorem pa_36_38 : pz_at 36 38 = some (38, .if_icmp .ge 23, 3, 61, 0, 0) := by decide +kernel
theorem pa_36_4 : pz_at 36 4 = some (4, .aload_n 0, 1, 0, 0, 0) := by decide +kernel
theorem pa_36_41 : pz_at 36 41 = some (41, .aload_n 0, 1, 0, 0, 0) := by decide +kernel
theorem pa_36_42 : pz_at 36 42 = some (42, .getfield 25, 3, 3, 6, 337) := by decide +kernel
theorem pa_36_45 : pz_at 36 45 = some (45, .iload_n 2, 1, 0, 0, 0) := by decide +kernel
theorem pa_36_46 : pz_at 36 46 = some (46, .iconst 0, 1, 0, 0, 0) := by decide +kernel
theorem pa_36_47 : pz_at 36 47 = some (47, .iastore, 1, 0, 0, 0) := by decide +kernel
theorem pa_36_48 : pz_at 36 48 = some (48, .aload_n 0, 1, 0, 0, 0) := by decide +kernel
theorem pa_36_49 : pz_at 36 49 = some (49, .getfield 28, 3, 3, 7, 338) := by decide +kernel
theorem pa_36_5 : pz_at 36 5 = some (5, .getfield 49, 3, 3, 8, 339) := by decide +kernel
theorem pa_36_52 : pz_at 36 52 = some (52, .iload_n 2, 1, 0, 0, 0) := by decide +kernel
theorem pa_36_53 : pz_at 36 53 = some (53, .iconst (-1), 1, 0, 0, 0) := by decide +kernel
theorem pa_36_54 : pz_at 36 54 = some (54, .iastore, 1, 0, 0, 0) := by decide +kernel
theorem pa_36_55 : pz_at 36 55 = some (55, .iinc 2 1, 3, 0, 0, 0) := by decide +kernel
theorem pa_36_58 : pz_at 36 58 = some (58, .goto (-30), 3, 28, 0, 0) := by decide +kernel
theorem pa_36_61 : pz_at 36 61 = some (61, .aload_n 0, 1, 0, 0, 0) := by decide +kernel
theorem pa_36_62 : pz_at 36 62 = some (62, .dup, 1, 0, 0, 0) := by decide +kernel
theorem pa_36_63 : pz_at 36 63 = some (63, .getfield 49, 3, 3, 8, 339) := by decide +kernel
theorem pa_36_66 : pz_at 36 66 = some (66, .iconst 1, 1, 0, 0, 0) := by decide +kernel
theorem pa_36_67 : pz_at 36 67 = some (67, .iadd, 1, 0, 0, 0) := by decide +kernel
theorem pa_36_68 : pz_at 36 68 = some (68, .putfield 49, 3, 3, 8, 339) := by decide +kernel
theorem pa_36_71 : pz_at 36 71 = some (71, .return_, 1, 0, 0, 0) := by decide +kernel
theorem pa_36_8 : pz_at 36 8 = some (8, .iload_n 1, 1, 0, 0, 0) := by decide +kernel
theorem pa_36_9 : pz_at 36 9 = some (9, .iastore, 1, 0, 0, 0) := by decide +kernel
theorem pf_39_3_4 : pz_gf 39 3 4 = some (some 41) := by decide +kernel
theorem pf_39_3_5 : pz_gf 39 3 5 = some (some 42) := by decide +kernel
theorem pg_41 : pz_ga 41 = some (.int, 12) := by decide +kernel
theorem pg_42 : pz_ga 42 = some (.int, 12) := by decide +kernel
theorem pr_36 : (pz_mi 36).2.2 = none := by decide +kernel
theorem pa_37_0 : pz_at 37 0 = some (0, .aload_n 0, 1, 0, 0, 0) := by decide +kernel
theorem pa_37_1 : pz_at 37 1 = some (1, .getfield 34, 3, 3, 0, 330) := by decide +kernel
theorem pa_37_101 : pz_at 37 101 = some (101, .iload_n 3, 1, 0, 0, 0) := by decide +kernel
theorem pa_37_102 : pz_at 37 102 = some (102, .iaload, 1, 0, 0, 0) := by decide +kernel
theorem pa_37_103 : pz_at 37 103 = some (103, .iadd, 1, 0, 0, 0) := by decide +kernel
theorem pa_37_104 : pz_at 37 104 = some (104, .iload_n 1, 1, 0, 0, 0) := by decide +kernel
theorem pa_37_105 : pz_at 37 105 = some (105, .iastore, 1, 0, 0, 0) := by decide +kernel
theorem pa_37_106 : pz_at 37 106 = some (106, .goto 28, 3, 134, 0, 0) := by decide +kernel
theorem pa_37_109 : pz_at 37 109 = some (109, .iload_n 2, 1, 0, 0, 0) := by decide +kernel
theorem pa_37_11 : pz_at 37 11 = some (11, .aload_n 0, 1, 0, 0, 0) := by decide +kernel
theorem pa_37_110 : pz_at 37 110 = some (110, .iconst 2, 1, 0, 0, 0) := by decide +kernel
theorem pa_37_111 : pz_at 37 111 = some (111, .if_icmp .ne 23, 3, 134, 0, 0) := by decide +kernel
theorem pa_37_114 : pz_at 37 114 = some (114, .aload_n 0, 1, 0, 0, 0) := by decide +kernel
theorem pa_37_115 : pz_at 37 115 = some (115, .getfield 28, 3, 3, 7, 338) := by decide +kernel
theorem pa_37_118 : pz_at 37 118 = some (118, .aload_n 0, 1, 0, 0, 0) := by decide +kernel
theorem pa_37_119 : pz_at 37 119 = some (119, .invokevirtual 117, 3, 39, 0, 765) := by decide +kernel
theorem pa_37_12 : pz_at 37 12 = some (12, .getfield 49, 3, 3, 8, 339) := by decide +kernel
theorem pa_37_122 : pz_at 37 122 = some (122, .aload_n 0, 1, 0, 0, 0) := by decide +kernel
theorem pa_37_123 : pz_at 37 123 = some (123, .getfield 34, 3, 3, 0, 330) := by decide +kernel
theorem pa_37_126 : pz_at 37 126 = some (126, .getfield 123, 3, 4, 15, 158) := by decide +kernel
theorem pa_37_129 : pz_at 37 129 = some (129, .iload_n 3, 1, 0, 0, 0) := by decide +kernel
theorem pa_37_130 : pz_at 37 130 = some (130, .iaload, 1, 0, 0, 0) := by decide +kernel
theorem pa_37_131 : pz_at 37 131 = some (131, .iadd, 1, 0, 0, 0) := by decide +kernel
theorem pa_37_132 : pz_at 37 132 = some (132, .iload_n 1, 1, 0, 0, 0) := by decide +kernel
theorem pa_37_133 : pz_at 37 133 = some (133, .iastore, 1, 0, 0, 0) := by decide +kernel
theorem pa_37_134 : pz_at 37 134 = some (134, .aload_n 0, 1, 0, 0, 0) := by decide +kernel
theorem pa_37_135 : pz_at 37 135 = some (135, .invokevirtual 126, 3, 40, 0, 769) := by decide +kernel
theorem pa_37_138 : pz_at 37 138 = some (138, .pop, 1, 0, 0, 0) := by decide +kernel
theorem pa_37_139 : pz_at 37 139 = some (139, .return_, 1, 0, 0, 0) := by decide +kernel
theorem pa_37_15 : pz_at 37 15 = some (15, .iconst 1, 1, 0, 0, 0) := by decide +kernel
theorem pa_37_16 : pz_at 37 16 = some (16, .isub, 1, 0, 0, 0) := by decide +kernel
theorem pa_37_17 : pz_at 37 17 = some (17, .iaload, 1, 0, 0, 0) := by decide +kernel
theorem pa_37_18 : pz_at 37 18 = some (18, .iaload, 1, 0, 0, 0) := by decide +kernel
theorem pa_37_19 : pz_at 37 19 = some (19, .istore_n 2, 1, 0, 0, 0) := by decide +kernel
theorem pa_37_20 : pz_at 37 20 = some (20, .aload_n 0, 1, 0, 0, 0) := by decide +kernel
theorem pa_37_21 : pz_at 37 21 = some (21, .dup, 1, 0, 0, 0) := by decide +kernel
theorem pa_37_22 : pz_at 37 22 = some (22, .getfield 49, 3, 3, 8, 339) := by decide +kernel
theorem pa_37_25 : pz_at 37 25 = some (25, .iconst 1, 1, 0, 0, 0) := by decide +kernel
theorem pa_37_26 : pz_at 37 26 = some (26, .isub, 1, 0, 0, 0) := by decide +kernel
theorem pa_37_27 : pz_at 37 27 = some (27, .putfield 49, 3, 3, 8, 339) := by decide +kernel
theorem pa_37_30 : pz_at 37 30 = some (30, .aload_n 0, 1, 0, 0, 0) := by decide +kernel
theorem pa_37_31 : pz_at 37 31 = some (31, .getfield 49, 3, 3, 8, 339) := by decide +kernel
theorem pa_37_34 : pz_at 37 34 = some (34, .ifCond .ne 20, 3, 54, 0, 0) := by decide +kernel
theorem pa_37_37 : pz_at 37 37 = some (37, .aload_n 0, 1, 0, 0, 0) := by decide +kernel
theorem pa_37_38 : pz_at 37 38 = some (38, .getfield 12, 3, 3, 3, 333) := by decide +kernel
theorem pa_37_4 : pz_at 37 4 = some (4, .getfield 111, 3, 4, 10, 141) := by decide +kernel
theorem pa_37_41 : pz_at 37 41 = some (41, .iload_n 2, 1, 0, 0, 0) := by decide +kernel
theorem pa_37_42 : pz_at 37 42 = some (42, .ifCond .ne 7, 3, 49, 0, 0) := by decide +kernel
theorem pa_37_45 : pz_at 37 45 = some (45, .iconst 0, 1, 0, 0, 0) := by decide +kernel
theorem pa_37_46 : pz_at 37 46 = some (46, .goto 4, 3, 50, 0, 0) := by decide +kernel
theorem pa_37_49 : pz_at 37 49 = some (49, .iload_n 1, 1, 0, 0, 0) := by decide +kernel
theorem pa_37_50 : pz_at 37 50 = some (50, .putfield 114, 3, 0, 5, 306) := by decide +kernel
theorem pa_37_53 : pz_at 37 53 = some (53, .return_, 1, 0, 0, 0) := by decide +kernel
theorem pa_37_54 : pz_at 37 54 = some (54, .aload_n 0, 1, 0, 0, 0) := by decide +kernel
theorem pa_37_55 : pz_at 37 55 = some (55, .getfield 18, 3, 3, 4, 335) := by decide +kernel
theorem pa_37_58 : pz_at 37 58 = some (58, .aload_n 0, 1, 0, 0, 0) := by decide +kernel
theorem pa_37_59 : pz_at 37 59 = some (59, .getfield 49, 3, 3, 8, 339) := by decide +kernel
theorem pa_37_62 : pz_at 37 62 = some (62, .iconst 1, 1, 0, 0, 0) := by decide +kernel
theorem pa_37_63 : pz_at 37 63 = some (63, .isub, 1, 0, 0, 0) := by decide +kernel
theorem pa_37_64 : pz_at 37 64 = some (64, .iaload, 1, 0, 0, 0) := by decide +kernel
theorem pa_37_65 : pz_at 37 65 = some (65, .bipush 24, 2, 0, 0, 0) := by decide +kernel
theorem pa_37_67 : pz_at 37 67 = some (67, .imul, 1, 0, 0, 0) := by decide +kernel
theorem pa_37_68 : pz_at 37 68 = some (68, .aload_n 0, 1, 0, 0, 0) := by decide +kernel
theorem pa_37_69 : pz_at 37 69 = some (69, .getfield 22, 3, 3, 5, 336) := by decide +kernel
theorem pa_37_7 : pz_at 37 7 = some (7, .aload_n 0, 1, 0, 0, 0) := by decide +kernel
theorem pa_37_72 : pz_at 37 72 = some (72, .aload_n 0, 1, 0, 0, 0) := by decide +kernel
theorem pa_37_73 : pz_at 37 73 = some (73, .getfield 49, 3, 3, 8, 339) := by decide +kernel
theorem pa_37_76 : pz_at 37 76 = some (76, .iconst 1, 1, 0, 0, 0) := by decide +kernel
theorem pa_37_77 : pz_at 37 77 = some (77, .isub, 1, 0, 0, 0) := by decide +kernel
theorem pa_37_78 : pz_at 37 78 = some (78, .iaload, 1, 0, 0, 0) := by decide +kernel
theorem pa_37_79 : pz_at 37 79 = some (79, .iadd, 1, 0, 0, 0) := by decide +kernel
theorem pa_37_8 : pz_at 37 8 = some (8, .getfield 18, 3, 3, 4, 335) := by decide +kernel
theorem pa_37_80 : pz_at 37 80 = some (80, .istore_n 3, 1, 0, 0, 0) := by decide +kernel
theorem pa_37_81 : pz_at 37 81 = some (81, .iload_n 2, 1, 0, 0, 0) := by decide +kernel
theorem pa_37_82 : pz_at 37 82 = some (82, .iconst 1, 1, 0, 0, 0) := by decide +kernel
theorem pa_37_83 : pz_at 37 83 = some (83, .if_icmp .ne 26, 3, 109, 0, 0) := by decide +kernel
theorem pa_37_86 : pz_at 37 86 = some (86, .aload_n 0, 1, 0, 0, 0) := by decide +kernel
theorem pa_37_87 : pz_at 37 87 = some (87, .getfield 25, 3, 3, 6, 337) := by decide +kernel
theorem pa_37_90 : pz_at 37 90 = some (90, .aload_n 0, 1, 0, 0, 0) := by decide +kernel
theorem pa_37_91 : pz_at 37 91 = some (91, .invokevirtual 117, 3, 39, 0, 765) := by decide +kernel
theorem pa_37_94 : pz_at 37 94 = some (94, .aload_n 0, 1, 0, 0, 0) := by decide +kernel
theorem pa_37_95 : pz_at 37 95 = some (95, .getfield 34, 3, 3, 0, 330) := by decide +kernel
theorem pa_37_98 : pz_at 37 98 = some (98, .getfield 120, 3, 4, 13, 152) := by decide +kernel
theorem pm_39 : pz_mi 39 = (3, 1, (some .int)) := by decide +kernel
theorem pm_40 : pz_mi 40 = (3, 1, (some .int)) := by decide +kernel
theorem pr_37 : (pz_mi 37).2.2 = none := by decide +kernel
theorem pa_38_0 : pz_at 38 0 = some (0, .iconst 0, 1, 0, 0, 0) := by decide +kernel
theorem pa_38_1 : pz_at 38 1 = some (1, .istore_n 2, 1, 0, 0, 0) := by decide +kernel
theorem pa_38_100 : pz_at 38 100 = some (100, .putfield 94, 3, 0, 6, 309) := by decide +kernel
theorem pa_38_103 : pz_at 38 103 = some (103, .iconst 0, 1, 0, 0, 0) := by decide +kernel
theorem pa_38_104 : pz_at 38 104 = some (104, .ireturn, 1, 0, 0, 0) := by decide +kernel
theorem pa_38_12 : pz_at 38 12 = some (12, .ifCond .le 83, 3, 95, 0, 0) := by decide +kernel
theorem pa_38_15 : pz_at 38 15 = some (15, .aload_n 0, 1, 0, 0, 0) := by decide +kernel
theorem pa_38_16 : pz_at 38 16 = some (16, .dup, 1, 0, 0, 0) := by decide +kernel
theorem pa_38_17 : pz_at 38 17 = some (17, .getfield 53, 3, 3, 9, 340) := by decide +kernel
theorem pa_38_2 : pz_at 38 2 = some (2, .iload_n 2, 1, 0, 0, 0) := by decide +kernel
theorem pa_38_20 : pz_at 38 20 = some (20, .iconst 1, 1, 0, 0, 0) := by decide +kernel
theorem pa_38_21 : pz_at 38 21 = some (21, .iadd, 1, 0, 0, 0) := by decide +kernel
theorem pa_38_22 : pz_at 38 22 = some (22, .putfield 53, 3, 3, 9, 340) := by decide +kernel
theorem pa_38_25 : pz_at 38 25 = some (25, .aload_n 0, 1, 0, 0, 0) := by decide +kernel
theorem pa_38_26 : pz_at 38 26 = some (26, .getfield 53, 3, 3, 9, 340) := by decide +kernel
theorem pa_38_29 : pz_at 38 29 = some (29, .bipush 40, 2, 0, 0, 0) := by decide +kernel
theorem pa_38_3 : pz_at 38 3 = some (3, .bipush 12, 2, 0, 0, 0) := by decide +kernel
theorem pa_38_31 : pz_at 38 31 = some (31, .if_icmp .le 6, 3, 37, 0, 0) := by decide +kernel
theorem pa_38_34 : pz_at 38 34 = some (34, .bipush (-4), 2, 0, 0, 0) := by decide +kernel
theorem pa_38_36 : pz_at 38 36 = some (36, .ireturn, 1, 0, 0, 0) := by decide +kernel
theorem pa_38_37 : pz_at 38 37 = some (37, .aload_n 0, 1, 0, 0, 0) := by decide +kernel
theorem pa_38_38 : pz_at 38 38 = some (38, .getfield 34, 3, 3, 0, 330) := by decide +kernel
theorem pa_38_41 : pz_at 38 41 = some (41, .aload_n 0, 1, 0, 0, 0) := by decide +kernel
theorem pa_38_42 : pz_at 38 42 = some (42, .getfield 18, 3, 3, 4, 335) := by decide +kernel
theorem pa_38_45 : pz_at 38 45 = some (45, .aload_n 0, 1, 0, 0, 0) := by decide +kernel
theorem pa_38_46 : pz_at 38 46 = some (46, .getfield 49, 3, 3, 8, 339) := by decide +kernel
theorem pa_38_49 : pz_at 38 49 = some (49, .iconst 1, 1, 0, 0, 0) := by decide +kernel
theorem pa_38_5 : pz_at 38 5 = some (5, .if_icmp .ge 90, 3, 95, 0, 0) := by decide +kernel
theorem pa_38_50 : pz_at 38 50 = some (50, .isub, 1, 0, 0, 0) := by decide +kernel
theorem pa_38_51 : pz_at 38 51 = some (51, .iaload, 1, 0, 0, 0) := by decide +kernel
theorem pa_38_52 : pz_at 38 52 = some (52, .aload_n 0, 1, 0, 0, 0) := by decide +kernel
theorem pa_38_53 : pz_at 38 53 = some (53, .getfield 22, 3, 3, 5, 336) := by decide +kernel
theorem pa_38_56 : pz_at 38 56 = some (56, .aload_n 0, 1, 0, 0, 0) := by decide +kernel
theorem pa_38_57 : pz_at 38 57 = some (57, .getfield 49, 3, 3, 8, 339) := by decide +kernel
theorem pa_38_60 : pz_at 38 60 = some (60, .iconst 1, 1, 0, 0, 0) := by decide +kernel
theorem pa_38_61 : pz_at 38 61 = some (61, .isub, 1, 0, 0, 0) := by decide +kernel
theorem pa_38_62 : pz_at 38 62 = some (62, .iaload, 1, 0, 0, 0) := by decide +kernel
theorem pa_38_63 : pz_at 38 63 = some (63, .iload_n 1, 1, 0, 0, 0) := by decide +kernel
theorem pa_38_64 : pz_at 38 64 = some (64, .invokevirtual 129, 3, 65, 3, 838) := by decide +kernel
theorem pa_38_67 : pz_at 38 67 = some (67, .istore_n 3, 1, 0, 0, 0) := by decide +kernel
theorem pa_38_68 : pz_at 38 68 = some (68, .iload_n 3, 1, 0, 0, 0) := by decide +kernel
theorem pa_38_69 : pz_at 38 69 = some (69, .iconst (-1), 1, 0, 0, 0) := by decide +kernel
theorem pa_38_70 : pz_at 38 70 = some (70, .if_icmp .eq 9, 3, 79, 0, 0) := by decide +kernel
theorem pa_38_73 : pz_at 38 73 = some (73, .aload_n 0, 1, 0, 0, 0) := by decide +kernel
theorem pa_38_74 : pz_at 38 74 = some (74, .iload_n 3, 1, 0, 0, 0) := by decide +kernel
theorem pa_38_75 : pz_at 38 75 = some (75, .invokevirtual 133, 3, 41, 1, 826) := by decide +kernel
theorem pa_38_78 : pz_at 38 78 = some (78, .ireturn, 1, 0, 0, 0) := by decide +kernel
theorem pa_38_79 : pz_at 38 79 = some (79, .aload_n 0, 1, 0, 0, 0) := by decide +kernel
theorem pa_38_8 : pz_at 38 8 = some (8, .aload_n 0, 1, 0, 0, 0) := by decide +kernel
theorem pa_38_80 : pz_at 38 80 = some (80, .dup, 1, 0, 0, 0) := by decide +kernel
theorem pa_38_81 : pz_at 38 81 = some (81, .getfield 49, 3, 3, 8, 339) := by decide +kernel
theorem pa_38_84 : pz_at 38 84 = some (84, .iconst 1, 1, 0, 0, 0) := by decide +kernel
theorem pa_38_85 : pz_at 38 85 = some (85, .isub, 1, 0, 0, 0) := by decide +kernel
theorem pa_38_86 : pz_at 38 86 = some (86, .putfield 49, 3, 3, 8, 339) := by decide +kernel
theorem pa_38_89 : pz_at 38 89 = some (89, .iinc 2 1, 3, 0, 0, 0) := by decide +kernel
theorem pa_38_9 : pz_at 38 9 = some (9, .getfield 49, 3, 3, 8, 339) := by decide +kernel
theorem pa_38_92 : pz_at 38 92 = some (92, .goto (-90), 3, 2, 0, 0) := by decide +kernel
theorem pa_38_95 : pz_at 38 95 = some (95, .aload_n 0, 1, 0, 0, 0) := by decide +kernel
theorem pa_38_96 : pz_at 38 96 = some (96, .getfield 12, 3, 3, 3, 333) := by decide +kernel
theorem pa_38_99 : pz_at 38 99 = some (99, .iload_n 1, 1, 0, 0, 0) := by decide +kernel
theorem pm_41 : pz_mi 41 = (3, 2, (some .int)) := by decide +kernel
theorem pr_38 : (pz_mi 38).2.2 = (some .int) := by decide +kernel
theorem pa_39_0 : pz_at 39 0 = some (0, .aload_n 0, 1, 0, 0, 0) := by decide +kernel
theorem pa_39_1 : pz_at 39 1 = some (1, .getfield 49, 3, 3, 8, 339) := by decide +kernel
theorem pa_39_4 : pz_at 39 4 = some (4, .iconst 1, 1, 0, 0, 0) := by decide +kernel
theorem pa_39_5 : pz_at 39 5 = some (5, .isub, 1, 0, 0, 0) := by decide +kernel
theorem pa_39_6 : pz_at 39 6 = some (6, .bipush 8, 2, 0, 0, 0) := by decide +kernel
theorem pa_39_8 : pz_at 39 8 = some (8, .imul, 1, 0, 0, 0) := by decide +kernel
theorem pa_39_9 : pz_at 39 9 = some (9, .ireturn, 1, 0, 0, 0) := by decide +kernel
theorem pr_39 : (pz_mi 39).2.2 = (some .int) := by decide +kernel
theorem pa_40_0 : pz_at 40 0 = some (0, .aload_n 0, 1, 0, 0, 0) := by decide +kernel
theorem pa_40_1 : pz_at 40 1 = some (1, .getfield 22, 3, 3, 5, 336) := by decide +kernel
theorem pa_40_10 : pz_at 40 10 = some (10, .dup2, 1, 0, 0, 0) := by decide +kernel
theorem pa_40_11 : pz_at 40 11 = some (11, .iaload, 1, 0, 0, 0) := by decide +kernel
theorem pa_40_12 : pz_at 40 12 = some (12, .iconst 1, 1, 0, 0, 0) := by decide +kernel
theorem pa_40_13 : pz_at 40 13 = some (13, .iadd, 1, 0, 0, 0) := by decide +kernel
theorem pa_40_14 : pz_at 40 14 = some (14, .iastore, 1, 0, 0, 0) := by decide +kernel
theorem pa_40_15 : pz_at 40 15 = some (15, .iconst 0, 1, 0, 0, 0) := by decide +kernel
theorem pa_40_16 : pz_at 40 16 = some (16, .ireturn, 1, 0, 0, 0) := by decide +kernel
theorem pa_40_4 : pz_at 40 4 = some (4, .aload_n 0, 1, 0, 0, 0) := by decide +kernel
theorem pa_40_5 : pz_at 40 5 = some (5, .getfield 49, 3, 3, 8, 339) := by decide +kernel
theorem pa_40_8 : pz_at 40 8 = some (8, .iconst 1, 1, 0, 0, 0) := by decide +kernel
theorem pa_40_9 : pz_at 40 9 = some (9, .isub, 1, 0, 0, 0) := by decide +kernel
theorem pr_40 : (pz_mi 40).2.2 = (some .int) := by decide +kernel
theorem pa_41_0 : pz_at 41 0 = some (0, .aload_n 0, 1, 0, 0, 0) := by decide +kernel
theorem pa_41_1 : pz_at 41 1 = some (1, .getfield 22, 3, 3, 5, 336) := by decide +kernel
theorem pa_41_10 : pz_at 41 10 = some (10, .iload_n 1, 1, 0, 0, 0) := by decide +kernel
theorem pa_41_11 : pz_at 41 11 = some (11, .iastore, 1, 0, 0, 0) := by decide +kernel
theorem pa_41_12 : pz_at 41 12 = some (12, .iconst 0, 1, 0, 0, 0) := by decide +kernel
theorem pa_41_13 : pz_at 41 13 = some (13, .ireturn, 1, 0, 0, 0) := by decide +kernel
theorem pa_41_4 : pz_at 41 4 = some (4, .aload_n 0, 1, 0, 0, 0) := by decide +kernel
theorem pa_41_5 : pz_at 41 5 = some (5, .getfield 49, 3, 3, 8, 339) := by decide +kernel
theorem pa_41_8 : pz_at 41 8 = some (8, .iconst 1, 1, 0, 0, 0) := by decide +kernel
theorem pa_41_9 : pz_at 41 9 = some (9, .isub, 1, 0, 0, 0) := by decide +kernel
theorem pr_41 : (pz_mi 41).2.2 = (some .int) := by decide +kernel
theorem pa_42_0 : pz_at 42 0 = some (0, .aload_n 0, 1, 0, 0, 0) := by decide +kernel
theorem pa_42_1 : pz_at 42 1 = some (1, .getfield 18, 3, 3, 4, 335) := by decide +kernel
theorem pa_42_10 : pz_at 42 10 = some (10, .iaload, 1, 0, 0, 0) := by decide +kernel
theorem pa_42_101 : pz_at 42 101 = some (101, .getfield 145, 3, 4, 12, 149) := by decide +kernel
theorem pa_42_104 : pz_at 42 104 = some (104, .iload_n 3, 1, 0, 0, 0) := by decide +kernel
theorem pa_42_105 : pz_at 42 105 = some (105, .iaload, 1, 0, 0, 0) := by decide +kernel
theorem pa_42_106 : pz_at 42 106 = some (106, .istore 4, 2, 0, 0, 0) := by decide +kernel
theorem pa_42_108 : pz_at 42 108 = some (108, .iload 4, 2, 0, 0, 0) := by decide +kernel
theorem pa_42_11 : pz_at 42 11 = some (11, .istore_n 1, 1, 0, 0, 0) := by decide +kernel
theorem pa_42_110 : pz_at 42 110 = some (110, .iconst 5, 1, 0, 0, 0) := by decide +kernel
theorem pa_42_111 : pz_at 42 111 = some (111, .if_icmp .gt 11, 3, 122, 0, 0) := by decide +kernel
theorem pa_42_114 : pz_at 42 114 = some (114, .aload_n 0, 1, 0, 0, 0) := by decide +kernel
theorem pa_42_115 : pz_at 42 115 = some (115, .iload_n 3, 1, 0, 0, 0) := by decide +kernel
theorem pa_42_116 : pz_at 42 116 = some (116, .iload 4, 2, 0, 0, 0) := by decide +kernel
theorem pa_42_118 : pz_at 42 118 = some (118, .invokevirtual 148, 3, 43, 2, 773) := by decide +kernel
theorem pa_42_12 : pz_at 42 12 = some (12, .aload_n 0, 1, 0, 0, 0) := by decide +kernel
theorem pa_42_121 : pz_at 42 121 = some (121, .ireturn, 1, 0, 0, 0) := by decide +kernel
theorem pa_42_122 : pz_at 42 122 = some (122, .iload 4, 2, 0, 0, 0) := by decide +kernel
theorem pa_42_124 : pz_at 42 124 = some (124, .bipush 9, 2, 0, 0, 0) := by decide +kernel
theorem pa_42_126 : pz_at 42 126 = some (126, .if_icmp .gt 11, 3, 137, 0, 0) := by decide +kernel
theorem pa_42_129 : pz_at 42 129 = some (129, .aload_n 0, 1, 0, 0, 0) := by decide +kernel
theorem pa_42_13 : pz_at 42 13 = some (13, .getfield 22, 3, 3, 5, 336) := by decide +kernel
theorem pa_42_130 : pz_at 42 130 = some (130, .iload_n 3, 1, 0, 0, 0) := by decide +kernel
theorem pa_42_131 : pz_at 42 131 = some (131, .iload 4, 2, 0, 0, 0) := by decide +kernel
theorem pa_42_133 : pz_at 42 133 = some (133, .invokevirtual 152, 3, 44, 2, 777) := by decide +kernel
theorem pa_42_136 : pz_at 42 136 = some (136, .ireturn, 1, 0, 0, 0) := by decide +kernel
theorem pa_42_137 : pz_at 42 137 = some (137, .iload 4, 2, 0, 0, 0) := by decide +kernel
theorem pa_42_139 : pz_at 42 139 = some (139, .bipush 13, 2, 0, 0, 0) := by decide +kernel
theorem pa_42_141 : pz_at 42 141 = some (141, .if_icmp .gt 11, 3, 152, 0, 0) := by decide +kernel
theorem pa_42_144 : pz_at 42 144 = some (144, .aload_n 0, 1, 0, 0, 0) := by decide +kernel
theorem pa_42_145 : pz_at 42 145 = some (145, .iload_n 3, 1, 0, 0, 0) := by decide +kernel
theorem pa_42_146 : pz_at 42 146 = some (146, .iload 4, 2, 0, 0, 0) := by decide +kernel
theorem pa_42_148 : pz_at 42 148 = some (148, .invokevirtual 155, 3, 45, 2, 782) := by decide +kernel
theorem pa_42_151 : pz_at 42 151 = some (151, .ireturn, 1, 0, 0, 0) := by decide +kernel
theorem pa_42_152 : pz_at 42 152 = some (152, .iload 4, 2, 0, 0, 0) := by decide +kernel
theorem pa_42_154 : pz_at 42 154 = some (154, .bipush 15, 2, 0, 0, 0) := by decide +kernel
theorem pa_42_156 : pz_at 42 156 = some (156, .if_icmp .gt 11, 3, 167, 0, 0) := by decide +kernel
theorem pa_42_159 : pz_at 42 159 = some (159, .aload_n 0, 1, 0, 0, 0) := by decide +kernel
theorem pa_42_16 : pz_at 42 16 = some (16, .aload_n 0, 1, 0, 0, 0) := by decide +kernel
theorem pa_42_160 : pz_at 42 160 = some (160, .iload_n 3, 1, 0, 0, 0) := by decide +kernel
theorem pa_42_161 : pz_at 42 161 = some (161, .iload 4, 2, 0, 0, 0) := by decide +kernel
theorem pa_42_163 : pz_at 42 163 = some (163, .invokevirtual 158, 3, 46, 2, 795) := by decide +kernel
theorem pa_42_166 : pz_at 42 166 = some (166, .ireturn, 1, 0, 0, 0) := by decide +kernel
theorem pa_42_167 : pz_at 42 167 = some (167, .iload 4, 2, 0, 0, 0) := by decide +kernel
theorem pa_42_169 : pz_at 42 169 = some (169, .bipush 19, 2, 0, 0, 0) := by decide +kernel
theorem pa_42_17 : pz_at 42 17 = some (17, .getfield 49, 3, 3, 8, 339) := by decide +kernel
theorem pa_42_171 : pz_at 42 171 = some (171, .if_icmp .gt 11, 3, 182, 0, 0) := by decide +kernel
theorem pa_42_174 : pz_at 42 174 = some (174, .aload_n 0, 1, 0, 0, 0) := by decide +kernel
theorem pa_42_175 : pz_at 42 175 = some (175, .iload_n 3, 1, 0, 0, 0) := by decide +kernel
theorem pa_42_176 : pz_at 42 176 = some (176, .iload 4, 2, 0, 0, 0) := by decide +kernel
theorem pa_42_178 : pz_at 42 178 = some (178, .invokevirtual 161, 3, 47, 2, 801) := by decide +kernel
theorem pa_42_181 : pz_at 42 181 = some (181, .ireturn, 1, 0, 0, 0) := by decide +kernel
theorem pa_42_182 : pz_at 42 182 = some (182, .iload 4, 2, 0, 0, 0) := by decide +kernel
theorem pa_42_184 : pz_at 42 184 = some (184, .bipush 20, 2, 0, 0, 0) := by decide +kernel
theorem pa_42_186 : pz_at 42 186 = some (186, .if_icmp .ne 9, 3, 195, 0, 0) := by decide +kernel
theorem pa_42_189 : pz_at 42 189 = some (189, .aload_n 0, 1, 0, 0, 0) := by decide +kernel
theorem pa_42_190 : pz_at 42 190 = some (190, .iload_n 3, 1, 0, 0, 0) := by decide +kernel
theorem pa_42_191 : pz_at 42 191 = some (191, .invokevirtual 164, 3, 48, 1, 805) := by decide +kernel
theorem pa_42_194 : pz_at 42 194 = some (194, .ireturn, 1, 0, 0, 0) := by decide +kernel
theorem pa_42_195 : pz_at 42 195 = some (195, .iload 4, 2, 0, 0, 0) := by decide +kernel
theorem pa_42_197 : pz_at 42 197 = some (197, .bipush 21, 2, 0, 0, 0) := by decide +kernel
theorem pa_42_199 : pz_at 42 199 = some (199, .if_icmp .ne 9, 3, 208, 0, 0) := by decide +kernel
theorem pa_42_20 : pz_at 42 20 = some (20, .iconst 1, 1, 0, 0, 0) := by decide +kernel
theorem pa_42_202 : pz_at 42 202 = some (202, .aload_n 0, 1, 0, 0, 0) := by decide +kernel
theorem pa_42_203 : pz_at 42 203 = some (203, .iload_n 3, 1, 0, 0, 0) := by decide +kernel
theorem pa_42_204 : pz_at 42 204 = some (204, .invokevirtual 167, 3, 49, 1, 809) := by decide +kernel
theorem pa_42_207 : pz_at 42 207 = some (207, .ireturn, 1, 0, 0, 0) := by decide +kernel
theorem pa_42_208 : pz_at 42 208 = some (208, .iload 4, 2, 0, 0, 0) := by decide +kernel
theorem pa_42_21 : pz_at 42 21 = some (21, .isub, 1, 0, 0, 0) := by decide +kernel
theorem pa_42_210 : pz_at 42 210 = some (210, .bipush 22, 2, 0, 0, 0) := by decide +kernel
theorem pa_42_212 : pz_at 42 212 = some (212, .if_icmp .ne 9, 3, 221, 0, 0) := by decide +kernel
theorem pa_42_215 : pz_at 42 215 = some (215, .aload_n 0, 1, 0, 0, 0) := by decide +kernel
theorem pa_42_216 : pz_at 42 216 = some (216, .iload_n 3, 1, 0, 0, 0) := by decide +kernel
theorem pa_42_217 : pz_at 42 217 = some (217, .invokevirtual 170, 3, 50, 1, 813) := by decide +kernel
theorem pa_42_22 : pz_at 42 22 = some (22, .iaload, 1, 0, 0, 0) := by decide +kernel
theorem pa_42_220 : pz_at 42 220 = some (220, .ireturn, 1, 0, 0, 0) := by decide +kernel
theorem pa_42_221 : pz_at 42 221 = some (221, .iload 4, 2, 0, 0, 0) := by decide +kernel
theorem pa_42_223 : pz_at 42 223 = some (223, .bipush 28, 2, 0, 0, 0) := by decide +kernel
theorem pa_42_225 : pz_at 42 225 = some (225, .if_icmp .gt 34, 3, 259, 0, 0) := by decide +kernel
theorem pa_42_228 : pz_at 42 228 = some (228, .aload_n 0, 1, 0, 0, 0) := by decide +kernel
theorem pa_42_229 : pz_at 42 229 = some (229, .iload_n 3, 1, 0, 0, 0) := by decide +kernel
theorem pa_42_23 : pz_at 42 23 = some (23, .istore_n 2, 1, 0, 0, 0) := by decide +kernel
theorem pa_42_230 : pz_at 42 230 = some (230, .iload 4, 2, 0, 0, 0) := by decide +kernel
theorem pa_42_232 : pz_at 42 232 = some (232, .invokevirtual 173, 3, 51, 2, 821) := by decide +kernel
theorem pa_42_235 : pz_at 42 235 = some (235, .ifCond .eq 19, 3, 254, 0, 0) := by decide +kernel
theorem pa_42_238 : pz_at 42 238 = some (238, .aload_n 0, 1, 0, 0, 0) := by decide +kernel
theorem pa_42_239 : pz_at 42 239 = some (239, .aload_n 0, 1, 0, 0, 0) := by decide +kernel
theorem pa_42_24 : pz_at 42 24 = some (24, .iload_n 2, 1, 0, 0, 0) := by decide +kernel
theorem pa_42_240 : pz_at 42 240 = some (240, .getfield 34, 3, 3, 0, 330) := by decide +kernel
theorem pa_42_243 : pz_at 42 243 = some (243, .getfield 123, 3, 4, 15, 158) := by decide +kernel
theorem pa_42_246 : pz_at 42 246 = some (246, .iload_n 3, 1, 0, 0, 0) := by decide +kernel
theorem pa_42_247 : pz_at 42 247 = some (247, .iaload, 1, 0, 0, 0) := by decide +kernel
theorem pa_42_248 : pz_at 42 248 = some (248, .invokevirtual 133, 3, 41, 1, 826) := by decide +kernel
theorem pa_42_25 : pz_at 42 25 = some (25, .aload_n 0, 1, 0, 0, 0) := by decide +kernel
theorem pa_42_251 : pz_at 42 251 = some (251, .goto 7, 3, 258, 0, 0) := by decide +kernel
theorem pa_42_254 : pz_at 42 254 = some (254, .aload_n 0, 1, 0, 0, 0) := by decide +kernel
theorem pa_42_255 : pz_at 42 255 = some (255, .invokevirtual 126, 3, 40, 0, 769) := by decide +kernel
theorem pa_42_258 : pz_at 42 258 = some (258, .ireturn, 1, 0, 0, 0) := by decide +kernel
theorem pa_42_259 : pz_at 42 259 = some (259, .aload_n 0, 1, 0, 0, 0) := by decide +kernel
theorem pa_42_26 : pz_at 42 26 = some (26, .getfield 34, 3, 3, 0, 330) := by decide +kernel
theorem pa_42_260 : pz_at 42 260 = some (260, .iload_n 3, 1, 0, 0, 0) := by decide +kernel
theorem pa_42_261 : pz_at 42 261 = some (261, .iload 4, 2, 0, 0, 0) := by decide +kernel
theorem pa_42_263 : pz_at 42 263 = some (263, .invokevirtual 177, 3, 52, 2, 830) := by decide +kernel
theorem pa_42_266 : pz_at 42 266 = some (266, .ireturn, 1, 0, 0, 0) := by decide +kernel
theorem pa_42_29 : pz_at 42 29 = some (29, .getfield 136, 3, 4, 11, 147) := by decide +kernel
theorem pa_42_32 : pz_at 42 32 = some (32, .iload_n 1, 1, 0, 0, 0) := by decide +kernel
theorem pa_42_33 : pz_at 42 33 = some (33, .iaload, 1, 0, 0, 0) := by decide +kernel
theorem pa_42_34 : pz_at 42 34 = some (34, .if_icmp .lt 27, 3, 61, 0, 0) := by decide +kernel
theorem pa_42_37 : pz_at 42 37 = some (37, .aload_n 0, 1, 0, 0, 0) := by decide +kernel
theorem pa_42_38 : pz_at 42 38 = some (38, .aload_n 0, 1, 0, 0, 0) := by decide +kernel
theorem pa_42_39 : pz_at 42 39 = some (39, .getfield 34, 3, 3, 0, 330) := by decide +kernel
theorem pa_42_4 : pz_at 42 4 = some (4, .aload_n 0, 1, 0, 0, 0) := by decide +kernel
theorem pa_42_42 : pz_at 42 42 = some (42, .getfield 111, 3, 4, 10, 141) := by decide +kernel
theorem pa_42_45 : pz_at 42 45 = some (45, .iload_n 1, 1, 0, 0, 0) := by decide +kernel
theorem pa_42_46 : pz_at 42 46 = some (46, .iaload, 1, 0, 0, 0) := by decide +kernel
theorem pa_42_47 : pz_at 42 47 = some (47, .iconst 2, 1, 0, 0, 0) := by decide +kernel
theorem pa_42_48 : pz_at 42 48 = some (48, .if_icmp .ne 7, 3, 55, 0, 0) := by decide +kernel
theorem pa_42_5 : pz_at 42 5 = some (5, .getfield 49, 3, 3, 8, 339) := by decide +kernel
theorem pa_42_51 : pz_at 42 51 = some (51, .iconst (-1), 1, 0, 0, 0) := by decide +kernel
theorem pa_42_52 : pz_at 42 52 = some (52, .goto 4, 3, 56, 0, 0) := by decide +kernel
theorem pa_42_55 : pz_at 42 55 = some (55, .iconst 0, 1, 0, 0, 0) := by decide +kernel
theorem pa_42_56 : pz_at 42 56 = some (56, .invokevirtual 139, 3, 37, 1, 761) := by decide +kernel
theorem pa_42_59 : pz_at 42 59 = some (59, .iconst 0, 1, 0, 0, 0) := by decide +kernel
theorem pa_42_60 : pz_at 42 60 = some (60, .ireturn, 1, 0, 0, 0) := by decide +kernel
theorem pa_42_61 : pz_at 42 61 = some (61, .aload_n 0, 1, 0, 0, 0) := by decide +kernel
theorem pa_42_62 : pz_at 42 62 = some (62, .getfield 12, 3, 3, 3, 333) := by decide +kernel
theorem pa_42_65 : pz_at 42 65 = some (65, .getfield 142, 3, 0, 3, 302) := by decide +kernel
theorem pa_42_68 : pz_at 42 68 = some (68, .sipush 500, 3, 0, 0, 0) := by decide +kernel
theorem pa_42_71 : pz_at 42 71 = some (71, .if_icmp .lt 6, 3, 77, 0, 0) := by decide +kernel
theorem pa_42_74 : pz_at 42 74 = some (74, .bipush (-4), 2, 0, 0, 0) := by decide +kernel
theorem pa_42_76 : pz_at 42 76 = some (76, .ireturn, 1, 0, 0, 0) := by decide +kernel
theorem pa_42_77 : pz_at 42 77 = some (77, .aload_n 0, 1, 0, 0, 0) := by decide +kernel
theorem pa_42_78 : pz_at 42 78 = some (78, .getfield 12, 3, 3, 3, 333) := by decide +kernel
theorem pa_42_8 : pz_at 42 8 = some (8, .iconst 1, 1, 0, 0, 0) := by decide +kernel
theorem pa_42_81 : pz_at 42 81 = some (81, .dup, 1, 0, 0, 0) := by decide +kernel
theorem pa_42_82 : pz_at 42 82 = some (82, .getfield 142, 3, 0, 3, 302) := by decide +kernel
theorem pa_42_85 : pz_at 42 85 = some (85, .iconst 1, 1, 0, 0, 0) := by decide +kernel
theorem pa_42_86 : pz_at 42 86 = some (86, .iadd, 1, 0, 0, 0) := by decide +kernel
theorem pa_42_87 : pz_at 42 87 = some (87, .putfield 142, 3, 0, 3, 302) := by decide +kernel
theorem pa_42_9 : pz_at 42 9 = some (9, .isub, 1, 0, 0, 0) := by decide +kernel
theorem pa_42_90 : pz_at 42 90 = some (90, .iload_n 1, 1, 0, 0, 0) := by decide +kernel
theorem pa_42_91 : pz_at 42 91 = some (91, .bipush 24, 2, 0, 0, 0) := by decide +kernel
theorem pa_42_93 : pz_at 42 93 = some (93, .imul, 1, 0, 0, 0) := by decide +kernel
theorem pa_42_94 : pz_at 42 94 = some (94, .iload_n 2, 1, 0, 0, 0) := by decide +kernel
theorem pa_42_95 : pz_at 42 95 = some (95, .iadd, 1, 0, 0, 0) := by decide +kernel
theorem pa_42_96 : pz_at 42 96 = some (96, .istore_n 3, 1, 0, 0, 0) := by decide +kernel
theorem pa_42_97 : pz_at 42 97 = some (97, .aload_n 0, 1, 0, 0, 0) := by decide +kernel
theorem pa_42_98 : pz_at 42 98 = some (98, .getfield 34, 3, 3, 0, 330) := by decide +kernel
theorem pm_37 : pz_mi 37 = (3, 4, none) := by decide +kernel
theorem pm_43 : pz_mi 43 = (3, 6, (some .int)) := by decide +kernel
theorem pm_44 : pz_mi 44 = (3, 6, (some .int)) := by decide +kernel
theorem pm_45 : pz_mi 45 = (3, 9, (some .int)) := by decide +kernel
theorem pm_46 : pz_mi 46 = (3, 9, (some .int)) := by decide +kernel
theorem pm_47 : pz_mi 47 = (3, 6, (some .int)) := by decide +kernel
theorem pm_48 : pz_mi 48 = (3, 3, (some .int)) := by decide +kernel
theorem pm_49 : pz_mi 49 = (3, 6, (some .int)) := by decide +kernel
theorem pm_50 : pz_mi 50 = (3, 2, (some .int)) := by decide +kernel
theorem pm_51 : pz_mi 51 = (3, 5, (some .boolean)) := by decide +kernel
theorem pm_52 : pz_mi 52 = (3, 6, (some .int)) := by decide +kernel
theorem pr_42 : (pz_mi 42).2.2 = (some .int) := by decide +kernel
theorem pa_43_0 : pz_at 43 0 = some (0, .aload_n 0, 1, 0, 0, 0) := by decide +kernel
theorem pa_43_1 : pz_at 43 1 = some (1, .invokevirtual 117, 3, 39, 0, 765) := by decide +kernel
theorem pa_43_11 : pz_at 43 11 = some (11, .iload_n 1, 1, 0, 0, 0) := by decide +kernel
theorem pa_43_12 : pz_at 43 12 = some (12, .iaload, 1, 0, 0, 0) := by decide +kernel
theorem pa_43_124 : pz_at 43 124 = some (124, .aload_n 0, 1, 0, 0, 0) := by decide +kernel
theorem pa_43_125 : pz_at 43 125 = some (125, .getfield 25, 3, 3, 6, 337) := by decide +kernel
theorem pa_43_128 : pz_at 43 128 = some (128, .iload_n 3, 1, 0, 0, 0) := by decide +kernel
theorem pa_43_129 : pz_at 43 129 = some (129, .iload 4, 2, 0, 0, 0) := by decide +kernel
theorem pa_43_13 : pz_at 43 13 = some (13, .iadd, 1, 0, 0, 0) := by decide +kernel
theorem pa_43_131 : pz_at 43 131 = some (131, .iload 5, 2, 0, 0, 0) := by decide +kernel
theorem pa_43_133 : pz_at 43 133 = some (133, .iadd, 1, 0, 0, 0) := by decide +kernel
theorem pa_43_134 : pz_at 43 134 = some (134, .iastore, 1, 0, 0, 0) := by decide +kernel
theorem pa_43_135 : pz_at 43 135 = some (135, .goto 56, 3, 191, 0, 0) := by decide +kernel
theorem pa_43_138 : pz_at 43 138 = some (138, .aload_n 0, 1, 0, 0, 0) := by decide +kernel
theorem pa_43_139 : pz_at 43 139 = some (139, .getfield 25, 3, 3, 6, 337) := by decide +kernel
theorem pa_43_14 : pz_at 43 14 = some (14, .istore_n 3, 1, 0, 0, 0) := by decide +kernel
theorem pa_43_142 : pz_at 43 142 = some (142, .iload_n 3, 1, 0, 0, 0) := by decide +kernel
theorem pa_43_143 : pz_at 43 143 = some (143, .iload 4, 2, 0, 0, 0) := by decide +kernel
theorem pa_43_145 : pz_at 43 145 = some (145, .iload 5, 2, 0, 0, 0) := by decide +kernel
theorem pa_43_147 : pz_at 43 147 = some (147, .isub, 1, 0, 0, 0) := by decide +kernel
theorem pa_43_148 : pz_at 43 148 = some (148, .iastore, 1, 0, 0, 0) := by decide +kernel
theorem pa_43_149 : pz_at 43 149 = some (149, .goto 42, 3, 191, 0, 0) := by decide +kernel
theorem pa_43_15 : pz_at 43 15 = some (15, .iload_n 2, 1, 0, 0, 0) := by decide +kernel
theorem pa_43_152 : pz_at 43 152 = some (152, .aload_n 0, 1, 0, 0, 0) := by decide +kernel
theorem pa_43_153 : pz_at 43 153 = some (153, .getfield 25, 3, 3, 6, 337) := by decide +kernel
theorem pa_43_156 : pz_at 43 156 = some (156, .iload_n 3, 1, 0, 0, 0) := by decide +kernel
theorem pa_43_157 : pz_at 43 157 = some (157, .iload 4, 2, 0, 0, 0) := by decide +kernel
theorem pa_43_159 : pz_at 43 159 = some (159, .iload 5, 2, 0, 0, 0) := by decide +kernel
theorem pa_43_16 : pz_at 43 16 = some (16, .ifCond .ne 23, 3, 39, 0, 0) := by decide +kernel
theorem pa_43_161 : pz_at 43 161 = some (161, .imul, 1, 0, 0, 0) := by decide +kernel
theorem pa_43_162 : pz_at 43 162 = some (162, .iastore, 1, 0, 0, 0) := by decide +kernel
theorem pa_43_163 : pz_at 43 163 = some (163, .goto 28, 3, 191, 0, 0) := by decide +kernel
theorem pa_43_166 : pz_at 43 166 = some (166, .aload_n 0, 1, 0, 0, 0) := by decide +kernel
theorem pa_43_167 : pz_at 43 167 = some (167, .getfield 25, 3, 3, 6, 337) := by decide +kernel
theorem pa_43_170 : pz_at 43 170 = some (170, .iload_n 3, 1, 0, 0, 0) := by decide +kernel
theorem pa_43_171 : pz_at 43 171 = some (171, .iload 4, 2, 0, 0, 0) := by decide +kernel
theorem pa_43_173 : pz_at 43 173 = some (173, .iload 5, 2, 0, 0, 0) := by decide +kernel
theorem pa_43_175 : pz_at 43 175 = some (175, .idiv, 1, 0, 0, 0) := by decide +kernel
theorem pa_43_176 : pz_at 43 176 = some (176, .iastore, 1, 0, 0, 0) := by decide +kernel
theorem pa_43_177 : pz_at 43 177 = some (177, .goto 14, 3, 191, 0, 0) := by decide +kernel
theorem pa_43_180 : pz_at 43 180 = some (180, .aload_n 0, 1, 0, 0, 0) := by decide +kernel
theorem pa_43_181 : pz_at 43 181 = some (181, .getfield 25, 3, 3, 6, 337) := by decide +kernel
theorem pa_43_184 : pz_at 43 184 = some (184, .iload_n 3, 1, 0, 0, 0) := by decide +kernel
theorem pa_43_185 : pz_at 43 185 = some (185, .iload 4, 2, 0, 0, 0) := by decide +kernel
theorem pa_43_187 : pz_at 43 187 = some (187, .iload 5, 2, 0, 0, 0) := by decide +kernel
theorem pa_43_189 : pz_at 43 189 = some (189, .irem, 1, 0, 0, 0) := by decide +kernel
theorem pa_43_19 : pz_at 43 19 = some (19, .aload_n 0, 1, 0, 0, 0) := by decide +kernel
theorem pa_43_190 : pz_at 43 190 = some (190, .iastore, 1, 0, 0, 0) := by decide +kernel
theorem pa_43_191 : pz_at 43 191 = some (191, .aload_n 0, 1, 0, 0, 0) := by decide +kernel
theorem pa_43_192 : pz_at 43 192 = some (192, .invokevirtual 126, 3, 40, 0, 769) := by decide +kernel
theorem pa_43_195 : pz_at 43 195 = some (195, .ireturn, 1, 0, 0, 0) := by decide +kernel
theorem pa_43_20 : pz_at 43 20 = some (20, .getfield 25, 3, 3, 6, 337) := by decide +kernel
theorem pa_43_23 : pz_at 43 23 = some (23, .iload_n 3, 1, 0, 0, 0) := by decide +kernel
theorem pa_43_24 : pz_at 43 24 = some (24, .aload_n 0, 1, 0, 0, 0) := by decide +kernel
theorem pa_43_25 : pz_at 43 25 = some (25, .getfield 34, 3, 3, 0, 330) := by decide +kernel
theorem pa_43_28 : pz_at 43 28 = some (28, .getfield 123, 3, 4, 15, 158) := by decide +kernel
theorem pa_43_31 : pz_at 43 31 = some (31, .iload_n 1, 1, 0, 0, 0) := by decide +kernel
theorem pa_43_32 : pz_at 43 32 = some (32, .iaload, 1, 0, 0, 0) := by decide +kernel
theorem pa_43_33 : pz_at 43 33 = some (33, .iastore, 1, 0, 0, 0) := by decide +kernel
theorem pa_43_34 : pz_at 43 34 = some (34, .aload_n 0, 1, 0, 0, 0) := by decide +kernel
theorem pa_43_35 : pz_at 43 35 = some (35, .invokevirtual 126, 3, 40, 0, 769) := by decide +kernel
theorem pa_43_38 : pz_at 43 38 = some (38, .ireturn, 1, 0, 0, 0) := by decide +kernel
theorem pa_43_39 : pz_at 43 39 = some (39, .aload_n 0, 1, 0, 0, 0) := by decide +kernel
theorem pa_43_4 : pz_at 43 4 = some (4, .aload_n 0, 1, 0, 0, 0) := by decide +kernel
theorem pa_43_40 : pz_at 43 40 = some (40, .getfield 25, 3, 3, 6, 337) := by decide +kernel
theorem pa_43_43 : pz_at 43 43 = some (43, .aload_n 0, 1, 0, 0, 0) := by decide +kernel
theorem pa_43_44 : pz_at 43 44 = some (44, .invokevirtual 117, 3, 39, 0, 765) := by decide +kernel
theorem pa_43_47 : pz_at 43 47 = some (47, .aload_n 0, 1, 0, 0, 0) := by decide +kernel
theorem pa_43_48 : pz_at 43 48 = some (48, .getfield 34, 3, 3, 0, 330) := by decide +kernel
theorem pa_43_5 : pz_at 43 5 = some (5, .getfield 34, 3, 3, 0, 330) := by decide +kernel
theorem pa_43_51 : pz_at 43 51 = some (51, .getfield 180, 3, 4, 14, 155) := by decide +kernel
theorem pa_43_54 : pz_at 43 54 = some (54, .iload_n 1, 1, 0, 0, 0) := by decide +kernel
theorem pa_43_55 : pz_at 43 55 = some (55, .iaload, 1, 0, 0, 0) := by decide +kernel
theorem pa_43_56 : pz_at 43 56 = some (56, .iadd, 1, 0, 0, 0) := by decide +kernel
theorem pa_43_57 : pz_at 43 57 = some (57, .iaload, 1, 0, 0, 0) := by decide +kernel
theorem pa_43_58 : pz_at 43 58 = some (58, .istore 4, 2, 0, 0, 0) := by decide +kernel
theorem pa_43_60 : pz_at 43 60 = some (60, .aload_n 0, 1, 0, 0, 0) := by decide +kernel
theorem pa_43_61 : pz_at 43 61 = some (61, .getfield 25, 3, 3, 6, 337) := by decide +kernel
theorem pa_43_64 : pz_at 43 64 = some (64, .aload_n 0, 1, 0, 0, 0) := by decide +kernel
theorem pa_43_65 : pz_at 43 65 = some (65, .invokevirtual 117, 3, 39, 0, 765) := by decide +kernel
theorem pa_43_68 : pz_at 43 68 = some (68, .aload_n 0, 1, 0, 0, 0) := by decide +kernel
theorem pa_43_69 : pz_at 43 69 = some (69, .getfield 34, 3, 3, 0, 330) := by decide +kernel
theorem pa_43_72 : pz_at 43 72 = some (72, .getfield 123, 3, 4, 15, 158) := by decide +kernel
theorem pa_43_75 : pz_at 43 75 = some (75, .iload_n 1, 1, 0, 0, 0) := by decide +kernel
theorem pa_43_76 : pz_at 43 76 = some (76, .iaload, 1, 0, 0, 0) := by decide +kernel
theorem pa_43_77 : pz_at 43 77 = some (77, .iadd, 1, 0, 0, 0) := by decide +kernel
theorem pa_43_78 : pz_at 43 78 = some (78, .iaload, 1, 0, 0, 0) := by decide +kernel
theorem pa_43_79 : pz_at 43 79 = some (79, .istore 5, 2, 0, 0, 0) := by decide +kernel
theorem pa_43_8 : pz_at 43 8 = some (8, .getfield 120, 3, 4, 13, 152) := by decide +kernel
theorem pa_43_81 : pz_at 43 81 = some (81, .iload_n 2, 1, 0, 0, 0) := by decide +kernel
theorem pa_43_82 : pz_at 43 82 = some (82, .iconst 4, 1, 0, 0, 0) := by decide +kernel
theorem pa_43_83 : pz_at 43 83 = some (83, .if_icmp .lt 10, 3, 93, 0, 0) := by decide +kernel
theorem pa_43_86 : pz_at 43 86 = some (86, .iload 5, 2, 0, 0, 0) := by decide +kernel
theorem pa_43_88 : pz_at 43 88 = some (88, .ifCond .ne 5, 3, 93, 0, 0) := by decide +kernel
theorem pa_43_91 : pz_at 43 91 = some (91, .iconst 1, 1, 0, 0, 0) := by decide +kernel
theorem pa_43_92 : pz_at 43 92 = some (92, .ireturn, 1, 0, 0, 0) := by decide +kernel
theorem pa_43_93 : pz_at 43 93 = some (93, .iload_n 2, 1, 0, 0, 0) := by decide +kernel
theorem pa_43_94 : pz_at 43 94 = some (94, .tableswitch 86 1 4 #[30, 44, 58, 72], 30, 0, 0, 0) := by decide +kernel
theorem pr_43 : (pz_mi 43).2.2 = (some .int) := by decide +kernel
theorem pa_44_0 : pz_at 44 0 = some (0, .aload_n 0, 1, 0, 0, 0) := by decide +kernel
theorem pa_44_1 : pz_at 44 1 = some (1, .invokevirtual 117, 3, 39, 0, 765) := by decide +kernel
theorem pa_44_101 : pz_at 44 101 = some (101, .iload_n 1, 1, 0, 0, 0) := by decide +kernel
theorem pa_44_102 : pz_at 44 102 = some (102, .iaload, 1, 0, 0, 0) := by decide +kernel
theorem pa_44_103 : pz_at 44 103 = some (103, .iadd, 1, 0, 0, 0) := by decide +kernel
theorem pa_44_104 : pz_at 44 104 = some (104, .iaload, 1, 0, 0, 0) := by decide +kernel
theorem pa_44_105 : pz_at 44 105 = some (105, .istore 5, 2, 0, 0, 0) := by decide +kernel
theorem pa_44_107 : pz_at 44 107 = some (107, .iload 5, 2, 0, 0, 0) := by decide +kernel
theorem pa_44_109 : pz_at 44 109 = some (109, .ifCond .ge 5, 3, 114, 0, 0) := by decide +kernel
theorem pa_44_11 : pz_at 44 11 = some (11, .iload_n 1, 1, 0, 0, 0) := by decide +kernel
theorem pa_44_112 : pz_at 44 112 = some (112, .iconst 2, 1, 0, 0, 0) := by decide +kernel
theorem pa_44_113 : pz_at 44 113 = some (113, .ireturn, 1, 0, 0, 0) := by decide +kernel
theorem pa_44_114 : pz_at 44 114 = some (114, .iload 5, 2, 0, 0, 0) := by decide +kernel
theorem pa_44_116 : pz_at 44 116 = some (116, .bipush 16, 2, 0, 0, 0) := by decide +kernel
theorem pa_44_118 : pz_at 44 118 = some (118, .if_icmp .le 6, 3, 124, 0, 0) := by decide +kernel
theorem pa_44_12 : pz_at 44 12 = some (12, .iaload, 1, 0, 0, 0) := by decide +kernel
theorem pa_44_121 : pz_at 44 121 = some (121, .bipush (-4), 2, 0, 0, 0) := by decide +kernel
theorem pa_44_123 : pz_at 44 123 = some (123, .ireturn, 1, 0, 0, 0) := by decide +kernel
theorem pa_44_124 : pz_at 44 124 = some (124, .bipush (-10), 2, 0, 0, 0) := by decide +kernel
theorem pa_44_126 : pz_at 44 126 = some (126, .iload 5, 2, 0, 0, 0) := by decide +kernel
theorem pa_44_128 : pz_at 44 128 = some (128, .isub, 1, 0, 0, 0) := by decide +kernel
theorem pa_44_129 : pz_at 44 129 = some (129, .istore 4, 2, 0, 0, 0) := by decide +kernel
theorem pa_44_13 : pz_at 44 13 = some (13, .iadd, 1, 0, 0, 0) := by decide +kernel
theorem pa_44_131 : pz_at 44 131 = some (131, .aload_n 0, 1, 0, 0, 0) := by decide +kernel
theorem pa_44_132 : pz_at 44 132 = some (132, .getfield 38, 3, 3, 1, 331) := by decide +kernel
theorem pa_44_135 : pz_at 44 135 = some (135, .getfield 56, 3, 5, 0, 209) := by decide +kernel
theorem pa_44_138 : pz_at 44 138 = some (138, .bipush 60, 2, 0, 0, 0) := by decide +kernel
theorem pa_44_14 : pz_at 44 14 = some (14, .istore_n 3, 1, 0, 0, 0) := by decide +kernel
theorem pa_44_140 : pz_at 44 140 = some (140, .if_icmp .lt 6, 3, 146, 0, 0) := by decide +kernel
theorem pa_44_143 : pz_at 44 143 = some (143, .bipush (-4), 2, 0, 0, 0) := by decide +kernel
theorem pa_44_145 : pz_at 44 145 = some (145, .ireturn, 1, 0, 0, 0) := by decide +kernel
theorem pa_44_146 : pz_at 44 146 = some (146, .aload_n 0, 1, 0, 0, 0) := by decide +kernel
theorem pa_44_147 : pz_at 44 147 = some (147, .getfield 28, 3, 3, 7, 338) := by decide +kernel
theorem pa_44_15 : pz_at 44 15 = some (15, .iload_n 2, 1, 0, 0, 0) := by decide +kernel
theorem pa_44_150 : pz_at 44 150 = some (150, .iload_n 3, 1, 0, 0, 0) := by decide +kernel
theorem pa_44_151 : pz_at 44 151 = some (151, .aload_n 0, 1, 0, 0, 0) := by decide +kernel
theorem pa_44_152 : pz_at 44 152 = some (152, .getfield 38, 3, 3, 1, 331) := by decide +kernel
theorem pa_44_155 : pz_at 44 155 = some (155, .aload_n 0, 1, 0, 0, 0) := by decide +kernel
theorem pa_44_156 : pz_at 44 156 = some (156, .getfield 34, 3, 3, 0, 330) := by decide +kernel
theorem pa_44_159 : pz_at 44 159 = some (159, .iload 4, 2, 0, 0, 0) := by decide +kernel
theorem pa_44_16 : pz_at 44 16 = some (16, .bipush 6, 2, 0, 0, 0) := by decide +kernel
theorem pa_44_161 : pz_at 44 161 = some (161, .invokevirtual 183, 3, 80, 2, 781) := by decide +kernel
theorem pa_44_164 : pz_at 44 164 = some (164, .iastore, 1, 0, 0, 0) := by decide +kernel
theorem pa_44_165 : pz_at 44 165 = some (165, .aload_n 0, 1, 0, 0, 0) := by decide +kernel
theorem pa_44_166 : pz_at 44 166 = some (166, .invokevirtual 126, 3, 40, 0, 769) := by decide +kernel
theorem pa_44_169 : pz_at 44 169 = some (169, .ireturn, 1, 0, 0, 0) := by decide +kernel
theorem pa_44_18 : pz_at 44 18 = some (18, .if_icmp .ne 15, 3, 33, 0, 0) := by decide +kernel
theorem pa_44_21 : pz_at 44 21 = some (21, .aload_n 0, 1, 0, 0, 0) := by decide +kernel
theorem pa_44_22 : pz_at 44 22 = some (22, .getfield 28, 3, 3, 7, 338) := by decide +kernel
theorem pa_44_25 : pz_at 44 25 = some (25, .iload_n 3, 1, 0, 0, 0) := by decide +kernel
theorem pa_44_26 : pz_at 44 26 = some (26, .iconst (-1), 1, 0, 0, 0) := by decide +kernel
theorem pa_44_27 : pz_at 44 27 = some (27, .iastore, 1, 0, 0, 0) := by decide +kernel
theorem pa_44_28 : pz_at 44 28 = some (28, .aload_n 0, 1, 0, 0, 0) := by decide +kernel
theorem pa_44_29 : pz_at 44 29 = some (29, .invokevirtual 126, 3, 40, 0, 769) := by decide +kernel
theorem pa_44_32 : pz_at 44 32 = some (32, .ireturn, 1, 0, 0, 0) := by decide +kernel
theorem pa_44_33 : pz_at 44 33 = some (33, .iload_n 2, 1, 0, 0, 0) := by decide +kernel
theorem pa_44_34 : pz_at 44 34 = some (34, .bipush 7, 2, 0, 0, 0) := by decide +kernel
theorem pa_44_36 : pz_at 44 36 = some (36, .if_icmp .ne 33, 3, 69, 0, 0) := by decide +kernel
theorem pa_44_39 : pz_at 44 39 = some (39, .aload_n 0, 1, 0, 0, 0) := by decide +kernel
theorem pa_44_4 : pz_at 44 4 = some (4, .aload_n 0, 1, 0, 0, 0) := by decide +kernel
theorem pa_44_40 : pz_at 44 40 = some (40, .getfield 28, 3, 3, 7, 338) := by decide +kernel
theorem pa_44_43 : pz_at 44 43 = some (43, .iload_n 3, 1, 0, 0, 0) := by decide +kernel
theorem pa_44_44 : pz_at 44 44 = some (44, .aload_n 0, 1, 0, 0, 0) := by decide +kernel
theorem pa_44_45 : pz_at 44 45 = some (45, .getfield 28, 3, 3, 7, 338) := by decide +kernel
theorem pa_44_48 : pz_at 44 48 = some (48, .aload_n 0, 1, 0, 0, 0) := by decide +kernel
theorem pa_44_49 : pz_at 44 49 = some (49, .invokevirtual 117, 3, 39, 0, 765) := by decide +kernel
theorem pa_44_5 : pz_at 44 5 = some (5, .getfield 34, 3, 3, 0, 330) := by decide +kernel
theorem pa_44_52 : pz_at 44 52 = some (52, .aload_n 0, 1, 0, 0, 0) := by decide +kernel
theorem pa_44_53 : pz_at 44 53 = some (53, .getfield 34, 3, 3, 0, 330) := by decide +kernel
theorem pa_44_56 : pz_at 44 56 = some (56, .getfield 180, 3, 4, 14, 155) := by decide +kernel
theorem pa_44_59 : pz_at 44 59 = some (59, .iload_n 1, 1, 0, 0, 0) := by decide +kernel
theorem pa_44_60 : pz_at 44 60 = some (60, .iaload, 1, 0, 0, 0) := by decide +kernel
theorem pa_44_61 : pz_at 44 61 = some (61, .iadd, 1, 0, 0, 0) := by decide +kernel
theorem pa_44_62 : pz_at 44 62 = some (62, .iaload, 1, 0, 0, 0) := by decide +kernel
theorem pa_44_63 : pz_at 44 63 = some (63, .iastore, 1, 0, 0, 0) := by decide +kernel
theorem pa_44_64 : pz_at 44 64 = some (64, .aload_n 0, 1, 0, 0, 0) := by decide +kernel
theorem pa_44_65 : pz_at 44 65 = some (65, .invokevirtual 126, 3, 40, 0, 769) := by decide +kernel
theorem pa_44_68 : pz_at 44 68 = some (68, .ireturn, 1, 0, 0, 0) := by decide +kernel
theorem pa_44_69 : pz_at 44 69 = some (69, .aload_n 0, 1, 0, 0, 0) := by decide +kernel
theorem pa_44_70 : pz_at 44 70 = some (70, .getfield 34, 3, 3, 0, 330) := by decide +kernel
theorem pa_44_73 : pz_at 44 73 = some (73, .getfield 180, 3, 4, 14, 155) := by decide +kernel
theorem pa_44_76 : pz_at 44 76 = some (76, .iload_n 1, 1, 0, 0, 0) := by decide +kernel
theorem pa_44_77 : pz_at 44 77 = some (77, .iaload, 1, 0, 0, 0) := by decide +kernel
theorem pa_44_78 : pz_at 44 78 = some (78, .istore 4, 2, 0, 0, 0) := by decide +kernel
theorem pa_44_8 : pz_at 44 8 = some (8, .getfield 120, 3, 4, 13, 152) := by decide +kernel
theorem pa_44_80 : pz_at 44 80 = some (80, .iload_n 2, 1, 0, 0, 0) := by decide +kernel
theorem pa_44_81 : pz_at 44 81 = some (81, .bipush 9, 2, 0, 0, 0) := by decide +kernel
theorem pa_44_83 : pz_at 44 83 = some (83, .if_icmp .ne 48, 3, 131, 0, 0) := by decide +kernel
theorem pa_44_86 : pz_at 44 86 = some (86, .aload_n 0, 1, 0, 0, 0) := by decide +kernel
theorem pa_44_87 : pz_at 44 87 = some (87, .getfield 25, 3, 3, 6, 337) := by decide +kernel
theorem pa_44_90 : pz_at 44 90 = some (90, .aload_n 0, 1, 0, 0, 0) := by decide +kernel
theorem pa_44_91 : pz_at 44 91 = some (91, .invokevirtual 117, 3, 39, 0, 765) := by decide +kernel
theorem pa_44_94 : pz_at 44 94 = some (94, .aload_n 0, 1, 0, 0, 0) := by decide +kernel
theorem pa_44_95 : pz_at 44 95 = some (95, .getfield 34, 3, 3, 0, 330) := by decide +kernel
theorem pa_44_98 : pz_at 44 98 = some (98, .getfield 180, 3, 4, 14, 155) := by decide +kernel
theorem pc_16 : pz_gc 16 = some 5 := by decide +kernel
theorem pm_80 : pz_mi 80 = (5, 5, (some .int)) := by decide +kernel
theorem pr_44 : (pz_mi 44).2.2 = (some .int) := by decide +kernel
theorem pa_45_0 : pz_at 45 0 = some (0, .iload_n 2, 1, 0, 0, 0) := by decide +kernel
theorem pa_45_1 : pz_at 45 1 = some (1, .bipush 11, 2, 0, 0, 0) := by decide +kernel
theorem pa_45_102 : pz_at 45 102 = some (102, .ifCond .ne 5, 3, 107, 0, 0) := by decide +kernel
theorem pa_45_105 : pz_at 45 105 = some (105, .iconst 5, 1, 0, 0, 0) := by decide +kernel
theorem pa_45_106 : pz_at 45 106 = some (106, .ireturn, 1, 0, 0, 0) := by decide +kernel
theorem pa_45_107 : pz_at 45 107 = some (107, .iload 7, 2, 0, 0, 0) := by decide +kernel
theorem pa_45_109 : pz_at 45 109 = some (109, .bipush 16, 2, 0, 0, 0) := by decide +kernel
theorem pa_45_111 : pz_at 45 111 = some (111, .imul, 1, 0, 0, 0) := by decide +kernel
theorem pa_45_112 : pz_at 45 112 = some (112, .iload 6, 2, 0, 0, 0) := by decide +kernel
theorem pa_45_114 : pz_at 45 114 = some (114, .iadd, 1, 0, 0, 0) := by decide +kernel
theorem pa_45_115 : pz_at 45 115 = some (115, .istore 8, 2, 0, 0, 0) := by decide +kernel
theorem pa_45_117 : pz_at 45 117 = some (117, .iload_n 2, 1, 0, 0, 0) := by decide +kernel
theorem pa_45_118 : pz_at 45 118 = some (118, .tableswitch 86 10 12 #[26, 46, 66], 26, 0, 0, 0) := by decide +kernel
theorem pa_45_12 : pz_at 45 12 = some (12, .iconst 1, 1, 0, 0, 0) := by decide +kernel
theorem pa_45_13 : pz_at 45 13 = some (13, .goto 4, 3, 17, 0, 0) := by decide +kernel
theorem pa_45_144 : pz_at 45 144 = some (144, .aload_n 0, 1, 0, 0, 0) := by decide +kernel
theorem pa_45_145 : pz_at 45 145 = some (145, .getfield 25, 3, 3, 6, 337) := by decide +kernel
theorem pa_45_148 : pz_at 45 148 = some (148, .iload 4, 2, 0, 0, 0) := by decide +kernel
theorem pa_45_150 : pz_at 45 150 = some (150, .aload_n 0, 1, 0, 0, 0) := by decide +kernel
theorem pa_45_151 : pz_at 45 151 = some (151, .getfield 38, 3, 3, 1, 331) := by decide +kernel
theorem pa_45_154 : pz_at 45 154 = some (154, .getfield 191, 3, 5, 3, 220) := by decide +kernel
theorem pa_45_157 : pz_at 45 157 = some (157, .iload 8, 2, 0, 0, 0) := by decide +kernel
theorem pa_45_159 : pz_at 45 159 = some (159, .iaload, 1, 0, 0, 0) := by decide +kernel
theorem pa_45_16 : pz_at 45 16 = some (16, .iconst 0, 1, 0, 0, 0) := by decide +kernel
theorem pa_45_160 : pz_at 45 160 = some (160, .iastore, 1, 0, 0, 0) := by decide +kernel
theorem pa_45_161 : pz_at 45 161 = some (161, .goto 60, 3, 221, 0, 0) := by decide +kernel
theorem pa_45_164 : pz_at 45 164 = some (164, .aload_n 0, 1, 0, 0, 0) := by decide +kernel
theorem pa_45_165 : pz_at 45 165 = some (165, .getfield 38, 3, 3, 1, 331) := by decide +kernel
theorem pa_45_168 : pz_at 45 168 = some (168, .getfield 191, 3, 5, 3, 220) := by decide +kernel
theorem pa_45_17 : pz_at 45 17 = some (17, .istore_n 3, 1, 0, 0, 0) := by decide +kernel
theorem pa_45_171 : pz_at 45 171 = some (171, .iload 8, 2, 0, 0, 0) := by decide +kernel
theorem pa_45_173 : pz_at 45 173 = some (173, .aload_n 0, 1, 0, 0, 0) := by decide +kernel
theorem pa_45_174 : pz_at 45 174 = some (174, .getfield 25, 3, 3, 6, 337) := by decide +kernel
theorem pa_45_177 : pz_at 45 177 = some (177, .iload 5, 2, 0, 0, 0) := by decide +kernel
theorem pa_45_179 : pz_at 45 179 = some (179, .iaload, 1, 0, 0, 0) := by decide +kernel
theorem pa_45_18 : pz_at 45 18 = some (18, .aload_n 0, 1, 0, 0, 0) := by decide +kernel
theorem pa_45_180 : pz_at 45 180 = some (180, .iastore, 1, 0, 0, 0) := by decide +kernel
theorem pa_45_181 : pz_at 45 181 = some (181, .goto 40, 3, 221, 0, 0) := by decide +kernel
theorem pa_45_184 : pz_at 45 184 = some (184, .aload_n 0, 1, 0, 0, 0) := by decide +kernel
theorem pa_45_185 : pz_at 45 185 = some (185, .getfield 28, 3, 3, 7, 338) := by decide +kernel
theorem pa_45_188 : pz_at 45 188 = some (188, .iload 4, 2, 0, 0, 0) := by decide +kernel
theorem pa_45_19 : pz_at 45 19 = some (19, .invokevirtual 117, 3, 39, 0, 765) := by decide +kernel
theorem pa_45_190 : pz_at 45 190 = some (190, .aload_n 0, 1, 0, 0, 0) := by decide +kernel
theorem pa_45_191 : pz_at 45 191 = some (191, .getfield 38, 3, 3, 1, 331) := by decide +kernel
theorem pa_45_194 : pz_at 45 194 = some (194, .getfield 191, 3, 5, 3, 220) := by decide +kernel
theorem pa_45_197 : pz_at 45 197 = some (197, .iload 8, 2, 0, 0, 0) := by decide +kernel
theorem pa_45_199 : pz_at 45 199 = some (199, .iaload, 1, 0, 0, 0) := by decide +kernel
theorem pa_45_200 : pz_at 45 200 = some (200, .iastore, 1, 0, 0, 0) := by decide +kernel
theorem pa_45_201 : pz_at 45 201 = some (201, .goto 20, 3, 221, 0, 0) := by decide +kernel
theorem pa_45_204 : pz_at 45 204 = some (204, .aload_n 0, 1, 0, 0, 0) := by decide +kernel
theorem pa_45_205 : pz_at 45 205 = some (205, .getfield 38, 3, 3, 1, 331) := by decide +kernel
theorem pa_45_208 : pz_at 45 208 = some (208, .getfield 191, 3, 5, 3, 220) := by decide +kernel
theorem pa_45_211 : pz_at 45 211 = some (211, .iload 8, 2, 0, 0, 0) := by decide +kernel
theorem pa_45_213 : pz_at 45 213 = some (213, .aload_n 0, 1, 0, 0, 0) := by decide +kernel
theorem pa_45_214 : pz_at 45 214 = some (214, .getfield 28, 3, 3, 7, 338) := by decide +kernel
theorem pa_45_217 : pz_at 45 217 = some (217, .iload 5, 2, 0, 0, 0) := by decide +kernel
theorem pa_45_219 : pz_at 45 219 = some (219, .iaload, 1, 0, 0, 0) := by decide +kernel
theorem pa_45_22 : pz_at 45 22 = some (22, .aload_n 0, 1, 0, 0, 0) := by decide +kernel
theorem pa_45_220 : pz_at 45 220 = some (220, .iastore, 1, 0, 0, 0) := by decide +kernel
theorem pa_45_221 : pz_at 45 221 = some (221, .aload_n 0, 1, 0, 0, 0) := by decide +kernel
theorem pa_45_222 : pz_at 45 222 = some (222, .iload 7, 2, 0, 0, 0) := by decide +kernel
theorem pa_45_224 : pz_at 45 224 = some (224, .iload 6, 2, 0, 0, 0) := by decide +kernel
theorem pa_45_226 : pz_at 45 226 = some (226, .iload_n 3, 1, 0, 0, 0) := by decide +kernel
theorem pa_45_227 : pz_at 45 227 = some (227, .invokevirtual 194, 3, 53, 3, 787) := by decide +kernel
theorem pa_45_23 : pz_at 45 23 = some (23, .getfield 34, 3, 3, 0, 330) := by decide +kernel
theorem pa_45_230 : pz_at 45 230 = some (230, .aload_n 0, 1, 0, 0, 0) := by decide +kernel
theorem pa_45_231 : pz_at 45 231 = some (231, .invokevirtual 126, 3, 40, 0, 769) := by decide +kernel
theorem pa_45_234 : pz_at 45 234 = some (234, .ireturn, 1, 0, 0, 0) := by decide +kernel
theorem pa_45_26 : pz_at 45 26 = some (26, .getfield 120, 3, 4, 13, 152) := by decide +kernel
theorem pa_45_29 : pz_at 45 29 = some (29, .iload_n 1, 1, 0, 0, 0) := by decide +kernel
theorem pa_45_3 : pz_at 45 3 = some (3, .if_icmp .eq 9, 3, 12, 0, 0) := by decide +kernel
theorem pa_45_30 : pz_at 45 30 = some (30, .iaload, 1, 0, 0, 0) := by decide +kernel
theorem pa_45_31 : pz_at 45 31 = some (31, .iadd, 1, 0, 0, 0) := by decide +kernel
theorem pa_45_32 : pz_at 45 32 = some (32, .istore 4, 2, 0, 0, 0) := by decide +kernel
theorem pa_45_34 : pz_at 45 34 = some (34, .aload_n 0, 1, 0, 0, 0) := by decide +kernel
theorem pa_45_35 : pz_at 45 35 = some (35, .invokevirtual 117, 3, 39, 0, 765) := by decide +kernel
theorem pa_45_38 : pz_at 45 38 = some (38, .aload_n 0, 1, 0, 0, 0) := by decide +kernel
theorem pa_45_39 : pz_at 45 39 = some (39, .getfield 34, 3, 3, 0, 330) := by decide +kernel
theorem pa_45_42 : pz_at 45 42 = some (42, .getfield 180, 3, 4, 14, 155) := by decide +kernel
theorem pa_45_45 : pz_at 45 45 = some (45, .iload_n 1, 1, 0, 0, 0) := by decide +kernel
theorem pa_45_46 : pz_at 45 46 = some (46, .iaload, 1, 0, 0, 0) := by decide +kernel
theorem pa_45_47 : pz_at 45 47 = some (47, .iadd, 1, 0, 0, 0) := by decide +kernel
theorem pa_45_48 : pz_at 45 48 = some (48, .istore 5, 2, 0, 0, 0) := by decide +kernel
theorem pa_45_50 : pz_at 45 50 = some (50, .aload_n 0, 1, 0, 0, 0) := by decide +kernel
theorem pa_45_51 : pz_at 45 51 = some (51, .getfield 34, 3, 3, 0, 330) := by decide +kernel
theorem pa_45_54 : pz_at 45 54 = some (54, .getfield 123, 3, 4, 15, 158) := by decide +kernel
theorem pa_45_57 : pz_at 45 57 = some (57, .iload_n 1, 1, 0, 0, 0) := by decide +kernel
theorem pa_45_58 : pz_at 45 58 = some (58, .iaload, 1, 0, 0, 0) := by decide +kernel
theorem pa_45_59 : pz_at 45 59 = some (59, .istore 6, 2, 0, 0, 0) := by decide +kernel
theorem pa_45_6 : pz_at 45 6 = some (6, .iload_n 2, 1, 0, 0, 0) := by decide +kernel
theorem pa_45_61 : pz_at 45 61 = some (61, .aload_n 0, 1, 0, 0, 0) := by decide +kernel
theorem pa_45_62 : pz_at 45 62 = some (62, .getfield 28, 3, 3, 7, 338) := by decide +kernel
theorem pa_45_65 : pz_at 45 65 = some (65, .iload_n 3, 1, 0, 0, 0) := by decide +kernel
theorem pa_45_66 : pz_at 45 66 = some (66, .ifCond .eq 8, 3, 74, 0, 0) := by decide +kernel
theorem pa_45_69 : pz_at 45 69 = some (69, .iload 4, 2, 0, 0, 0) := by decide +kernel
theorem pa_45_7 : pz_at 45 7 = some (7, .bipush 13, 2, 0, 0, 0) := by decide +kernel
theorem pa_45_71 : pz_at 45 71 = some (71, .goto 5, 3, 76, 0, 0) := by decide +kernel
theorem pa_45_74 : pz_at 45 74 = some (74, .iload 5, 2, 0, 0, 0) := by decide +kernel
theorem pa_45_76 : pz_at 45 76 = some (76, .iaload, 1, 0, 0, 0) := by decide +kernel
theorem pa_45_77 : pz_at 45 77 = some (77, .istore 7, 2, 0, 0, 0) := by decide +kernel
theorem pa_45_79 : pz_at 45 79 = some (79, .iload 7, 2, 0, 0, 0) := by decide +kernel
theorem pa_45_81 : pz_at 45 81 = some (81, .iconst (-1), 1, 0, 0, 0) := by decide +kernel
theorem pa_45_82 : pz_at 45 82 = some (82, .if_icmp .ne 5, 3, 87, 0, 0) := by decide +kernel
theorem pa_45_85 : pz_at 45 85 = some (85, .iconst 3, 1, 0, 0, 0) := by decide +kernel
theorem pa_45_86 : pz_at 45 86 = some (86, .ireturn, 1, 0, 0, 0) := by decide +kernel
theorem pa_45_87 : pz_at 45 87 = some (87, .aload_n 0, 1, 0, 0, 0) := by decide +kernel
theorem pa_45_88 : pz_at 45 88 = some (88, .getfield 38, 3, 3, 1, 331) := by decide +kernel
theorem pa_45_9 : pz_at 45 9 = some (9, .if_icmp .ne 7, 3, 16, 0, 0) := by decide +kernel
theorem pa_45_91 : pz_at 45 91 = some (91, .aload_n 0, 1, 0, 0, 0) := by decide +kernel
theorem pa_45_92 : pz_at 45 92 = some (92, .getfield 34, 3, 3, 0, 330) := by decide +kernel
theorem pa_45_95 : pz_at 45 95 = some (95, .iload 7, 2, 0, 0, 0) := by decide +kernel
theorem pa_45_97 : pz_at 45 97 = some (97, .iload 6, 2, 0, 0, 0) := by decide +kernel
theorem pa_45_99 : pz_at 45 99 = some (99, .invokevirtual 187, 3, 76, 3, 786) := by decide +kernel
theorem pm_53 : pz_mi 53 = (3, 5, none) := by decide +kernel
theorem pm_76 : pz_mi 76 = (5, 4, (some .boolean)) := by decide +kernel
theorem pr_45 : (pz_mi 45).2.2 = (some .int) := by decide +kernel
theorem pa_46_0 : pz_at 46 0 = some (0, .iload_n 2, 1, 0, 0, 0) := by decide +kernel
theorem pa_46_1 : pz_at 46 1 = some (1, .bipush 15, 2, 0, 0, 0) := by decide +kernel
theorem pa_46_10 : pz_at 46 10 = some (10, .iconst 0, 1, 0, 0, 0) := by decide +kernel
theorem pa_46_100 : pz_at 46 100 = some (100, .ifCond .eq 13, 3, 113, 0, 0) := by decide +kernel
theorem pa_46_103 : pz_at 46 103 = some (103, .aload_n 0, 1, 0, 0, 0) := by decide +kernel
theorem pa_46_104 : pz_at 46 104 = some (104, .invokevirtual 117, 3, 39, 0, 765) := by decide +kernel
theorem pa_46_107 : pz_at 46 107 = some (107, .iload 5, 2, 0, 0, 0) := by decide +kernel
theorem pa_46_109 : pz_at 46 109 = some (109, .iadd, 1, 0, 0, 0) := by decide +kernel
theorem pa_46_11 : pz_at 46 11 = some (11, .istore_n 3, 1, 0, 0, 0) := by decide +kernel
theorem pa_46_110 : pz_at 46 110 = some (110, .goto 5, 3, 115, 0, 0) := by decide +kernel
theorem pa_46_113 : pz_at 46 113 = some (113, .iload 6, 2, 0, 0, 0) := by decide +kernel
theorem pa_46_115 : pz_at 46 115 = some (115, .iaload, 1, 0, 0, 0) := by decide +kernel
theorem pa_46_116 : pz_at 46 116 = some (116, .istore 8, 2, 0, 0, 0) := by decide +kernel
theorem pa_46_118 : pz_at 46 118 = some (118, .iload 8, 2, 0, 0, 0) := by decide +kernel
theorem pa_46_12 : pz_at 46 12 = some (12, .aload_n 0, 1, 0, 0, 0) := by decide +kernel
theorem pa_46_120 : pz_at 46 120 = some (120, .ifCond .lt 17, 3, 137, 0, 0) := by decide +kernel
theorem pa_46_123 : pz_at 46 123 = some (123, .iload 8, 2, 0, 0, 0) := by decide +kernel
theorem pa_46_125 : pz_at 46 125 = some (125, .aload_n 0, 1, 0, 0, 0) := by decide +kernel
theorem pa_46_126 : pz_at 46 126 = some (126, .getfield 38, 3, 3, 1, 331) := by decide +kernel
theorem pa_46_129 : pz_at 46 129 = some (129, .iload 7, 2, 0, 0, 0) := by decide +kernel
theorem pa_46_13 : pz_at 46 13 = some (13, .getfield 34, 3, 3, 0, 330) := by decide +kernel
theorem pa_46_131 : pz_at 46 131 = some (131, .invokevirtual 202, 3, 73, 1, 800) := by decide +kernel
theorem pa_46_134 : pz_at 46 134 = some (134, .if_icmp .lt 5, 3, 139, 0, 0) := by decide +kernel
theorem pa_46_137 : pz_at 46 137 = some (137, .iconst 4, 1, 0, 0, 0) := by decide +kernel
theorem pa_46_138 : pz_at 46 138 = some (138, .ireturn, 1, 0, 0, 0) := by decide +kernel
theorem pa_46_139 : pz_at 46 139 = some (139, .iload_n 3, 1, 0, 0, 0) := by decide +kernel
theorem pa_46_140 : pz_at 46 140 = some (140, .ifCond .eq 29, 3, 169, 0, 0) := by decide +kernel
theorem pa_46_143 : pz_at 46 143 = some (143, .aload_n 0, 1, 0, 0, 0) := by decide +kernel
theorem pa_46_144 : pz_at 46 144 = some (144, .getfield 38, 3, 3, 1, 331) := by decide +kernel
theorem pa_46_147 : pz_at 46 147 = some (147, .getfield 191, 3, 5, 3, 220) := by decide +kernel
theorem pa_46_150 : pz_at 46 150 = some (150, .iload 7, 2, 0, 0, 0) := by decide +kernel
theorem pa_46_152 : pz_at 46 152 = some (152, .bipush 16, 2, 0, 0, 0) := by decide +kernel
theorem pa_46_154 : pz_at 46 154 = some (154, .imul, 1, 0, 0, 0) := by decide +kernel
theorem pa_46_155 : pz_at 46 155 = some (155, .iload 8, 2, 0, 0, 0) := by decide +kernel
theorem pa_46_157 : pz_at 46 157 = some (157, .iadd, 1, 0, 0, 0) := by decide +kernel
theorem pa_46_158 : pz_at 46 158 = some (158, .aload_n 0, 1, 0, 0, 0) := by decide +kernel
theorem pa_46_159 : pz_at 46 159 = some (159, .getfield 25, 3, 3, 6, 337) := by decide +kernel
theorem pa_46_16 : pz_at 46 16 = some (16, .getfield 120, 3, 4, 13, 152) := by decide +kernel
theorem pa_46_162 : pz_at 46 162 = some (162, .iload 6, 2, 0, 0, 0) := by decide +kernel
theorem pa_46_164 : pz_at 46 164 = some (164, .iaload, 1, 0, 0, 0) := by decide +kernel
theorem pa_46_165 : pz_at 46 165 = some (165, .iastore, 1, 0, 0, 0) := by decide +kernel
theorem pa_46_166 : pz_at 46 166 = some (166, .goto 31, 3, 197, 0, 0) := by decide +kernel
theorem pa_46_169 : pz_at 46 169 = some (169, .aload_n 0, 1, 0, 0, 0) := by decide +kernel
theorem pa_46_170 : pz_at 46 170 = some (170, .getfield 25, 3, 3, 6, 337) := by decide +kernel
theorem pa_46_173 : pz_at 46 173 = some (173, .aload_n 0, 1, 0, 0, 0) := by decide +kernel
theorem pa_46_174 : pz_at 46 174 = some (174, .invokevirtual 117, 3, 39, 0, 765) := by decide +kernel
theorem pa_46_177 : pz_at 46 177 = some (177, .iload 4, 2, 0, 0, 0) := by decide +kernel
theorem pa_46_179 : pz_at 46 179 = some (179, .iadd, 1, 0, 0, 0) := by decide +kernel
theorem pa_46_180 : pz_at 46 180 = some (180, .aload_n 0, 1, 0, 0, 0) := by decide +kernel
theorem pa_46_181 : pz_at 46 181 = some (181, .getfield 38, 3, 3, 1, 331) := by decide +kernel
theorem pa_46_184 : pz_at 46 184 = some (184, .getfield 191, 3, 5, 3, 220) := by decide +kernel
theorem pa_46_187 : pz_at 46 187 = some (187, .iload 7, 2, 0, 0, 0) := by decide +kernel
theorem pa_46_189 : pz_at 46 189 = some (189, .bipush 16, 2, 0, 0, 0) := by decide +kernel
theorem pa_46_19 : pz_at 46 19 = some (19, .iload_n 1, 1, 0, 0, 0) := by decide +kernel
theorem pa_46_191 : pz_at 46 191 = some (191, .imul, 1, 0, 0, 0) := by decide +kernel
theorem pa_46_192 : pz_at 46 192 = some (192, .iload 8, 2, 0, 0, 0) := by decide +kernel
theorem pa_46_194 : pz_at 46 194 = some (194, .iadd, 1, 0, 0, 0) := by decide +kernel
theorem pa_46_195 : pz_at 46 195 = some (195, .iaload, 1, 0, 0, 0) := by decide +kernel
theorem pa_46_196 : pz_at 46 196 = some (196, .iastore, 1, 0, 0, 0) := by decide +kernel
theorem pa_46_197 : pz_at 46 197 = some (197, .aload_n 0, 1, 0, 0, 0) := by decide +kernel
theorem pa_46_198 : pz_at 46 198 = some (198, .iload 7, 2, 0, 0, 0) := by decide +kernel
theorem pa_46_20 : pz_at 46 20 = some (20, .iaload, 1, 0, 0, 0) := by decide +kernel
theorem pa_46_200 : pz_at 46 200 = some (200, .bipush 24, 2, 0, 0, 0) := by decide +kernel
theorem pa_46_202 : pz_at 46 202 = some (202, .iload_n 3, 1, 0, 0, 0) := by decide +kernel
theorem pa_46_203 : pz_at 46 203 = some (203, .invokevirtual 194, 3, 53, 3, 787) := by decide +kernel
theorem pa_46_206 : pz_at 46 206 = some (206, .aload_n 0, 1, 0, 0, 0) := by decide +kernel
theorem pa_46_207 : pz_at 46 207 = some (207, .invokevirtual 126, 3, 40, 0, 769) := by decide +kernel
theorem pa_46_21 : pz_at 46 21 = some (21, .istore 4, 2, 0, 0, 0) := by decide +kernel
theorem pa_46_210 : pz_at 46 210 = some (210, .ireturn, 1, 0, 0, 0) := by decide +kernel
theorem pa_46_23 : pz_at 46 23 = some (23, .aload_n 0, 1, 0, 0, 0) := by decide +kernel
theorem pa_46_24 : pz_at 46 24 = some (24, .getfield 34, 3, 3, 0, 330) := by decide +kernel
theorem pa_46_27 : pz_at 46 27 = some (27, .getfield 180, 3, 4, 14, 155) := by decide +kernel
theorem pa_46_3 : pz_at 46 3 = some (3, .if_icmp .ne 7, 3, 10, 0, 0) := by decide +kernel
theorem pa_46_30 : pz_at 46 30 = some (30, .iload_n 1, 1, 0, 0, 0) := by decide +kernel
theorem pa_46_31 : pz_at 46 31 = some (31, .iaload, 1, 0, 0, 0) := by decide +kernel
theorem pa_46_32 : pz_at 46 32 = some (32, .istore 5, 2, 0, 0, 0) := by decide +kernel
theorem pa_46_34 : pz_at 46 34 = some (34, .aload_n 0, 1, 0, 0, 0) := by decide +kernel
theorem pa_46_35 : pz_at 46 35 = some (35, .invokevirtual 117, 3, 39, 0, 765) := by decide +kernel
theorem pa_46_38 : pz_at 46 38 = some (38, .aload_n 0, 1, 0, 0, 0) := by decide +kernel
theorem pa_46_39 : pz_at 46 39 = some (39, .getfield 34, 3, 3, 0, 330) := by decide +kernel
theorem pa_46_42 : pz_at 46 42 = some (42, .getfield 123, 3, 4, 15, 158) := by decide +kernel
theorem pa_46_45 : pz_at 46 45 = some (45, .iload_n 1, 1, 0, 0, 0) := by decide +kernel
theorem pa_46_46 : pz_at 46 46 = some (46, .iaload, 1, 0, 0, 0) := by decide +kernel
theorem pa_46_47 : pz_at 46 47 = some (47, .iadd, 1, 0, 0, 0) := by decide +kernel
theorem pa_46_48 : pz_at 46 48 = some (48, .istore 6, 2, 0, 0, 0) := by decide +kernel
theorem pa_46_50 : pz_at 46 50 = some (50, .aload_n 0, 1, 0, 0, 0) := by decide +kernel
theorem pa_46_51 : pz_at 46 51 = some (51, .getfield 28, 3, 3, 7, 338) := by decide +kernel
theorem pa_46_54 : pz_at 46 54 = some (54, .aload_n 0, 1, 0, 0, 0) := by decide +kernel
theorem pa_46_55 : pz_at 46 55 = some (55, .invokevirtual 117, 3, 39, 0, 765) := by decide +kernel
theorem pa_46_58 : pz_at 46 58 = some (58, .iload_n 3, 1, 0, 0, 0) := by decide +kernel
theorem pa_46_59 : pz_at 46 59 = some (59, .ifCond .eq 8, 3, 67, 0, 0) := by decide +kernel
theorem pa_46_6 : pz_at 46 6 = some (6, .iconst 1, 1, 0, 0, 0) := by decide +kernel
theorem pa_46_62 : pz_at 46 62 = some (62, .iload 4, 2, 0, 0, 0) := by decide +kernel
theorem pa_46_64 : pz_at 46 64 = some (64, .goto 5, 3, 69, 0, 0) := by decide +kernel
theorem pa_46_67 : pz_at 46 67 = some (67, .iload 5, 2, 0, 0, 0) := by decide +kernel
theorem pa_46_69 : pz_at 46 69 = some (69, .iadd, 1, 0, 0, 0) := by decide +kernel
theorem pa_46_7 : pz_at 46 7 = some (7, .goto 4, 3, 11, 0, 0) := by decide +kernel
theorem pa_46_70 : pz_at 46 70 = some (70, .iaload, 1, 0, 0, 0) := by decide +kernel
theorem pa_46_71 : pz_at 46 71 = some (71, .istore 7, 2, 0, 0, 0) := by decide +kernel
theorem pa_46_73 : pz_at 46 73 = some (73, .iload 7, 2, 0, 0, 0) := by decide +kernel
theorem pa_46_75 : pz_at 46 75 = some (75, .iconst (-1), 1, 0, 0, 0) := by decide +kernel
theorem pa_46_76 : pz_at 46 76 = some (76, .if_icmp .ne 5, 3, 81, 0, 0) := by decide +kernel
theorem pa_46_79 : pz_at 46 79 = some (79, .iconst 3, 1, 0, 0, 0) := by decide +kernel
theorem pa_46_80 : pz_at 46 80 = some (80, .ireturn, 1, 0, 0, 0) := by decide +kernel
theorem pa_46_81 : pz_at 46 81 = some (81, .aload_n 0, 1, 0, 0, 0) := by decide +kernel
theorem pa_46_82 : pz_at 46 82 = some (82, .getfield 38, 3, 3, 1, 331) := by decide +kernel
theorem pa_46_85 : pz_at 46 85 = some (85, .iload 7, 2, 0, 0, 0) := by decide +kernel
theorem pa_46_87 : pz_at 46 87 = some (87, .invokevirtual 198, 3, 74, 1, 799) := by decide +kernel
theorem pa_46_90 : pz_at 46 90 = some (90, .ifCond .ne 5, 3, 95, 0, 0) := by decide +kernel
theorem pa_46_93 : pz_at 46 93 = some (93, .iconst 5, 1, 0, 0, 0) := by decide +kernel
theorem pa_46_94 : pz_at 46 94 = some (94, .ireturn, 1, 0, 0, 0) := by decide +kernel
theorem pa_46_95 : pz_at 46 95 = some (95, .aload_n 0, 1, 0, 0, 0) := by decide +kernel
theorem pa_46_96 : pz_at 46 96 = some (96, .getfield 25, 3, 3, 6, 337) := by decide +kernel
theorem pa_46_99 : pz_at 46 99 = some (99, .iload_n 3, 1, 0, 0, 0) := by decide +kernel
theorem pm_73 : pz_mi 73 = (5, 2, (some .int)) := by decide +kernel
theorem pm_74 : pz_mi 74 = (5, 2, (some .boolean)) := by decide +kernel
theorem pr_46 : (pz_mi 46).2.2 = (some .int) := by decide +kernel
theorem pa_47_0 : pz_at 47 0 = some (0, .aload_n 0, 1, 0, 0, 0) := by decide +kernel
theorem pa_47_1 : pz_at 47 1 = some (1, .getfield 34, 3, 3, 0, 330) := by decide +kernel
theorem pa_47_10 : pz_at 47 10 = some (10, .aload_n 0, 1, 0, 0, 0) := by decide +kernel
theorem pa_47_100 : pz_at 47 100 = some (100, .aload_n 0, 1, 0, 0, 0) := by decide +kernel
theorem pa_47_101 : pz_at 47 101 = some (101, .invokevirtual 117, 3, 39, 0, 765) := by decide +kernel
theorem pa_47_104 : pz_at 47 104 = some (104, .iload_n 3, 1, 0, 0, 0) := by decide +kernel
theorem pa_47_105 : pz_at 47 105 = some (105, .iadd, 1, 0, 0, 0) := by decide +kernel
theorem pa_47_106 : pz_at 47 106 = some (106, .aload_n 0, 1, 0, 0, 0) := by decide +kernel
theorem pa_47_107 : pz_at 47 107 = some (107, .getfield 38, 3, 3, 1, 331) := by decide +kernel
theorem pa_47_11 : pz_at 47 11 = some (11, .getfield 34, 3, 3, 0, 330) := by decide +kernel
theorem pa_47_110 : pz_at 47 110 = some (110, .getfield 205, 3, 5, 4, 224) := by decide +kernel
theorem pa_47_113 : pz_at 47 113 = some (113, .iload 4, 2, 0, 0, 0) := by decide +kernel
theorem pa_47_115 : pz_at 47 115 = some (115, .iaload, 1, 0, 0, 0) := by decide +kernel
theorem pa_47_116 : pz_at 47 116 = some (116, .iastore, 1, 0, 0, 0) := by decide +kernel
theorem pa_47_117 : pz_at 47 117 = some (117, .goto 24, 3, 141, 0, 0) := by decide +kernel
theorem pa_47_120 : pz_at 47 120 = some (120, .aload_n 0, 1, 0, 0, 0) := by decide +kernel
theorem pa_47_121 : pz_at 47 121 = some (121, .getfield 38, 3, 3, 1, 331) := by decide +kernel
theorem pa_47_124 : pz_at 47 124 = some (124, .getfield 205, 3, 5, 4, 224) := by decide +kernel
theorem pa_47_127 : pz_at 47 127 = some (127, .iload_n 3, 1, 0, 0, 0) := by decide +kernel
theorem pa_47_128 : pz_at 47 128 = some (128, .aload_n 0, 1, 0, 0, 0) := by decide +kernel
theorem pa_47_129 : pz_at 47 129 = some (129, .getfield 28, 3, 3, 7, 338) := by decide +kernel
theorem pa_47_132 : pz_at 47 132 = some (132, .aload_n 0, 1, 0, 0, 0) := by decide +kernel
theorem pa_47_133 : pz_at 47 133 = some (133, .invokevirtual 117, 3, 39, 0, 765) := by decide +kernel
theorem pa_47_136 : pz_at 47 136 = some (136, .iload 4, 2, 0, 0, 0) := by decide +kernel
theorem pa_47_138 : pz_at 47 138 = some (138, .iadd, 1, 0, 0, 0) := by decide +kernel
theorem pa_47_139 : pz_at 47 139 = some (139, .iaload, 1, 0, 0, 0) := by decide +kernel
theorem pa_47_14 : pz_at 47 14 = some (14, .getfield 180, 3, 4, 14, 155) := by decide +kernel
theorem pa_47_140 : pz_at 47 140 = some (140, .iastore, 1, 0, 0, 0) := by decide +kernel
theorem pa_47_141 : pz_at 47 141 = some (141, .iload_n 2, 1, 0, 0, 0) := by decide +kernel
theorem pa_47_142 : pz_at 47 142 = some (142, .bipush 17, 2, 0, 0, 0) := by decide +kernel
theorem pa_47_144 : pz_at 47 144 = some (144, .if_icmp .eq 9, 3, 153, 0, 0) := by decide +kernel
theorem pa_47_147 : pz_at 47 147 = some (147, .iload_n 2, 1, 0, 0, 0) := by decide +kernel
theorem pa_47_148 : pz_at 47 148 = some (148, .bipush 19, 2, 0, 0, 0) := by decide +kernel
theorem pa_47_150 : pz_at 47 150 = some (150, .if_icmp .ne 7, 3, 157, 0, 0) := by decide +kernel
theorem pa_47_153 : pz_at 47 153 = some (153, .iconst 1, 1, 0, 0, 0) := by decide +kernel
theorem pa_47_154 : pz_at 47 154 = some (154, .goto 4, 3, 158, 0, 0) := by decide +kernel
theorem pa_47_157 : pz_at 47 157 = some (157, .iconst 0, 1, 0, 0, 0) := by decide +kernel
theorem pa_47_158 : pz_at 47 158 = some (158, .istore 5, 2, 0, 0, 0) := by decide +kernel
theorem pa_47_160 : pz_at 47 160 = some (160, .aload_n 0, 1, 0, 0, 0) := by decide +kernel
theorem pa_47_161 : pz_at 47 161 = some (161, .iconst (-1), 1, 0, 0, 0) := by decide +kernel
theorem pa_47_162 : pz_at 47 162 = some (162, .bipush 16, 2, 0, 0, 0) := by decide +kernel
theorem pa_47_164 : pz_at 47 164 = some (164, .iload 5, 2, 0, 0, 0) := by decide +kernel
theorem pa_47_166 : pz_at 47 166 = some (166, .ifCond .eq 7, 3, 173, 0, 0) := by decide +kernel
theorem pa_47_169 : pz_at 47 169 = some (169, .iload_n 3, 1, 0, 0, 0) := by decide +kernel
theorem pa_47_17 : pz_at 47 17 = some (17, .iload_n 1, 1, 0, 0, 0) := by decide +kernel
theorem pa_47_170 : pz_at 47 170 = some (170, .goto 5, 3, 175, 0, 0) := by decide +kernel
theorem pa_47_173 : pz_at 47 173 = some (173, .iload 4, 2, 0, 0, 0) := by decide +kernel
theorem pa_47_175 : pz_at 47 175 = some (175, .iadd, 1, 0, 0, 0) := by decide +kernel
theorem pa_47_176 : pz_at 47 176 = some (176, .iload 5, 2, 0, 0, 0) := by decide +kernel
theorem pa_47_178 : pz_at 47 178 = some (178, .invokevirtual 194, 3, 53, 3, 787) := by decide +kernel
theorem pa_47_18 : pz_at 47 18 = some (18, .iaload, 1, 0, 0, 0) := by decide +kernel
theorem pa_47_181 : pz_at 47 181 = some (181, .aload_n 0, 1, 0, 0, 0) := by decide +kernel
theorem pa_47_182 : pz_at 47 182 = some (182, .invokevirtual 126, 3, 40, 0, 769) := by decide +kernel
theorem pa_47_185 : pz_at 47 185 = some (185, .ireturn, 1, 0, 0, 0) := by decide +kernel
theorem pa_47_19 : pz_at 47 19 = some (19, .istore 4, 2, 0, 0, 0) := by decide +kernel
theorem pa_47_21 : pz_at 47 21 = some (21, .iload_n 2, 1, 0, 0, 0) := by decide +kernel
theorem pa_47_22 : pz_at 47 22 = some (22, .tableswitch 98 16 18 #[26, 50, 74], 26, 0, 0, 0) := by decide +kernel
theorem pa_47_4 : pz_at 47 4 = some (4, .getfield 120, 3, 4, 13, 152) := by decide +kernel
theorem pa_47_48 : pz_at 47 48 = some (48, .aload_n 0, 1, 0, 0, 0) := by decide +kernel
theorem pa_47_49 : pz_at 47 49 = some (49, .getfield 25, 3, 3, 6, 337) := by decide +kernel
theorem pa_47_52 : pz_at 47 52 = some (52, .aload_n 0, 1, 0, 0, 0) := by decide +kernel
theorem pa_47_53 : pz_at 47 53 = some (53, .invokevirtual 117, 3, 39, 0, 765) := by decide +kernel
theorem pa_47_56 : pz_at 47 56 = some (56, .iload_n 3, 1, 0, 0, 0) := by decide +kernel
theorem pa_47_57 : pz_at 47 57 = some (57, .iadd, 1, 0, 0, 0) := by decide +kernel
theorem pa_47_58 : pz_at 47 58 = some (58, .aload_n 0, 1, 0, 0, 0) := by decide +kernel
theorem pa_47_59 : pz_at 47 59 = some (59, .getfield 38, 3, 3, 1, 331) := by decide +kernel
theorem pa_47_62 : pz_at 47 62 = some (62, .getfield 205, 3, 5, 4, 224) := by decide +kernel
theorem pa_47_65 : pz_at 47 65 = some (65, .iload 4, 2, 0, 0, 0) := by decide +kernel
theorem pa_47_67 : pz_at 47 67 = some (67, .iaload, 1, 0, 0, 0) := by decide +kernel
theorem pa_47_68 : pz_at 47 68 = some (68, .iastore, 1, 0, 0, 0) := by decide +kernel
theorem pa_47_69 : pz_at 47 69 = some (69, .goto 72, 3, 141, 0, 0) := by decide +kernel
theorem pa_47_7 : pz_at 47 7 = some (7, .iload_n 1, 1, 0, 0, 0) := by decide +kernel
theorem pa_47_72 : pz_at 47 72 = some (72, .aload_n 0, 1, 0, 0, 0) := by decide +kernel
theorem pa_47_73 : pz_at 47 73 = some (73, .getfield 38, 3, 3, 1, 331) := by decide +kernel
theorem pa_47_76 : pz_at 47 76 = some (76, .getfield 205, 3, 5, 4, 224) := by decide +kernel
theorem pa_47_79 : pz_at 47 79 = some (79, .iload_n 3, 1, 0, 0, 0) := by decide +kernel
theorem pa_47_8 : pz_at 47 8 = some (8, .iaload, 1, 0, 0, 0) := by decide +kernel
theorem pa_47_80 : pz_at 47 80 = some (80, .aload_n 0, 1, 0, 0, 0) := by decide +kernel
theorem pa_47_81 : pz_at 47 81 = some (81, .getfield 25, 3, 3, 6, 337) := by decide +kernel
theorem pa_47_84 : pz_at 47 84 = some (84, .aload_n 0, 1, 0, 0, 0) := by decide +kernel
theorem pa_47_85 : pz_at 47 85 = some (85, .invokevirtual 117, 3, 39, 0, 765) := by decide +kernel
theorem pa_47_88 : pz_at 47 88 = some (88, .iload 4, 2, 0, 0, 0) := by decide +kernel
theorem pa_47_9 : pz_at 47 9 = some (9, .istore_n 3, 1, 0, 0, 0) := by decide +kernel
theorem pa_47_90 : pz_at 47 90 = some (90, .iadd, 1, 0, 0, 0) := by decide +kernel
theorem pa_47_91 : pz_at 47 91 = some (91, .iaload, 1, 0, 0, 0) := by decide +kernel
theorem pa_47_92 : pz_at 47 92 = some (92, .iastore, 1, 0, 0, 0) := by decide +kernel
theorem pa_47_93 : pz_at 47 93 = some (93, .goto 48, 3, 141, 0, 0) := by decide +kernel
theorem pa_47_96 : pz_at 47 96 = some (96, .aload_n 0, 1, 0, 0, 0) := by decide +kernel
theorem pa_47_97 : pz_at 47 97 = some (97, .getfield 28, 3, 3, 7, 338) := by decide +kernel
theorem pr_47 : (pz_mi 47).2.2 = (some .int) := by decide +kernel
theorem pa_48_0 : pz_at 48 0 = some (0, .aload_n 0, 1, 0, 0, 0) := by decide +kernel
theorem pa_48_1 : pz_at 48 1 = some (1, .getfield 28, 3, 3, 7, 338) := by decide +kernel
theorem pa_48_12 : pz_at 48 12 = some (12, .getfield 180, 3, 4, 14, 155) := by decide +kernel
theorem pa_48_15 : pz_at 48 15 = some (15, .iload_n 1, 1, 0, 0, 0) := by decide +kernel
theorem pa_48_16 : pz_at 48 16 = some (16, .iaload, 1, 0, 0, 0) := by decide +kernel
theorem pa_48_17 : pz_at 48 17 = some (17, .iadd, 1, 0, 0, 0) := by decide +kernel
theorem pa_48_18 : pz_at 48 18 = some (18, .iaload, 1, 0, 0, 0) := by decide +kernel
theorem pa_48_19 : pz_at 48 19 = some (19, .istore_n 2, 1, 0, 0, 0) := by decide +kernel
theorem pa_48_20 : pz_at 48 20 = some (20, .iload_n 2, 1, 0, 0, 0) := by decide +kernel
theorem pa_48_21 : pz_at 48 21 = some (21, .iconst (-1), 1, 0, 0, 0) := by decide +kernel
theorem pa_48_22 : pz_at 48 22 = some (22, .if_icmp .ne 5, 3, 27, 0, 0) := by decide +kernel
theorem pa_48_25 : pz_at 48 25 = some (25, .iconst 3, 1, 0, 0, 0) := by decide +kernel
theorem pa_48_26 : pz_at 48 26 = some (26, .ireturn, 1, 0, 0, 0) := by decide +kernel
theorem pa_48_27 : pz_at 48 27 = some (27, .aload_n 0, 1, 0, 0, 0) := by decide +kernel
theorem pa_48_28 : pz_at 48 28 = some (28, .getfield 38, 3, 3, 1, 331) := by decide +kernel
theorem pa_48_31 : pz_at 48 31 = some (31, .iload_n 2, 1, 0, 0, 0) := by decide +kernel
theorem pa_48_32 : pz_at 48 32 = some (32, .invokevirtual 198, 3, 74, 1, 799) := by decide +kernel
theorem pa_48_35 : pz_at 48 35 = some (35, .ifCond .ne 5, 3, 40, 0, 0) := by decide +kernel
theorem pa_48_38 : pz_at 48 38 = some (38, .iconst 5, 1, 0, 0, 0) := by decide +kernel
theorem pa_48_39 : pz_at 48 39 = some (39, .ireturn, 1, 0, 0, 0) := by decide +kernel
theorem pa_48_4 : pz_at 48 4 = some (4, .aload_n 0, 1, 0, 0, 0) := by decide +kernel
theorem pa_48_40 : pz_at 48 40 = some (40, .aload_n 0, 1, 0, 0, 0) := by decide +kernel
theorem pa_48_41 : pz_at 48 41 = some (41, .getfield 25, 3, 3, 6, 337) := by decide +kernel
theorem pa_48_44 : pz_at 48 44 = some (44, .aload_n 0, 1, 0, 0, 0) := by decide +kernel
theorem pa_48_45 : pz_at 48 45 = some (45, .invokevirtual 117, 3, 39, 0, 765) := by decide +kernel
theorem pa_48_48 : pz_at 48 48 = some (48, .aload_n 0, 1, 0, 0, 0) := by decide +kernel
theorem pa_48_49 : pz_at 48 49 = some (49, .getfield 34, 3, 3, 0, 330) := by decide +kernel
theorem pa_48_5 : pz_at 48 5 = some (5, .invokevirtual 117, 3, 39, 0, 765) := by decide +kernel
theorem pa_48_52 : pz_at 48 52 = some (52, .getfield 120, 3, 4, 13, 152) := by decide +kernel
theorem pa_48_55 : pz_at 48 55 = some (55, .iload_n 1, 1, 0, 0, 0) := by decide +kernel
theorem pa_48_56 : pz_at 48 56 = some (56, .iaload, 1, 0, 0, 0) := by decide +kernel
theorem pa_48_57 : pz_at 48 57 = some (57, .iadd, 1, 0, 0, 0) := by decide +kernel
theorem pa_48_58 : pz_at 48 58 = some (58, .aload_n 0, 1, 0, 0, 0) := by decide +kernel
theorem pa_48_59 : pz_at 48 59 = some (59, .getfield 38, 3, 3, 1, 331) := by decide +kernel
theorem pa_48_62 : pz_at 48 62 = some (62, .iload_n 2, 1, 0, 0, 0) := by decide +kernel
theorem pa_48_63 : pz_at 48 63 = some (63, .invokevirtual 202, 3, 73, 1, 800) := by decide +kernel
theorem pa_48_66 : pz_at 48 66 = some (66, .iastore, 1, 0, 0, 0) := by decide +kernel
theorem pa_48_67 : pz_at 48 67 = some (67, .aload_n 0, 1, 0, 0, 0) := by decide +kernel
theorem pa_48_68 : pz_at 48 68 = some (68, .invokevirtual 126, 3, 40, 0, 769) := by decide +kernel
theorem pa_48_71 : pz_at 48 71 = some (71, .ireturn, 1, 0, 0, 0) := by decide +kernel
theorem pa_48_8 : pz_at 48 8 = some (8, .aload_n 0, 1, 0, 0, 0) := by decide +kernel
theorem pa_48_9 : pz_at 48 9 = some (9, .getfield 34, 3, 3, 0, 330) := by decide +kernel
theorem pr_48 : (pz_mi 48).2.2 = (some .int) := by decide +kernel
theorem pa_49_0 : pz_at 49 0 = some (0, .aload_n 0, 1, 0, 0, 0) := by decide +kernel
theorem pa_49_1 : pz_at 49 1 = some (1, .getfield 49, 3, 3, 8, 339) := by decide +kernel
theorem pa_49_102 : pz_at 49 102 = some (102, .iconst 0, 1, 0, 0, 0) := by decide +kernel
theorem pa_49_103 : pz_at 49 103 = some (103, .istore 5, 2, 0, 0, 0) := by decide +kernel
theorem pa_49_105 : pz_at 49 105 = some (105, .iload 5, 2, 0, 0, 0) := by decide +kernel
theorem pa_49_107 : pz_at 49 107 = some (107, .aload_n 0, 1, 0, 0, 0) := by decide +kernel
theorem pa_49_108 : pz_at 49 108 = some (108, .getfield 34, 3, 3, 0, 330) := by decide +kernel
theorem pa_49_11 : pz_at 49 11 = some (11, .ireturn, 1, 0, 0, 0) := by decide +kernel
theorem pa_49_111 : pz_at 49 111 = some (111, .getfield 77, 3, 4, 9, 138) := by decide +kernel
theorem pa_49_114 : pz_at 49 114 = some (114, .iload_n 2, 1, 0, 0, 0) := by decide +kernel
theorem pa_49_115 : pz_at 49 115 = some (115, .iaload, 1, 0, 0, 0) := by decide +kernel
theorem pa_49_116 : pz_at 49 116 = some (116, .if_icmp .ge 31, 3, 147, 0, 0) := by decide +kernel
theorem pa_49_119 : pz_at 49 119 = some (119, .aload_n 0, 1, 0, 0, 0) := by decide +kernel
theorem pa_49_12 : pz_at 49 12 = some (12, .aload_n 0, 1, 0, 0, 0) := by decide +kernel
theorem pa_49_120 : pz_at 49 120 = some (120, .getfield 28, 3, 3, 7, 338) := by decide +kernel
theorem pa_49_123 : pz_at 49 123 = some (123, .aload_n 0, 1, 0, 0, 0) := by decide +kernel
theorem pa_49_124 : pz_at 49 124 = some (124, .invokevirtual 117, 3, 39, 0, 765) := by decide +kernel
theorem pa_49_127 : pz_at 49 127 = some (127, .iload 5, 2, 0, 0, 0) := by decide +kernel
theorem pa_49_129 : pz_at 49 129 = some (129, .iadd, 1, 0, 0, 0) := by decide +kernel
theorem pa_49_13 : pz_at 49 13 = some (13, .getfield 34, 3, 3, 0, 330) := by decide +kernel
theorem pa_49_130 : pz_at 49 130 = some (130, .aload_n 0, 1, 0, 0, 0) := by decide +kernel
theorem pa_49_131 : pz_at 49 131 = some (131, .getfield 28, 3, 3, 7, 338) := by decide +kernel
theorem pa_49_134 : pz_at 49 134 = some (134, .iload 4, 2, 0, 0, 0) := by decide +kernel
theorem pa_49_136 : pz_at 49 136 = some (136, .iload 5, 2, 0, 0, 0) := by decide +kernel
theorem pa_49_138 : pz_at 49 138 = some (138, .iadd, 1, 0, 0, 0) := by decide +kernel
theorem pa_49_139 : pz_at 49 139 = some (139, .iaload, 1, 0, 0, 0) := by decide +kernel
theorem pa_49_140 : pz_at 49 140 = some (140, .iastore, 1, 0, 0, 0) := by decide +kernel
theorem pa_49_141 : pz_at 49 141 = some (141, .iinc 5 1, 3, 0, 0, 0) := by decide +kernel
theorem pa_49_144 : pz_at 49 144 = some (144, .goto (-39), 3, 105, 0, 0) := by decide +kernel
theorem pa_49_147 : pz_at 49 147 = some (147, .iconst 0, 1, 0, 0, 0) := by decide +kernel
theorem pa_49_148 : pz_at 49 148 = some (148, .ireturn, 1, 0, 0, 0) := by decide +kernel
theorem pa_49_16 : pz_at 49 16 = some (16, .getfield 180, 3, 4, 14, 155) := by decide +kernel
theorem pa_49_19 : pz_at 49 19 = some (19, .iload_n 1, 1, 0, 0, 0) := by decide +kernel
theorem pa_49_20 : pz_at 49 20 = some (20, .iaload, 1, 0, 0, 0) := by decide +kernel
theorem pa_49_21 : pz_at 49 21 = some (21, .istore_n 2, 1, 0, 0, 0) := by decide +kernel
theorem pa_49_22 : pz_at 49 22 = some (22, .aload_n 0, 1, 0, 0, 0) := by decide +kernel
theorem pa_49_23 : pz_at 49 23 = some (23, .invokevirtual 117, 3, 39, 0, 765) := by decide +kernel
theorem pa_49_26 : pz_at 49 26 = some (26, .aload_n 0, 1, 0, 0, 0) := by decide +kernel
theorem pa_49_27 : pz_at 49 27 = some (27, .getfield 34, 3, 3, 0, 330) := by decide +kernel
theorem pa_49_30 : pz_at 49 30 = some (30, .getfield 120, 3, 4, 13, 152) := by decide +kernel
theorem pa_49_33 : pz_at 49 33 = some (33, .iload_n 1, 1, 0, 0, 0) := by decide +kernel
theorem pa_49_34 : pz_at 49 34 = some (34, .iaload, 1, 0, 0, 0) := by decide +kernel
theorem pa_49_35 : pz_at 49 35 = some (35, .iadd, 1, 0, 0, 0) := by decide +kernel
theorem pa_49_36 : pz_at 49 36 = some (36, .istore_n 3, 1, 0, 0, 0) := by decide +kernel
theorem pa_49_37 : pz_at 49 37 = some (37, .aload_n 0, 1, 0, 0, 0) := by decide +kernel
theorem pa_49_38 : pz_at 49 38 = some (38, .invokevirtual 117, 3, 39, 0, 765) := by decide +kernel
theorem pa_49_4 : pz_at 49 4 = some (4, .bipush 12, 2, 0, 0, 0) := by decide +kernel
theorem pa_49_41 : pz_at 49 41 = some (41, .aload_n 0, 1, 0, 0, 0) := by decide +kernel
theorem pa_49_42 : pz_at 49 42 = some (42, .getfield 34, 3, 3, 0, 330) := by decide +kernel
theorem pa_49_45 : pz_at 49 45 = some (45, .getfield 123, 3, 4, 15, 158) := by decide +kernel
theorem pa_49_48 : pz_at 49 48 = some (48, .iload_n 1, 1, 0, 0, 0) := by decide +kernel
theorem pa_49_49 : pz_at 49 49 = some (49, .iaload, 1, 0, 0, 0) := by decide +kernel
theorem pa_49_50 : pz_at 49 50 = some (50, .iadd, 1, 0, 0, 0) := by decide +kernel
theorem pa_49_51 : pz_at 49 51 = some (51, .istore 4, 2, 0, 0, 0) := by decide +kernel
theorem pa_49_53 : pz_at 49 53 = some (53, .aload_n 0, 1, 0, 0, 0) := by decide +kernel
theorem pa_49_54 : pz_at 49 54 = some (54, .iload_n 2, 1, 0, 0, 0) := by decide +kernel
theorem pa_49_55 : pz_at 49 55 = some (55, .invokevirtual 68, 3, 36, 1, 753) := by decide +kernel
theorem pa_49_58 : pz_at 49 58 = some (58, .iconst 0, 1, 0, 0, 0) := by decide +kernel
theorem pa_49_59 : pz_at 49 59 = some (59, .istore 5, 2, 0, 0, 0) := by decide +kernel
theorem pa_49_6 : pz_at 49 6 = some (6, .if_icmp .lt 6, 3, 12, 0, 0) := by decide +kernel
theorem pa_49_61 : pz_at 49 61 = some (61, .iload 5, 2, 0, 0, 0) := by decide +kernel
theorem pa_49_63 : pz_at 49 63 = some (63, .aload_n 0, 1, 0, 0, 0) := by decide +kernel
theorem pa_49_64 : pz_at 49 64 = some (64, .getfield 34, 3, 3, 0, 330) := by decide +kernel
theorem pa_49_67 : pz_at 49 67 = some (67, .getfield 72, 3, 4, 8, 136) := by decide +kernel
theorem pa_49_70 : pz_at 49 70 = some (70, .iload_n 2, 1, 0, 0, 0) := by decide +kernel
theorem pa_49_71 : pz_at 49 71 = some (71, .iaload, 1, 0, 0, 0) := by decide +kernel
theorem pa_49_72 : pz_at 49 72 = some (72, .if_icmp .ge 30, 3, 102, 0, 0) := by decide +kernel
theorem pa_49_75 : pz_at 49 75 = some (75, .aload_n 0, 1, 0, 0, 0) := by decide +kernel
theorem pa_49_76 : pz_at 49 76 = some (76, .getfield 25, 3, 3, 6, 337) := by decide +kernel
theorem pa_49_79 : pz_at 49 79 = some (79, .aload_n 0, 1, 0, 0, 0) := by decide +kernel
theorem pa_49_80 : pz_at 49 80 = some (80, .invokevirtual 117, 3, 39, 0, 765) := by decide +kernel
theorem pa_49_83 : pz_at 49 83 = some (83, .iload 5, 2, 0, 0, 0) := by decide +kernel
theorem pa_49_85 : pz_at 49 85 = some (85, .iadd, 1, 0, 0, 0) := by decide +kernel
theorem pa_49_86 : pz_at 49 86 = some (86, .aload_n 0, 1, 0, 0, 0) := by decide +kernel
theorem pa_49_87 : pz_at 49 87 = some (87, .getfield 25, 3, 3, 6, 337) := by decide +kernel
theorem pa_49_9 : pz_at 49 9 = some (9, .bipush (-4), 2, 0, 0, 0) := by decide +kernel
theorem pa_49_90 : pz_at 49 90 = some (90, .iload_n 3, 1, 0, 0, 0) := by decide +kernel
theorem pa_49_91 : pz_at 49 91 = some (91, .iload 5, 2, 0, 0, 0) := by decide +kernel
theorem pa_49_93 : pz_at 49 93 = some (93, .iadd, 1, 0, 0, 0) := by decide +kernel
theorem pa_49_94 : pz_at 49 94 = some (94, .iaload, 1, 0, 0, 0) := by decide +kernel
theorem pa_49_95 : pz_at 49 95 = some (95, .iastore, 1, 0, 0, 0) := by decide +kernel
theorem pa_49_96 : pz_at 49 96 = some (96, .iinc 5 1, 3, 0, 0, 0) := by decide +kernel
theorem pa_49_99 : pz_at 49 99 = some (99, .goto (-38), 3, 61, 0, 0) := by decide +kernel
theorem pr_49 : (pz_mi 49).2.2 = (some .int) := by decide +kernel
theorem pa_50_0 : pz_at 50 0 = some (0, .aload_n 0, 1, 0, 0, 0) := by decide +kernel
theorem pa_50_1 : pz_at 50 1 = some (1, .getfield 38, 3, 3, 1, 331) := by decide +kernel
theorem pa_50_12 : pz_at 50 12 = some (12, .aload_n 0, 1, 0, 0, 0) := by decide +kernel
theorem pa_50_13 : pz_at 50 13 = some (13, .getfield 34, 3, 3, 0, 330) := by decide +kernel
theorem pa_50_16 : pz_at 50 16 = some (16, .getfield 120, 3, 4, 13, 152) := by decide +kernel
theorem pa_50_19 : pz_at 50 19 = some (19, .iload_n 1, 1, 0, 0, 0) := by decide +kernel
theorem pa_50_20 : pz_at 50 20 = some (20, .iaload, 1, 0, 0, 0) := by decide +kernel
theorem pa_50_21 : pz_at 50 21 = some (21, .iadd, 1, 0, 0, 0) := by decide +kernel
theorem pa_50_22 : pz_at 50 22 = some (22, .iaload, 1, 0, 0, 0) := by decide +kernel
theorem pa_50_23 : pz_at 50 23 = some (23, .invokevirtual 208, 3, 81, 1, 817) := by decide +kernel
theorem pa_50_26 : pz_at 50 26 = some (26, .aload_n 0, 1, 0, 0, 0) := by decide +kernel
theorem pa_50_27 : pz_at 50 27 = some (27, .getfield 12, 3, 3, 3, 333) := by decide +kernel
theorem pa_50_30 : pz_at 50 30 = some (30, .dup, 1, 0, 0, 0) := by decide +kernel
theorem pa_50_31 : pz_at 50 31 = some (31, .getfield 97, 3, 0, 2, 300) := by decide +kernel
theorem pa_50_34 : pz_at 50 34 = some (34, .iconst 1, 1, 0, 0, 0) := by decide +kernel
theorem pa_50_35 : pz_at 50 35 = some (35, .iadd, 1, 0, 0, 0) := by decide +kernel
theorem pa_50_36 : pz_at 50 36 = some (36, .putfield 97, 3, 0, 2, 300) := by decide +kernel
theorem pa_50_39 : pz_at 50 39 = some (39, .aload_n 0, 1, 0, 0, 0) := by decide +kernel
theorem pa_50_4 : pz_at 50 4 = some (4, .aload_n 0, 1, 0, 0, 0) := by decide +kernel
theorem pa_50_40 : pz_at 50 40 = some (40, .invokevirtual 126, 3, 40, 0, 769) := by decide +kernel
theorem pa_50_43 : pz_at 50 43 = some (43, .ireturn, 1, 0, 0, 0) := by decide +kernel
theorem pa_50_5 : pz_at 50 5 = some (5, .getfield 25, 3, 3, 6, 337) := by decide +kernel
theorem pa_50_8 : pz_at 50 8 = some (8, .aload_n 0, 1, 0, 0, 0) := by decide +kernel
theorem pa_50_9 : pz_at 50 9 = some (9, .invokevirtual 117, 3, 39, 0, 765) := by decide +kernel
theorem pm_81 : pz_mi 81 = (5, 2, none) := by decide +kernel
theorem pr_50 : (pz_mi 50).2.2 = (some .int) := by decide +kernel
theorem pa_51_0 : pz_at 51 0 = some (0, .aload_n 0, 1, 0, 0, 0) := by decide +kernel
theorem pa_51_1 : pz_at 51 1 = some (1, .getfield 34, 3, 3, 0, 330) := by decide +kernel
theorem pa_51_10 : pz_at 51 10 = some (10, .aload_n 0, 1, 0, 0, 0) := by decide +kernel
theorem pa_51_100 : pz_at 51 100 = some (100, .getfield 25, 3, 3, 6, 337) := by decide +kernel
theorem pa_51_103 : pz_at 51 103 = some (103, .aload_n 0, 1, 0, 0, 0) := by decide +kernel
theorem pa_51_104 : pz_at 51 104 = some (104, .invokevirtual 117, 3, 39, 0, 765) := by decide +kernel
theorem pa_51_107 : pz_at 51 107 = some (107, .iload 4, 2, 0, 0, 0) := by decide +kernel
theorem pa_51_109 : pz_at 51 109 = some (109, .iadd, 1, 0, 0, 0) := by decide +kernel
theorem pa_51_11 : pz_at 51 11 = some (11, .getfield 34, 3, 3, 0, 330) := by decide +kernel
theorem pa_51_110 : pz_at 51 110 = some (110, .iaload, 1, 0, 0, 0) := by decide +kernel
theorem pa_51_111 : pz_at 51 111 = some (111, .if_icmp .ne 7, 3, 118, 0, 0) := by decide +kernel
theorem pa_51_114 : pz_at 51 114 = some (114, .iconst 1, 1, 0, 0, 0) := by decide +kernel
theorem pa_51_115 : pz_at 51 115 = some (115, .goto 4, 3, 119, 0, 0) := by decide +kernel
theorem pa_51_118 : pz_at 51 118 = some (118, .iconst 0, 1, 0, 0, 0) := by decide +kernel
theorem pa_51_119 : pz_at 51 119 = some (119, .ireturn, 1, 0, 0, 0) := by decide +kernel
theorem pa_51_120 : pz_at 51 120 = some (120, .aload_n 0, 1, 0, 0, 0) := by decide +kernel
theorem pa_51_121 : pz_at 51 121 = some (121, .getfield 28, 3, 3, 7, 338) := by decide +kernel
theorem pa_51_124 : pz_at 51 124 = some (124, .aload_n 0, 1, 0, 0, 0) := by decide +kernel
theorem pa_51_125 : pz_at 51 125 = some (125, .invokevirtual 117, 3, 39, 0, 765) := by decide +kernel
theorem pa_51_128 : pz_at 51 128 = some (128, .iload_n 3, 1, 0, 0, 0) := by decide +kernel
theorem pa_51_129 : pz_at 51 129 = some (129, .iadd, 1, 0, 0, 0) := by decide +kernel
theorem pa_51_130 : pz_at 51 130 = some (130, .iaload, 1, 0, 0, 0) := by decide +kernel
theorem pa_51_131 : pz_at 51 131 = some (131, .iconst (-1), 1, 0, 0, 0) := by decide +kernel
theorem pa_51_132 : pz_at 51 132 = some (132, .if_icmp .ne 7, 3, 139, 0, 0) := by decide +kernel
theorem pa_51_135 : pz_at 51 135 = some (135, .iconst 1, 1, 0, 0, 0) := by decide +kernel
theorem pa_51_136 : pz_at 51 136 = some (136, .goto 4, 3, 140, 0, 0) := by decide +kernel
theorem pa_51_139 : pz_at 51 139 = some (139, .iconst 0, 1, 0, 0, 0) := by decide +kernel
theorem pa_51_14 : pz_at 51 14 = some (14, .getfield 180, 3, 4, 14, 155) := by decide +kernel
theorem pa_51_140 : pz_at 51 140 = some (140, .ireturn, 1, 0, 0, 0) := by decide +kernel
theorem pa_51_141 : pz_at 51 141 = some (141, .aload_n 0, 1, 0, 0, 0) := by decide +kernel
theorem pa_51_142 : pz_at 51 142 = some (142, .getfield 28, 3, 3, 7, 338) := by decide +kernel
theorem pa_51_145 : pz_at 51 145 = some (145, .aload_n 0, 1, 0, 0, 0) := by decide +kernel
theorem pa_51_146 : pz_at 51 146 = some (146, .invokevirtual 117, 3, 39, 0, 765) := by decide +kernel
theorem pa_51_149 : pz_at 51 149 = some (149, .iload_n 3, 1, 0, 0, 0) := by decide +kernel
theorem pa_51_150 : pz_at 51 150 = some (150, .iadd, 1, 0, 0, 0) := by decide +kernel
theorem pa_51_151 : pz_at 51 151 = some (151, .iaload, 1, 0, 0, 0) := by decide +kernel
theorem pa_51_152 : pz_at 51 152 = some (152, .aload_n 0, 1, 0, 0, 0) := by decide +kernel
theorem pa_51_153 : pz_at 51 153 = some (153, .getfield 28, 3, 3, 7, 338) := by decide +kernel
theorem pa_51_156 : pz_at 51 156 = some (156, .aload_n 0, 1, 0, 0, 0) := by decide +kernel
theorem pa_51_157 : pz_at 51 157 = some (157, .invokevirtual 117, 3, 39, 0, 765) := by decide +kernel
theorem pa_51_160 : pz_at 51 160 = some (160, .iload 4, 2, 0, 0, 0) := by decide +kernel
theorem pa_51_162 : pz_at 51 162 = some (162, .iadd, 1, 0, 0, 0) := by decide +kernel
theorem pa_51_163 : pz_at 51 163 = some (163, .iaload, 1, 0, 0, 0) := by decide +kernel
theorem pa_51_164 : pz_at 51 164 = some (164, .if_icmp .ne 7, 3, 171, 0, 0) := by decide +kernel
theorem pa_51_167 : pz_at 51 167 = some (167, .iconst 1, 1, 0, 0, 0) := by decide +kernel
theorem pa_51_168 : pz_at 51 168 = some (168, .goto 4, 3, 172, 0, 0) := by decide +kernel
theorem pa_51_17 : pz_at 51 17 = some (17, .iload_n 1, 1, 0, 0, 0) := by decide +kernel
theorem pa_51_171 : pz_at 51 171 = some (171, .iconst 0, 1, 0, 0, 0) := by decide +kernel
theorem pa_51_172 : pz_at 51 172 = some (172, .ireturn, 1, 0, 0, 0) := by decide +kernel
theorem pa_51_173 : pz_at 51 173 = some (173, .aload_n 0, 1, 0, 0, 0) := by decide +kernel
theorem pa_51_174 : pz_at 51 174 = some (174, .getfield 38, 3, 3, 1, 331) := by decide +kernel
theorem pa_51_177 : pz_at 51 177 = some (177, .aload_n 0, 1, 0, 0, 0) := by decide +kernel
theorem pa_51_178 : pz_at 51 178 = some (178, .getfield 34, 3, 3, 0, 330) := by decide +kernel
theorem pa_51_18 : pz_at 51 18 = some (18, .iaload, 1, 0, 0, 0) := by decide +kernel
theorem pa_51_181 : pz_at 51 181 = some (181, .aload_n 0, 1, 0, 0, 0) := by decide +kernel
theorem pa_51_182 : pz_at 51 182 = some (182, .getfield 28, 3, 3, 7, 338) := by decide +kernel
theorem pa_51_185 : pz_at 51 185 = some (185, .aload_n 0, 1, 0, 0, 0) := by decide +kernel
theorem pa_51_186 : pz_at 51 186 = some (186, .invokevirtual 117, 3, 39, 0, 765) := by decide +kernel
theorem pa_51_189 : pz_at 51 189 = some (189, .iload_n 3, 1, 0, 0, 0) := by decide +kernel
theorem pa_51_19 : pz_at 51 19 = some (19, .istore 4, 2, 0, 0, 0) := by decide +kernel
theorem pa_51_190 : pz_at 51 190 = some (190, .iadd, 1, 0, 0, 0) := by decide +kernel
theorem pa_51_191 : pz_at 51 191 = some (191, .iaload, 1, 0, 0, 0) := by decide +kernel
theorem pa_51_192 : pz_at 51 192 = some (192, .iload 4, 2, 0, 0, 0) := by decide +kernel
theorem pa_51_194 : pz_at 51 194 = some (194, .invokevirtual 211, 3, 75, 3, 825) := by decide +kernel
theorem pa_51_197 : pz_at 51 197 = some (197, .ireturn, 1, 0, 0, 0) := by decide +kernel
theorem pa_51_198 : pz_at 51 198 = some (198, .iconst 1, 1, 0, 0, 0) := by decide +kernel
theorem pa_51_199 : pz_at 51 199 = some (199, .ireturn, 1, 0, 0, 0) := by decide +kernel
theorem pa_51_21 : pz_at 51 21 = some (21, .iload_n 2, 1, 0, 0, 0) := by decide +kernel
theorem pa_51_22 : pz_at 51 22 = some (22, .tableswitch 176 23 27 #[34, 66, 98, 119, 151], 34, 0, 0, 0) := by decide +kernel
theorem pa_51_4 : pz_at 51 4 = some (4, .getfield 120, 3, 4, 13, 152) := by decide +kernel
theorem pa_51_56 : pz_at 51 56 = some (56, .aload_n 0, 1, 0, 0, 0) := by decide +kernel
theorem pa_51_57 : pz_at 51 57 = some (57, .getfield 25, 3, 3, 6, 337) := by decide +kernel
theorem pa_51_60 : pz_at 51 60 = some (60, .aload_n 0, 1, 0, 0, 0) := by decide +kernel
theorem pa_51_61 : pz_at 51 61 = some (61, .invokevirtual 117, 3, 39, 0, 765) := by decide +kernel
theorem pa_51_64 : pz_at 51 64 = some (64, .iload_n 3, 1, 0, 0, 0) := by decide +kernel
theorem pa_51_65 : pz_at 51 65 = some (65, .iadd, 1, 0, 0, 0) := by decide +kernel
theorem pa_51_66 : pz_at 51 66 = some (66, .iaload, 1, 0, 0, 0) := by decide +kernel
theorem pa_51_67 : pz_at 51 67 = some (67, .aload_n 0, 1, 0, 0, 0) := by decide +kernel
theorem pa_51_68 : pz_at 51 68 = some (68, .getfield 25, 3, 3, 6, 337) := by decide +kernel
theorem pa_51_7 : pz_at 51 7 = some (7, .iload_n 1, 1, 0, 0, 0) := by decide +kernel
theorem pa_51_71 : pz_at 51 71 = some (71, .aload_n 0, 1, 0, 0, 0) := by decide +kernel
theorem pa_51_72 : pz_at 51 72 = some (72, .invokevirtual 117, 3, 39, 0, 765) := by decide +kernel
theorem pa_51_75 : pz_at 51 75 = some (75, .iload 4, 2, 0, 0, 0) := by decide +kernel
theorem pa_51_77 : pz_at 51 77 = some (77, .iadd, 1, 0, 0, 0) := by decide +kernel
theorem pa_51_78 : pz_at 51 78 = some (78, .iaload, 1, 0, 0, 0) := by decide +kernel
theorem pa_51_79 : pz_at 51 79 = some (79, .if_icmp .ge 7, 3, 86, 0, 0) := by decide +kernel
theorem pa_51_8 : pz_at 51 8 = some (8, .iaload, 1, 0, 0, 0) := by decide +kernel
theorem pa_51_82 : pz_at 51 82 = some (82, .iconst 1, 1, 0, 0, 0) := by decide +kernel
theorem pa_51_83 : pz_at 51 83 = some (83, .goto 4, 3, 87, 0, 0) := by decide +kernel
theorem pa_51_86 : pz_at 51 86 = some (86, .iconst 0, 1, 0, 0, 0) := by decide +kernel
theorem pa_51_87 : pz_at 51 87 = some (87, .ireturn, 1, 0, 0, 0) := by decide +kernel
theorem pa_51_88 : pz_at 51 88 = some (88, .aload_n 0, 1, 0, 0, 0) := by decide +kernel
theorem pa_51_89 : pz_at 51 89 = some (89, .getfield 25, 3, 3, 6, 337) := by decide +kernel
theorem pa_51_9 : pz_at 51 9 = some (9, .istore_n 3, 1, 0, 0, 0) := by decide +kernel
theorem pa_51_92 : pz_at 51 92 = some (92, .aload_n 0, 1, 0, 0, 0) := by decide +kernel
theorem pa_51_93 : pz_at 51 93 = some (93, .invokevirtual 117, 3, 39, 0, 765) := by decide +kernel
theorem pa_51_96 : pz_at 51 96 = some (96, .iload_n 3, 1, 0, 0, 0) := by decide +kernel
theorem pa_51_97 : pz_at 51 97 = some (97, .iadd, 1, 0, 0, 0) := by decide +kernel
theorem pa_51_98 : pz_at 51 98 = some (98, .iaload, 1, 0, 0, 0) := by decide +kernel
theorem pa_51_99 : pz_at 51 99 = some (99, .aload_n 0, 1, 0, 0, 0) := by decide +kernel
theorem pm_75 : pz_mi 75 = (5, 4, (some .boolean)) := by decide +kernel
theorem pr_51 : (pz_mi 51).2.2 = (some .boolean) := by decide +kernel
theorem pa_52_0 : pz_at 52 0 = some (0, .aload_n 0, 1, 0, 0, 0) := by decide +kernel
theorem pa_52_1 : pz_at 52 1 = some (1, .getfield 34, 3, 3, 0, 330) := by decide +kernel
theorem pa_52_10 : pz_at 52 10 = some (10, .iload_n 2, 1, 0, 0, 0) := by decide +kernel
theorem pa_52_100 : pz_at 52 100 = some (100, .getfield 18, 3, 3, 4, 335) := by decide +kernel
theorem pa_52_103 : pz_at 52 103 = some (103, .aload_n 0, 1, 0, 0, 0) := by decide +kernel
theorem pa_52_104 : pz_at 52 104 = some (104, .getfield 49, 3, 3, 8, 339) := by decide +kernel
theorem pa_52_107 : pz_at 52 107 = some (107, .iconst 1, 1, 0, 0, 0) := by decide +kernel
theorem pa_52_108 : pz_at 52 108 = some (108, .isub, 1, 0, 0, 0) := by decide +kernel
theorem pa_52_109 : pz_at 52 109 = some (109, .iaload, 1, 0, 0, 0) := by decide +kernel
theorem pa_52_11 : pz_at 52 11 = some (11, .bipush 29, 2, 0, 0, 0) := by decide +kernel
theorem pa_52_110 : pz_at 52 110 = some (110, .iaload, 1, 0, 0, 0) := by decide +kernel
theorem pa_52_111 : pz_at 52 111 = some (111, .istore 4, 2, 0, 0, 0) := by decide +kernel
theorem pa_52_113 : pz_at 52 113 = some (113, .iload 4, 2, 0, 0, 0) := by decide +kernel
theorem pa_52_115 : pz_at 52 115 = some (115, .ifCond .ne 11, 3, 126, 0, 0) := by decide +kernel
theorem pa_52_118 : pz_at 52 118 = some (118, .aload_n 0, 1, 0, 0, 0) := by decide +kernel
theorem pa_52_119 : pz_at 52 119 = some (119, .iconst 0, 1, 0, 0, 0) := by decide +kernel
theorem pa_52_120 : pz_at 52 120 = some (120, .invokevirtual 139, 3, 37, 1, 761) := by decide +kernel
theorem pa_52_123 : pz_at 52 123 = some (123, .goto 38, 3, 161, 0, 0) := by decide +kernel
theorem pa_52_126 : pz_at 52 126 = some (126, .aload_n 0, 1, 0, 0, 0) := by decide +kernel
theorem pa_52_127 : pz_at 52 127 = some (127, .iload 4, 2, 0, 0, 0) := by decide +kernel
theorem pa_52_129 : pz_at 52 129 = some (129, .iconst 1, 1, 0, 0, 0) := by decide +kernel
theorem pa_52_13 : pz_at 52 13 = some (13, .if_icmp .ne 68, 3, 81, 0, 0) := by decide +kernel
theorem pa_52_130 : pz_at 52 130 = some (130, .if_icmp .ne 17, 3, 147, 0, 0) := by decide +kernel
theorem pa_52_133 : pz_at 52 133 = some (133, .aload_n 0, 1, 0, 0, 0) := by decide +kernel
theorem pa_52_134 : pz_at 52 134 = some (134, .getfield 25, 3, 3, 6, 337) := by decide +kernel
theorem pa_52_137 : pz_at 52 137 = some (137, .aload_n 0, 1, 0, 0, 0) := by decide +kernel
theorem pa_52_138 : pz_at 52 138 = some (138, .invokevirtual 117, 3, 39, 0, 765) := by decide +kernel
theorem pa_52_141 : pz_at 52 141 = some (141, .iload_n 3, 1, 0, 0, 0) := by decide +kernel
theorem pa_52_142 : pz_at 52 142 = some (142, .iadd, 1, 0, 0, 0) := by decide +kernel
theorem pa_52_143 : pz_at 52 143 = some (143, .iaload, 1, 0, 0, 0) := by decide +kernel
theorem pa_52_144 : pz_at 52 144 = some (144, .goto 14, 3, 158, 0, 0) := by decide +kernel
theorem pa_52_147 : pz_at 52 147 = some (147, .aload_n 0, 1, 0, 0, 0) := by decide +kernel
theorem pa_52_148 : pz_at 52 148 = some (148, .getfield 28, 3, 3, 7, 338) := by decide +kernel
theorem pa_52_151 : pz_at 52 151 = some (151, .aload_n 0, 1, 0, 0, 0) := by decide +kernel
theorem pa_52_152 : pz_at 52 152 = some (152, .invokevirtual 117, 3, 39, 0, 765) := by decide +kernel
theorem pa_52_155 : pz_at 52 155 = some (155, .iload_n 3, 1, 0, 0, 0) := by decide +kernel
theorem pa_52_156 : pz_at 52 156 = some (156, .iadd, 1, 0, 0, 0) := by decide +kernel
theorem pa_52_157 : pz_at 52 157 = some (157, .iaload, 1, 0, 0, 0) := by decide +kernel
theorem pa_52_158 : pz_at 52 158 = some (158, .invokevirtual 139, 3, 37, 1, 761) := by decide +kernel
theorem pa_52_16 : pz_at 52 16 = some (16, .aload_n 0, 1, 0, 0, 0) := by decide +kernel
theorem pa_52_161 : pz_at 52 161 = some (161, .iconst 0, 1, 0, 0, 0) := by decide +kernel
theorem pa_52_162 : pz_at 52 162 = some (162, .ireturn, 1, 0, 0, 0) := by decide +kernel
theorem pa_52_17 : pz_at 52 17 = some (17, .getfield 28, 3, 3, 7, 338) := by decide +kernel
theorem pa_52_20 : pz_at 52 20 = some (20, .aload_n 0, 1, 0, 0, 0) := by decide +kernel
theorem pa_52_21 : pz_at 52 21 = some (21, .invokevirtual 117, 3, 39, 0, 765) := by decide +kernel
theorem pa_52_24 : pz_at 52 24 = some (24, .iload_n 3, 1, 0, 0, 0) := by decide +kernel
theorem pa_52_25 : pz_at 52 25 = some (25, .iadd, 1, 0, 0, 0) := by decide +kernel
theorem pa_52_26 : pz_at 52 26 = some (26, .iaload, 1, 0, 0, 0) := by decide +kernel
theorem pa_52_27 : pz_at 52 27 = some (27, .istore 4, 2, 0, 0, 0) := by decide +kernel
theorem pa_52_29 : pz_at 52 29 = some (29, .iload 4, 2, 0, 0, 0) := by decide +kernel
theorem pa_52_31 : pz_at 52 31 = some (31, .iconst (-1), 1, 0, 0, 0) := by decide +kernel
theorem pa_52_32 : pz_at 52 32 = some (32, .if_icmp .eq 28, 3, 60, 0, 0) := by decide +kernel
theorem pa_52_35 : pz_at 52 35 = some (35, .aload_n 0, 1, 0, 0, 0) := by decide +kernel
theorem pa_52_36 : pz_at 52 36 = some (36, .getfield 38, 3, 3, 1, 331) := by decide +kernel
theorem pa_52_39 : pz_at 52 39 = some (39, .aload_n 0, 1, 0, 0, 0) := by decide +kernel
theorem pa_52_4 : pz_at 52 4 = some (4, .getfield 120, 3, 4, 13, 152) := by decide +kernel
theorem pa_52_40 : pz_at 52 40 = some (40, .getfield 34, 3, 3, 0, 330) := by decide +kernel
theorem pa_52_43 : pz_at 52 43 = some (43, .iload 4, 2, 0, 0, 0) := by decide +kernel
theorem pa_52_45 : pz_at 52 45 = some (45, .aload_n 0, 1, 0, 0, 0) := by decide +kernel
theorem pa_52_46 : pz_at 52 46 = some (46, .getfield 34, 3, 3, 0, 330) := by decide +kernel
theorem pa_52_49 : pz_at 52 49 = some (49, .getfield 180, 3, 4, 14, 155) := by decide +kernel
theorem pa_52_52 : pz_at 52 52 = some (52, .iload_n 1, 1, 0, 0, 0) := by decide +kernel
theorem pa_52_53 : pz_at 52 53 = some (53, .iaload, 1, 0, 0, 0) := by decide +kernel
theorem pa_52_54 : pz_at 52 54 = some (54, .invokevirtual 211, 3, 75, 3, 825) := by decide +kernel
theorem pa_52_57 : pz_at 52 57 = some (57, .ifCond .eq 7, 3, 64, 0, 0) := by decide +kernel
theorem pa_52_60 : pz_at 52 60 = some (60, .iconst 1, 1, 0, 0, 0) := by decide +kernel
theorem pa_52_61 : pz_at 52 61 = some (61, .goto 4, 3, 65, 0, 0) := by decide +kernel
theorem pa_52_64 : pz_at 52 64 = some (64, .iconst 0, 1, 0, 0, 0) := by decide +kernel
theorem pa_52_65 : pz_at 52 65 = some (65, .istore 5, 2, 0, 0, 0) := by decide +kernel
theorem pa_52_67 : pz_at 52 67 = some (67, .iload 5, 2, 0, 0, 0) := by decide +kernel
theorem pa_52_69 : pz_at 52 69 = some (69, .ifCond .eq 10, 3, 79, 0, 0) := by decide +kernel
theorem pa_52_7 : pz_at 52 7 = some (7, .iload_n 1, 1, 0, 0, 0) := by decide +kernel
theorem pa_52_72 : pz_at 52 72 = some (72, .aload_n 0, 1, 0, 0, 0) := by decide +kernel
theorem pa_52_73 : pz_at 52 73 = some (73, .invokevirtual 126, 3, 40, 0, 769) := by decide +kernel
theorem pa_52_76 : pz_at 52 76 = some (76, .goto 4, 3, 80, 0, 0) := by decide +kernel
theorem pa_52_79 : pz_at 52 79 = some (79, .iconst 5, 1, 0, 0, 0) := by decide +kernel
theorem pa_52_8 : pz_at 52 8 = some (8, .iaload, 1, 0, 0, 0) := by decide +kernel
theorem pa_52_80 : pz_at 52 80 = some (80, .ireturn, 1, 0, 0, 0) := by decide +kernel
theorem pa_52_81 : pz_at 52 81 = some (81, .iload_n 2, 1, 0, 0, 0) := by decide +kernel
theorem pa_52_82 : pz_at 52 82 = some (82, .bipush 30, 2, 0, 0, 0) := by decide +kernel
theorem pa_52_84 : pz_at 52 84 = some (84, .if_icmp .ne 8, 3, 92, 0, 0) := by decide +kernel
theorem pa_52_87 : pz_at 52 87 = some (87, .bipush 6, 2, 0, 0, 0) := by decide +kernel
theorem pa_52_89 : pz_at 52 89 = some (89, .iload_n 3, 1, 0, 0, 0) := by decide +kernel
theorem pa_52_9 : pz_at 52 9 = some (9, .istore_n 3, 1, 0, 0, 0) := by decide +kernel
theorem pa_52_90 : pz_at 52 90 = some (90, .iadd, 1, 0, 0, 0) := by decide +kernel
theorem pa_52_91 : pz_at 52 91 = some (91, .ireturn, 1, 0, 0, 0) := by decide +kernel
theorem pa_52_92 : pz_at 52 92 = some (92, .aload_n 0, 1, 0, 0, 0) := by decide +kernel
theorem pa_52_93 : pz_at 52 93 = some (93, .getfield 34, 3, 3, 0, 330) := by decide +kernel
theorem pa_52_96 : pz_at 52 96 = some (96, .getfield 111, 3, 4, 10, 141) := by decide +kernel
theorem pa_52_99 : pz_at 52 99 = some (99, .aload_n 0, 1, 0, 0, 0) := by decide +kernel
theorem pr_52 : (pz_mi 52).2.2 = (some .int) := by decide +kernel
theorem pa_53_0 : pz_at 53 0 = some (0, .iload_n 1, 1, 0, 0, 0) := by decide +kernel
theorem pa_53_1 : pz_at 53 1 = some (1, .aload_n 0, 1, 0, 0, 0) := by decide +kernel
theorem pa_53_10 : pz_at 53 10 = some (10, .iload_n 2, 1, 0, 0, 0) := by decide +kernel
theorem pa_53_11 : pz_at 53 11 = some (11, .ishl, 1, 0, 0, 0) := by decide +kernel
theorem pa_53_12 : pz_at 53 12 = some (12, .istore 4, 2, 0, 0, 0) := by decide +kernel
theorem pa_53_14 : pz_at 53 14 = some (14, .iload_n 3, 1, 0, 0, 0) := by decide +kernel
theorem pa_53_15 : pz_at 53 15 = some (15, .ifCond .eq 20, 3, 35, 0, 0) := by decide +kernel
theorem pa_53_18 : pz_at 53 18 = some (18, .aload_n 0, 1, 0, 0, 0) := by decide +kernel
theorem pa_53_19 : pz_at 53 19 = some (19, .getfield 12, 3, 3, 3, 333) := by decide +kernel
theorem pa_53_2 : pz_at 53 2 = some (2, .getfield 61, 3, 3, 10, 341) := by decide +kernel
theorem pa_53_22 : pz_at 53 22 = some (22, .dup, 1, 0, 0, 0) := by decide +kernel
theorem pa_53_23 : pz_at 53 23 = some (23, .getfield 214, 3, 0, 1, 298) := by decide +kernel
theorem pa_53_26 : pz_at 53 26 = some (26, .iload 4, 2, 0, 0, 0) := by decide +kernel
theorem pa_53_28 : pz_at 53 28 = some (28, .ior, 1, 0, 0, 0) := by decide +kernel
theorem pa_53_29 : pz_at 53 29 = some (29, .putfield 214, 3, 0, 1, 298) := by decide +kernel
theorem pa_53_32 : pz_at 53 32 = some (32, .goto 17, 3, 49, 0, 0) := by decide +kernel
theorem pa_53_35 : pz_at 53 35 = some (35, .aload_n 0, 1, 0, 0, 0) := by decide +kernel
theorem pa_53_36 : pz_at 53 36 = some (36, .getfield 12, 3, 3, 3, 333) := by decide +kernel
theorem pa_53_39 : pz_at 53 39 = some (39, .dup, 1, 0, 0, 0) := by decide +kernel
theorem pa_53_40 : pz_at 53 40 = some (40, .getfield 217, 3, 0, 0, 296) := by decide +kernel
theorem pa_53_43 : pz_at 53 43 = some (43, .iload 4, 2, 0, 0, 0) := by decide +kernel
theorem pa_53_45 : pz_at 53 45 = some (45, .ior, 1, 0, 0, 0) := by decide +kernel
theorem pa_53_46 : pz_at 53 46 = some (46, .putfield 217, 3, 0, 0, 296) := by decide +kernel
theorem pa_53_49 : pz_at 53 49 = some (49, .aload_n 0, 1, 0, 0, 0) := by decide +kernel
theorem pa_53_5 : pz_at 53 5 = some (5, .if_icmp .lt 4, 3, 9, 0, 0) := by decide +kernel
theorem pa_53_50 : pz_at 53 50 = some (50, .getfield 64, 3, 3, 11, 342) := by decide +kernel
theorem pa_53_53 : pz_at 53 53 = some (53, .ifCond .eq 23, 3, 76, 0, 0) := by decide +kernel
theorem pa_53_56 : pz_at 53 56 = some (56, .aload_n 0, 1, 0, 0, 0) := by decide +kernel
theorem pa_53_57 : pz_at 53 57 = some (57, .iload_n 1, 1, 0, 0, 0) := by decide +kernel
theorem pa_53_58 : pz_at 53 58 = some (58, .iload_n 3, 1, 0, 0, 0) := by decide +kernel
theorem pa_53_59 : pz_at 53 59 = some (59, .invokevirtual 220, 3, 54, 2, 791) := by decide +kernel
theorem pa_53_62 : pz_at 53 62 = some (62, .iload 4, 2, 0, 0, 0) := by decide +kernel
theorem pa_53_64 : pz_at 53 64 = some (64, .iand, 1, 0, 0, 0) := by decide +kernel
theorem pa_53_65 : pz_at 53 65 = some (65, .ifCond .ne 11, 3, 76, 0, 0) := by decide +kernel
theorem pa_53_68 : pz_at 53 68 = some (68, .aload_n 0, 1, 0, 0, 0) := by decide +kernel
theorem pa_53_69 : pz_at 53 69 = some (69, .getfield 12, 3, 3, 3, 333) := by decide +kernel
theorem pa_53_72 : pz_at 53 72 = some (72, .iconst 1, 1, 0, 0, 0) := by decide +kernel
theorem pa_53_73 : pz_at 53 73 = some (73, .putfield 108, 3, 0, 7, 311) := by decide +kernel
theorem pa_53_76 : pz_at 53 76 = some (76, .return_, 1, 0, 0, 0) := by decide +kernel
theorem pa_53_8 : pz_at 53 8 = some (8, .return_, 1, 0, 0, 0) := by decide +kernel
theorem pa_53_9 : pz_at 53 9 = some (9, .iconst 1, 1, 0, 0, 0) := by decide +kernel
theorem pm_54 : pz_mi 54 = (3, 7, (some .int)) := by decide +kernel
theorem pr_53 : (pz_mi 53).2.2 = none := by decide +kernel
theorem pa_54_0 : pz_at 54 0 = some (0, .aload_n 0, 1, 0, 0, 0) := by decide +kernel
theorem pa_54_1 : pz_at 54 1 = some (1, .getfield 18, 3, 3, 4, 335) := by decide +kernel
theorem pa_54_11 : pz_at 54 11 = some (11, .aload_n 0, 1, 0, 0, 0) := by decide +kernel
theorem pa_54_12 : pz_at 54 12 = some (12, .getfield 42, 3, 3, 2, 332) := by decide +kernel
theorem pa_54_15 : pz_at 54 15 = some (15, .getfield 224, 3, 1, 3, 255) := by decide +kernel
theorem pa_54_18 : pz_at 54 18 = some (18, .goto 10, 3, 28, 0, 0) := by decide +kernel
theorem pa_54_21 : pz_at 54 21 = some (21, .aload_n 0, 1, 0, 0, 0) := by decide +kernel
theorem pa_54_22 : pz_at 54 22 = some (22, .getfield 42, 3, 3, 2, 332) := by decide +kernel
theorem pa_54_25 : pz_at 54 25 = some (25, .getfield 226, 3, 1, 2, 252) := by decide +kernel
theorem pa_54_28 : pz_at 54 28 = some (28, .astore 4, 2, 0, 0, 0) := by decide +kernel
theorem pa_54_30 : pz_at 54 30 = some (30, .aload 4, 2, 0, 0, 0) := by decide +kernel
theorem pa_54_32 : pz_at 54 32 = some (32, .iload_n 3, 1, 0, 0, 0) := by decide +kernel
theorem pa_54_33 : pz_at 54 33 = some (33, .iconst 4, 1, 0, 0, 0) := by decide +kernel
theorem pa_54_34 : pz_at 54 34 = some (34, .imul, 1, 0, 0, 0) := by decide +kernel
theorem pa_54_35 : pz_at 54 35 = some (35, .iconst 3, 1, 0, 0, 0) := by decide +kernel
theorem pa_54_36 : pz_at 54 36 = some (36, .iadd, 1, 0, 0, 0) := by decide +kernel
theorem pa_54_37 : pz_at 54 37 = some (37, .iaload, 1, 0, 0, 0) := by decide +kernel
theorem pa_54_38 : pz_at 54 38 = some (38, .istore 5, 2, 0, 0, 0) := by decide +kernel
theorem pa_54_4 : pz_at 54 4 = some (4, .iconst 0, 1, 0, 0, 0) := by decide +kernel
theorem pa_54_40 : pz_at 54 40 = some (40, .iconst 0, 1, 0, 0, 0) := by decide +kernel
theorem pa_54_41 : pz_at 54 41 = some (41, .istore 6, 2, 0, 0, 0) := by decide +kernel
theorem pa_54_43 : pz_at 54 43 = some (43, .iload 6, 2, 0, 0, 0) := by decide +kernel
theorem pa_54_45 : pz_at 54 45 = some (45, .aload_n 0, 1, 0, 0, 0) := by decide +kernel
theorem pa_54_46 : pz_at 54 46 = some (46, .getfield 34, 3, 3, 0, 330) := by decide +kernel
theorem pa_54_49 : pz_at 54 49 = some (49, .getfield 77, 3, 4, 9, 138) := by decide +kernel
theorem pa_54_5 : pz_at 54 5 = some (5, .iaload, 1, 0, 0, 0) := by decide +kernel
theorem pa_54_52 : pz_at 54 52 = some (52, .iload_n 3, 1, 0, 0, 0) := by decide +kernel
theorem pa_54_53 : pz_at 54 53 = some (53, .iaload, 1, 0, 0, 0) := by decide +kernel
theorem pa_54_54 : pz_at 54 54 = some (54, .if_icmp .ge 39, 3, 93, 0, 0) := by decide +kernel
theorem pa_54_57 : pz_at 54 57 = some (57, .iload_n 1, 1, 0, 0, 0) := by decide +kernel
theorem pa_54_58 : pz_at 54 58 = some (58, .iconst (-1), 1, 0, 0, 0) := by decide +kernel
theorem pa_54_59 : pz_at 54 59 = some (59, .if_icmp .eq 28, 3, 87, 0, 0) := by decide +kernel
theorem pa_54_6 : pz_at 54 6 = some (6, .istore_n 3, 1, 0, 0, 0) := by decide +kernel
theorem pa_54_62 : pz_at 54 62 = some (62, .aload_n 0, 1, 0, 0, 0) := by decide +kernel
theorem pa_54_63 : pz_at 54 63 = some (63, .getfield 31, 3, 3, 12, 343) := by decide +kernel
theorem pa_54_66 : pz_at 54 66 = some (66, .iload 6, 2, 0, 0, 0) := by decide +kernel
theorem pa_54_68 : pz_at 54 68 = some (68, .iaload, 1, 0, 0, 0) := by decide +kernel
theorem pa_54_69 : pz_at 54 69 = some (69, .iload_n 1, 1, 0, 0, 0) := by decide +kernel
theorem pa_54_7 : pz_at 54 7 = some (7, .iload_n 2, 1, 0, 0, 0) := by decide +kernel
theorem pa_54_70 : pz_at 54 70 = some (70, .if_icmp .ne 17, 3, 87, 0, 0) := by decide +kernel
theorem pa_54_73 : pz_at 54 73 = some (73, .iload 5, 2, 0, 0, 0) := by decide +kernel
theorem pa_54_75 : pz_at 54 75 = some (75, .aload 4, 2, 0, 0, 0) := by decide +kernel
theorem pa_54_77 : pz_at 54 77 = some (77, .iload_n 3, 1, 0, 0, 0) := by decide +kernel
theorem pa_54_78 : pz_at 54 78 = some (78, .iconst 4, 1, 0, 0, 0) := by decide +kernel
theorem pa_54_79 : pz_at 54 79 = some (79, .imul, 1, 0, 0, 0) := by decide +kernel
theorem pa_54_8 : pz_at 54 8 = some (8, .ifCond .eq 13, 3, 21, 0, 0) := by decide +kernel
theorem pa_54_80 : pz_at 54 80 = some (80, .iload 6, 2, 0, 0, 0) := by decide +kernel
theorem pa_54_82 : pz_at 54 82 = some (82, .iadd, 1, 0, 0, 0) := by decide +kernel
theorem pa_54_83 : pz_at 54 83 = some (83, .iaload, 1, 0, 0, 0) := by decide +kernel
theorem pa_54_84 : pz_at 54 84 = some (84, .ior, 1, 0, 0, 0) := by decide +kernel
theorem pa_54_85 : pz_at 54 85 = some (85, .istore 5, 2, 0, 0, 0) := by decide +kernel
theorem pa_54_87 : pz_at 54 87 = some (87, .iinc 6 1, 3, 0, 0, 0) := by decide +kernel
theorem pa_54_90 : pz_at 54 90 = some (90, .goto (-47), 3, 43, 0, 0) := by decide +kernel
theorem pa_54_93 : pz_at 54 93 = some (93, .iload 5, 2, 0, 0, 0) := by decide +kernel
theorem pa_54_95 : pz_at 54 95 = some (95, .ireturn, 1, 0, 0, 0) := by decide +kernel
theorem pr_54 : (pz_mi 54).2.2 = (some .int) := by decide +kernel
theorem pa_55_0 : pz_at 55 0 = some (0, .iload_n 1, 1, 0, 0, 0) := by decide +kernel
theorem pa_55_1 : pz_at 55 1 = some (1, .ifCond .lt 15, 3, 16, 0, 0) := by decide +kernel
theorem pa_55_12 : pz_at 55 12 = some (12, .iconst 1, 1, 0, 0, 0) := by decide +kernel
theorem pa_55_13 : pz_at 55 13 = some (13, .goto 4, 3, 17, 0, 0) := by decide +kernel
theorem pa_55_16 : pz_at 55 16 = some (16, .iconst 0, 1, 0, 0, 0) := by decide +kernel
theorem pa_55_17 : pz_at 55 17 = some (17, .ireturn, 1, 0, 0, 0) := by decide +kernel
theorem pa_55_4 : pz_at 55 4 = some (4, .iload_n 1, 1, 0, 0, 0) := by decide +kernel
theorem pa_55_5 : pz_at 55 5 = some (5, .aload_n 0, 1, 0, 0, 0) := by decide +kernel
theorem pa_55_6 : pz_at 55 6 = some (6, .getfield 55, 3, 4, 0, 116) := by decide +kernel
theorem pa_55_9 : pz_at 55 9 = some (9, .if_icmp .ge 7, 3, 16, 0, 0) := by decide +kernel
theorem pf_1_4_0 : pz_gf 1 4 0 = some none := by decide +kernel
theorem pr_55 : (pz_mi 55).2.2 = (some .boolean) := by decide +kernel
theorem pa_56_0 : pz_at 56 0 = some (0, .iload_n 1, 1, 0, 0, 0) := by decide +kernel
theorem pa_56_1 : pz_at 56 1 = some (1, .ifCond .lt 15, 3, 16, 0, 0) := by decide +kernel
theorem pa_56_12 : pz_at 56 12 = some (12, .iconst 1, 1, 0, 0, 0) := by decide +kernel
theorem pa_56_13 : pz_at 56 13 = some (13, .goto 4, 3, 17, 0, 0) := by decide +kernel
theorem pa_56_16 : pz_at 56 16 = some (16, .iconst 0, 1, 0, 0, 0) := by decide +kernel
theorem pa_56_17 : pz_at 56 17 = some (17, .ireturn, 1, 0, 0, 0) := by decide +kernel
theorem pa_56_4 : pz_at 56 4 = some (4, .iload_n 1, 1, 0, 0, 0) := by decide +kernel
theorem pa_56_5 : pz_at 56 5 = some (5, .aload_n 0, 1, 0, 0, 0) := by decide +kernel
theorem pa_56_6 : pz_at 56 6 = some (6, .getfield 59, 3, 4, 2, 121) := by decide +kernel
theorem pa_56_9 : pz_at 56 9 = some (9, .if_icmp .ge 7, 3, 16, 0, 0) := by decide +kernel
theorem pr_56 : (pz_mi 56).2.2 = (some .boolean) := by decide +kernel
theorem pa_57_0 : pz_at 57 0 = some (0, .iload_n 1, 1, 0, 0, 0) := by decide +kernel
theorem pa_57_1 : pz_at 57 1 = some (1, .ifCond .lt 15, 3, 16, 0, 0) := by decide +kernel
theorem pa_57_12 : pz_at 57 12 = some (12, .iconst 1, 1, 0, 0, 0) := by decide +kernel
theorem pa_57_13 : pz_at 57 13 = some (13, .goto 4, 3, 17, 0, 0) := by decide +kernel
theorem pa_57_16 : pz_at 57 16 = some (16, .iconst 0, 1, 0, 0, 0) := by decide +kernel
theorem pa_57_17 : pz_at 57 17 = some (17, .ireturn, 1, 0, 0, 0) := by decide +kernel
theorem pa_57_4 : pz_at 57 4 = some (4, .iload_n 1, 1, 0, 0, 0) := by decide +kernel
theorem pa_57_5 : pz_at 57 5 = some (5, .aload_n 0, 1, 0, 0, 0) := by decide +kernel
theorem pa_57_6 : pz_at 57 6 = some (6, .getfield 62, 3, 4, 3, 124) := by decide +kernel
theorem pa_57_9 : pz_at 57 9 = some (9, .if_icmp .ge 7, 3, 16, 0, 0) := by decide +kernel
theorem pr_57 : (pz_mi 57).2.2 = (some .boolean) := by decide +kernel
theorem pa_58_0 : pz_at 58 0 = some (0, .aload_n 0, 1, 0, 0, 0) := by decide +kernel
theorem pa_58_1 : pz_at 58 1 = some (1, .getfield 9, 3, 4, 4, 127) := by decide +kernel
theorem pa_58_10 : pz_at 58 10 = some (10, .iconst 1, 1, 0, 0, 0) := by decide +kernel
theorem pa_58_11 : pz_at 58 11 = some (11, .if_icmp .ne 7, 3, 18, 0, 0) := by decide +kernel
theorem pa_58_14 : pz_at 58 14 = some (14, .iconst 1, 1, 0, 0, 0) := by decide +kernel
theorem pa_58_15 : pz_at 58 15 = some (15, .goto 4, 3, 19, 0, 0) := by decide +kernel
theorem pa_58_18 : pz_at 58 18 = some (18, .iconst 0, 1, 0, 0, 0) := by decide +kernel
theorem pa_58_19 : pz_at 58 19 = some (19, .ireturn, 1, 0, 0, 0) := by decide +kernel
theorem pa_58_4 : pz_at 58 4 = some (4, .iload_n 1, 1, 0, 0, 0) := by decide +kernel
theorem pa_58_5 : pz_at 58 5 = some (5, .iaload, 1, 0, 0, 0) := by decide +kernel
theorem pa_58_6 : pz_at 58 6 = some (6, .iload_n 2, 1, 0, 0, 0) := by decide +kernel
theorem pa_58_7 : pz_at 58 7 = some (7, .ishr, 1, 0, 0, 0) := by decide +kernel
theorem pa_58_8 : pz_at 58 8 = some (8, .iconst 1, 1, 0, 0, 0) := by decide +kernel
theorem pa_58_9 : pz_at 58 9 = some (9, .iand, 1, 0, 0, 0) := by decide +kernel
theorem pf_1_4_4 : pz_gf 1 4 4 = some (some 2) := by decide +kernel
theorem pg_2 : pz_ga 2 = some (.int, 8) := by decide +kernel
theorem pr_58 : (pz_mi 58).2.2 = (some .boolean) := by decide +kernel
theorem pa_59_0 : pz_at 59 0 = some (0, .iconst 1, 1, 0, 0, 0) := by decide +kernel
theorem pa_59_1 : pz_at 59 1 = some (1, .aload_n 0, 1, 0, 0, 0) := by decide +kernel
theorem pa_59_11 : pz_at 59 11 = some (11, .aload_n 0, 1, 0, 0, 0) := by decide +kernel
theorem pa_59_12 : pz_at 59 12 = some (12, .getfield 55, 3, 4, 0, 116) := by decide +kernel
theorem pa_59_15 : pz_at 59 15 = some (15, .iload_n 1, 1, 0, 0, 0) := by decide +kernel
theorem pa_59_16 : pz_at 59 16 = some (16, .iconst (-1), 1, 0, 0, 0) := by decide +kernel
theorem pa_59_17 : pz_at 59 17 = some (17, .if_icmp .ne 7, 3, 24, 0, 0) := by decide +kernel
theorem pa_59_2 : pz_at 59 2 = some (2, .getfield 55, 3, 4, 0, 116) := by decide +kernel
theorem pa_59_20 : pz_at 59 20 = some (20, .iload_n 2, 1, 0, 0, 0) := by decide +kernel
theorem pa_59_21 : pz_at 59 21 = some (21, .goto 11, 3, 32, 0, 0) := by decide +kernel
theorem pa_59_24 : pz_at 59 24 = some (24, .iload_n 2, 1, 0, 0, 0) := by decide +kernel
theorem pa_59_25 : pz_at 59 25 = some (25, .aload_n 0, 1, 0, 0, 0) := by decide +kernel
theorem pa_59_26 : pz_at 59 26 = some (26, .getfield 9, 3, 4, 4, 127) := by decide +kernel
theorem pa_59_29 : pz_at 59 29 = some (29, .iload_n 1, 1, 0, 0, 0) := by decide +kernel
theorem pa_59_30 : pz_at 59 30 = some (30, .iaload, 1, 0, 0, 0) := by decide +kernel
theorem pa_59_31 : pz_at 59 31 = some (31, .ior, 1, 0, 0, 0) := by decide +kernel
theorem pa_59_32 : pz_at 59 32 = some (32, .iastore, 1, 0, 0, 0) := by decide +kernel
theorem pa_59_33 : pz_at 59 33 = some (33, .aload_n 0, 1, 0, 0, 0) := by decide +kernel
theorem pa_59_34 : pz_at 59 34 = some (34, .getfield 15, 3, 4, 5, 128) := by decide +kernel
theorem pa_59_37 : pz_at 59 37 = some (37, .aload_n 0, 1, 0, 0, 0) := by decide +kernel
theorem pa_59_38 : pz_at 59 38 = some (38, .getfield 55, 3, 4, 0, 116) := by decide +kernel
theorem pa_59_41 : pz_at 59 41 = some (41, .iload_n 1, 1, 0, 0, 0) := by decide +kernel
theorem pa_59_42 : pz_at 59 42 = some (42, .iconst (-1), 1, 0, 0, 0) := by decide +kernel
theorem pa_59_43 : pz_at 59 43 = some (43, .if_icmp .ne 7, 3, 50, 0, 0) := by decide +kernel
theorem pa_59_46 : pz_at 59 46 = some (46, .iconst 0, 1, 0, 0, 0) := by decide +kernel
theorem pa_59_47 : pz_at 59 47 = some (47, .goto 9, 3, 56, 0, 0) := by decide +kernel
theorem pa_59_5 : pz_at 59 5 = some (5, .ishl, 1, 0, 0, 0) := by decide +kernel
theorem pa_59_50 : pz_at 59 50 = some (50, .aload_n 0, 1, 0, 0, 0) := by decide +kernel
theorem pa_59_51 : pz_at 59 51 = some (51, .getfield 15, 3, 4, 5, 128) := by decide +kernel
theorem pa_59_54 : pz_at 59 54 = some (54, .iload_n 1, 1, 0, 0, 0) := by decide +kernel
theorem pa_59_55 : pz_at 59 55 = some (55, .iaload, 1, 0, 0, 0) := by decide +kernel
theorem pa_59_56 : pz_at 59 56 = some (56, .iastore, 1, 0, 0, 0) := by decide +kernel
theorem pa_59_57 : pz_at 59 57 = some (57, .aload_n 0, 1, 0, 0, 0) := by decide +kernel
theorem pa_59_58 : pz_at 59 58 = some (58, .dup, 1, 0, 0, 0) := by decide +kernel
theorem pa_59_59 : pz_at 59 59 = some (59, .getfield 55, 3, 4, 0, 116) := by decide +kernel
theorem pa_59_6 : pz_at 59 6 = some (6, .istore_n 2, 1, 0, 0, 0) := by decide +kernel
theorem pa_59_62 : pz_at 59 62 = some (62, .dup_x1, 1, 0, 0, 0) := by decide +kernel
theorem pa_59_63 : pz_at 59 63 = some (63, .iconst 1, 1, 0, 0, 0) := by decide +kernel
theorem pa_59_64 : pz_at 59 64 = some (64, .iadd, 1, 0, 0, 0) := by decide +kernel
theorem pa_59_65 : pz_at 59 65 = some (65, .putfield 55, 3, 4, 0, 116) := by decide +kernel
theorem pa_59_68 : pz_at 59 68 = some (68, .ireturn, 1, 0, 0, 0) := by decide +kernel
theorem pa_59_7 : pz_at 59 7 = some (7, .aload_n 0, 1, 0, 0, 0) := by decide +kernel
theorem pa_59_8 : pz_at 59 8 = some (8, .getfield 9, 3, 4, 4, 127) := by decide +kernel
theorem pf_1_4_5 : pz_gf 1 4 5 = some (some 3) := by decide +kernel
theorem pg_3 : pz_ga 3 = some (.int, 8) := by decide +kernel
theorem pr_59 : (pz_mi 59).2.2 = (some .int) := by decide +kernel
theorem pa_60_0 : pz_at 60 0 = some (0, .aload_n 0, 1, 0, 0, 0) := by decide +kernel
theorem pa_60_1 : pz_at 60 1 = some (1, .getfield 18, 3, 4, 6, 130) := by decide +kernel
theorem pa_60_10 : pz_at 60 10 = some (10, .iconst 0, 1, 0, 0, 0) := by decide +kernel
theorem pa_60_11 : pz_at 60 11 = some (11, .istore_n 3, 1, 0, 0, 0) := by decide +kernel
theorem pa_60_12 : pz_at 60 12 = some (12, .iload_n 3, 1, 0, 0, 0) := by decide +kernel
theorem pa_60_13 : pz_at 60 13 = some (13, .aload_n 0, 1, 0, 0, 0) := by decide +kernel
theorem pa_60_14 : pz_at 60 14 = some (14, .getfield 55, 3, 4, 0, 116) := by decide +kernel
theorem pa_60_17 : pz_at 60 17 = some (17, .if_icmp .ge 33, 3, 50, 0, 0) := by decide +kernel
theorem pa_60_20 : pz_at 60 20 = some (20, .aload_n 0, 1, 0, 0, 0) := by decide +kernel
theorem pa_60_21 : pz_at 60 21 = some (21, .iload_n 3, 1, 0, 0, 0) := by decide +kernel
theorem pa_60_22 : pz_at 60 22 = some (22, .iload_n 1, 1, 0, 0, 0) := by decide +kernel
theorem pa_60_23 : pz_at 60 23 = some (23, .invokevirtual 68, 3, 58, 2, 482) := by decide +kernel
theorem pa_60_26 : pz_at 60 26 = some (26, .ifCond .eq 18, 3, 44, 0, 0) := by decide +kernel
theorem pa_60_29 : pz_at 60 29 = some (29, .aload_n 0, 1, 0, 0, 0) := by decide +kernel
theorem pa_60_30 : pz_at 60 30 = some (30, .getfield 15, 3, 4, 5, 128) := by decide +kernel
theorem pa_60_33 : pz_at 60 33 = some (33, .iload_n 3, 1, 0, 0, 0) := by decide +kernel
theorem pa_60_34 : pz_at 60 34 = some (34, .dup2, 1, 0, 0, 0) := by decide +kernel
theorem pa_60_35 : pz_at 60 35 = some (35, .iaload, 1, 0, 0, 0) := by decide +kernel
theorem pa_60_36 : pz_at 60 36 = some (36, .iconst 1, 1, 0, 0, 0) := by decide +kernel
theorem pa_60_37 : pz_at 60 37 = some (37, .aload_n 0, 1, 0, 0, 0) := by decide +kernel
theorem pa_60_38 : pz_at 60 38 = some (38, .getfield 65, 3, 4, 1, 119) := by decide +kernel
theorem pa_60_4 : pz_at 60 4 = some (4, .aload_n 0, 1, 0, 0, 0) := by decide +kernel
theorem pa_60_41 : pz_at 60 41 = some (41, .ishl, 1, 0, 0, 0) := by decide +kernel
theorem pa_60_42 : pz_at 60 42 = some (42, .ior, 1, 0, 0, 0) := by decide +kernel
theorem pa_60_43 : pz_at 60 43 = some (43, .iastore, 1, 0, 0, 0) := by decide +kernel
theorem pa_60_44 : pz_at 60 44 = some (44, .iinc 3 1, 3, 0, 0, 0) := by decide +kernel
theorem pa_60_47 : pz_at 60 47 = some (47, .goto (-35), 3, 12, 0, 0) := by decide +kernel
theorem pa_60_5 : pz_at 60 5 = some (5, .getfield 65, 3, 4, 1, 119) := by decide +kernel
theorem pa_60_50 : pz_at 60 50 = some (50, .aload_n 0, 1, 0, 0, 0) := by decide +kernel
theorem pa_60_51 : pz_at 60 51 = some (51, .dup, 1, 0, 0, 0) := by decide +kernel
theorem pa_60_52 : pz_at 60 52 = some (52, .getfield 65, 3, 4, 1, 119) := by decide +kernel
theorem pa_60_55 : pz_at 60 55 = some (55, .dup_x1, 1, 0, 0, 0) := by decide +kernel
theorem pa_60_56 : pz_at 60 56 = some (56, .iconst 1, 1, 0, 0, 0) := by decide +kernel
theorem pa_60_57 : pz_at 60 57 = some (57, .iadd, 1, 0, 0, 0) := by decide +kernel
theorem pa_60_58 : pz_at 60 58 = some (58, .putfield 65, 3, 4, 1, 119) := by decide +kernel
theorem pa_60_61 : pz_at 60 61 = some (61, .ireturn, 1, 0, 0, 0) := by decide +kernel
theorem pa_60_8 : pz_at 60 8 = some (8, .iload_n 2, 1, 0, 0, 0) := by decide +kernel
theorem pa_60_9 : pz_at 60 9 = some (9, .bastore, 1, 0, 0, 0) := by decide +kernel
theorem pf_1_4_1 : pz_gf 1 4 1 = some none := by decide +kernel
theorem pf_1_4_6 : pz_gf 1 4 6 = some (some 4) := by decide +kernel
theorem pg_4 : pz_ga 4 = some (.boolean, 16) := by decide +kernel
theorem pm_58 : pz_mi 58 = (4, 3, (some .boolean)) := by decide +kernel
theorem pr_60 : (pz_mi 60).2.2 = (some .int) := by decide +kernel
theorem pa_61_0 : pz_at 61 0 = some (0, .aload_n 0, 1, 0, 0, 0) := by decide +kernel
theorem pa_61_1 : pz_at 61 1 = some (1, .getfield 22, 3, 4, 7, 132) := by decide +kernel
theorem pa_61_10 : pz_at 61 10 = some (10, .aload_n 0, 1, 0, 0, 0) := by decide +kernel
theorem pa_61_11 : pz_at 61 11 = some (11, .dup, 1, 0, 0, 0) := by decide +kernel
theorem pa_61_12 : pz_at 61 12 = some (12, .getfield 59, 3, 4, 2, 121) := by decide +kernel
theorem pa_61_15 : pz_at 61 15 = some (15, .dup_x1, 1, 0, 0, 0) := by decide +kernel
theorem pa_61_16 : pz_at 61 16 = some (16, .iconst 1, 1, 0, 0, 0) := by decide +kernel
theorem pa_61_17 : pz_at 61 17 = some (17, .iadd, 1, 0, 0, 0) := by decide +kernel
theorem pa_61_18 : pz_at 61 18 = some (18, .putfield 59, 3, 4, 2, 121) := by decide +kernel
theorem pa_61_21 : pz_at 61 21 = some (21, .ireturn, 1, 0, 0, 0) := by decide +kernel
theorem pa_61_4 : pz_at 61 4 = some (4, .aload_n 0, 1, 0, 0, 0) := by decide +kernel
theorem pa_61_5 : pz_at 61 5 = some (5, .getfield 59, 3, 4, 2, 121) := by decide +kernel
theorem pa_61_8 : pz_at 61 8 = some (8, .iload_n 1, 1, 0, 0, 0) := by decide +kernel
theorem pa_61_9 : pz_at 61 9 = some (9, .bastore, 1, 0, 0, 0) := by decide +kernel
theorem pr_61 : (pz_mi 61).2.2 = (some .int) := by decide +kernel
theorem pa_62_0 : pz_at 62 0 = some (0, .aload_n 0, 1, 0, 0, 0) := by decide +kernel
theorem pa_62_1 : pz_at 62 1 = some (1, .getfield 25, 3, 4, 8, 135) := by decide +kernel
theorem pa_62_10 : pz_at 62 10 = some (10, .aload_n 0, 1, 0, 0, 0) := by decide +kernel
theorem pa_62_11 : pz_at 62 11 = some (11, .getfield 28, 3, 4, 9, 137) := by decide +kernel
theorem pa_62_14 : pz_at 62 14 = some (14, .aload_n 0, 1, 0, 0, 0) := by decide +kernel
theorem pa_62_15 : pz_at 62 15 = some (15, .getfield 62, 3, 4, 3, 124) := by decide +kernel
theorem pa_62_18 : pz_at 62 18 = some (18, .iload_n 2, 1, 0, 0, 0) := by decide +kernel
theorem pa_62_19 : pz_at 62 19 = some (19, .iastore, 1, 0, 0, 0) := by decide +kernel
theorem pa_62_20 : pz_at 62 20 = some (20, .aload_n 0, 1, 0, 0, 0) := by decide +kernel
theorem pa_62_21 : pz_at 62 21 = some (21, .getfield 31, 3, 4, 10, 140) := by decide +kernel
theorem pa_62_24 : pz_at 62 24 = some (24, .aload_n 0, 1, 0, 0, 0) := by decide +kernel
theorem pa_62_25 : pz_at 62 25 = some (25, .getfield 62, 3, 4, 3, 124) := by decide +kernel
theorem pa_62_28 : pz_at 62 28 = some (28, .iload_n 3, 1, 0, 0, 0) := by decide +kernel
theorem pa_62_29 : pz_at 62 29 = some (29, .iastore, 1, 0, 0, 0) := by decide +kernel
theorem pa_62_30 : pz_at 62 30 = some (30, .aload_n 0, 1, 0, 0, 0) := by decide +kernel
theorem pa_62_31 : pz_at 62 31 = some (31, .dup, 1, 0, 0, 0) := by decide +kernel
theorem pa_62_32 : pz_at 62 32 = some (32, .getfield 62, 3, 4, 3, 124) := by decide +kernel
theorem pa_62_35 : pz_at 62 35 = some (35, .dup_x1, 1, 0, 0, 0) := by decide +kernel
theorem pa_62_36 : pz_at 62 36 = some (36, .iconst 1, 1, 0, 0, 0) := by decide +kernel
theorem pa_62_37 : pz_at 62 37 = some (37, .iadd, 1, 0, 0, 0) := by decide +kernel
theorem pa_62_38 : pz_at 62 38 = some (38, .putfield 62, 3, 4, 3, 124) := by decide +kernel
theorem pa_62_4 : pz_at 62 4 = some (4, .aload_n 0, 1, 0, 0, 0) := by decide +kernel
theorem pa_62_41 : pz_at 62 41 = some (41, .ireturn, 1, 0, 0, 0) := by decide +kernel
theorem pa_62_5 : pz_at 62 5 = some (5, .getfield 62, 3, 4, 3, 124) := by decide +kernel
theorem pa_62_8 : pz_at 62 8 = some (8, .iload_n 1, 1, 0, 0, 0) := by decide +kernel
theorem pa_62_9 : pz_at 62 9 = some (9, .iastore, 1, 0, 0, 0) := by decide +kernel
theorem pr_62 : (pz_mi 62).2.2 = (some .int) := by decide +kernel
theorem pa_63_0 : pz_at 63 0 = some (0, .iload_n 1, 1, 0, 0, 0) := by decide +kernel
theorem pa_63_1 : pz_at 63 1 = some (1, .bipush 24, 2, 0, 0, 0) := by decide +kernel
theorem pa_63_10 : pz_at 63 10 = some (10, .iadd, 1, 0, 0, 0) := by decide +kernel
theorem pa_63_11 : pz_at 63 11 = some (11, .istore 6, 2, 0, 0, 0) := by decide +kernel
theorem pa_63_13 : pz_at 63 13 = some (13, .aload_n 0, 1, 0, 0, 0) := by decide +kernel
theorem pa_63_14 : pz_at 63 14 = some (14, .getfield 37, 3, 4, 12, 148) := by decide +kernel
theorem pa_63_17 : pz_at 63 17 = some (17, .iload 6, 2, 0, 0, 0) := by decide +kernel
theorem pa_63_19 : pz_at 63 19 = some (19, .iload_n 2, 1, 0, 0, 0) := by decide +kernel
theorem pa_63_20 : pz_at 63 20 = some (20, .iastore, 1, 0, 0, 0) := by decide +kernel
theorem pa_63_21 : pz_at 63 21 = some (21, .aload_n 0, 1, 0, 0, 0) := by decide +kernel
theorem pa_63_22 : pz_at 63 22 = some (22, .getfield 40, 3, 4, 13, 151) := by decide +kernel
theorem pa_63_25 : pz_at 63 25 = some (25, .iload 6, 2, 0, 0, 0) := by decide +kernel
theorem pa_63_27 : pz_at 63 27 = some (27, .iload_n 3, 1, 0, 0, 0) := by decide +kernel
theorem pa_63_28 : pz_at 63 28 = some (28, .iastore, 1, 0, 0, 0) := by decide +kernel
theorem pa_63_29 : pz_at 63 29 = some (29, .aload_n 0, 1, 0, 0, 0) := by decide +kernel
theorem pa_63_3 : pz_at 63 3 = some (3, .imul, 1, 0, 0, 0) := by decide +kernel
theorem pa_63_30 : pz_at 63 30 = some (30, .getfield 43, 3, 4, 14, 154) := by decide +kernel
theorem pa_63_33 : pz_at 63 33 = some (33, .iload 6, 2, 0, 0, 0) := by decide +kernel
theorem pa_63_35 : pz_at 63 35 = some (35, .iload 4, 2, 0, 0, 0) := by decide +kernel
theorem pa_63_37 : pz_at 63 37 = some (37, .iastore, 1, 0, 0, 0) := by decide +kernel
theorem pa_63_38 : pz_at 63 38 = some (38, .aload_n 0, 1, 0, 0, 0) := by decide +kernel
theorem pa_63_39 : pz_at 63 39 = some (39, .getfield 46, 3, 4, 15, 157) := by decide +kernel
theorem pa_63_4 : pz_at 63 4 = some (4, .aload_n 0, 1, 0, 0, 0) := by decide +kernel
theorem pa_63_42 : pz_at 63 42 = some (42, .iload 6, 2, 0, 0, 0) := by decide +kernel
theorem pa_63_44 : pz_at 63 44 = some (44, .iload 5, 2, 0, 0, 0) := by decide +kernel
theorem pa_63_46 : pz_at 63 46 = some (46, .iastore, 1, 0, 0, 0) := by decide +kernel
theorem pa_63_47 : pz_at 63 47 = some (47, .aload_n 0, 1, 0, 0, 0) := by decide +kernel
theorem pa_63_48 : pz_at 63 48 = some (48, .getfield 34, 3, 4, 11, 144) := by decide +kernel
theorem pa_63_5 : pz_at 63 5 = some (5, .getfield 34, 3, 4, 11, 144) := by decide +kernel
theorem pa_63_51 : pz_at 63 51 = some (51, .iload_n 1, 1, 0, 0, 0) := by decide +kernel
theorem pa_63_52 : pz_at 63 52 = some (52, .dup2, 1, 0, 0, 0) := by decide +kernel
theorem pa_63_53 : pz_at 63 53 = some (53, .iaload, 1, 0, 0, 0) := by decide +kernel
theorem pa_63_54 : pz_at 63 54 = some (54, .dup_x2, 1, 0, 0, 0) := by decide +kernel
theorem pa_63_55 : pz_at 63 55 = some (55, .iconst 1, 1, 0, 0, 0) := by decide +kernel
theorem pa_63_56 : pz_at 63 56 = some (56, .iadd, 1, 0, 0, 0) := by decide +kernel
theorem pa_63_57 : pz_at 63 57 = some (57, .iastore, 1, 0, 0, 0) := by decide +kernel
theorem pa_63_58 : pz_at 63 58 = some (58, .ireturn, 1, 0, 0, 0) := by decide +kernel
theorem pa_63_8 : pz_at 63 8 = some (8, .iload_n 1, 1, 0, 0, 0) := by decide +kernel
theorem pa_63_9 : pz_at 63 9 = some (9, .iaload, 1, 0, 0, 0) := by decide +kernel
theorem pr_63 : (pz_mi 63).2.2 = (some .int) := by decide +kernel
theorem pa_64_0 : pz_at 64 0 = some (0, .iload_n 1, 1, 0, 0, 0) := by decide +kernel
theorem pa_64_1 : pz_at 64 1 = some (1, .iconst 4, 1, 0, 0, 0) := by decide +kernel
theorem pa_64_10 : pz_at 64 10 = some (10, .iconst 4, 1, 0, 0, 0) := by decide +kernel
theorem pa_64_11 : pz_at 64 11 = some (11, .imul, 1, 0, 0, 0) := by decide +kernel
theorem pa_64_12 : pz_at 64 12 = some (12, .istore 6, 2, 0, 0, 0) := by decide +kernel
theorem pa_64_14 : pz_at 64 14 = some (14, .aload_n 0, 1, 0, 0, 0) := by decide +kernel
theorem pa_64_15 : pz_at 64 15 = some (15, .getfield 52, 3, 4, 17, 162) := by decide +kernel
theorem pa_64_18 : pz_at 64 18 = some (18, .iload 6, 2, 0, 0, 0) := by decide +kernel
theorem pa_64_2 : pz_at 64 2 = some (2, .imul, 1, 0, 0, 0) := by decide +kernel
theorem pa_64_20 : pz_at 64 20 = some (20, .iload_n 2, 1, 0, 0, 0) := by decide +kernel
theorem pa_64_21 : pz_at 64 21 = some (21, .iastore, 1, 0, 0, 0) := by decide +kernel
theorem pa_64_22 : pz_at 64 22 = some (22, .aload_n 0, 1, 0, 0, 0) := by decide +kernel
theorem pa_64_23 : pz_at 64 23 = some (23, .getfield 52, 3, 4, 17, 162) := by decide +kernel
theorem pa_64_26 : pz_at 64 26 = some (26, .iload 6, 2, 0, 0, 0) := by decide +kernel
theorem pa_64_28 : pz_at 64 28 = some (28, .iconst 1, 1, 0, 0, 0) := by decide +kernel
theorem pa_64_29 : pz_at 64 29 = some (29, .iadd, 1, 0, 0, 0) := by decide +kernel
theorem pa_64_3 : pz_at 64 3 = some (3, .aload_n 0, 1, 0, 0, 0) := by decide +kernel
theorem pa_64_30 : pz_at 64 30 = some (30, .iload_n 3, 1, 0, 0, 0) := by decide +kernel
theorem pa_64_31 : pz_at 64 31 = some (31, .iastore, 1, 0, 0, 0) := by decide +kernel
theorem pa_64_32 : pz_at 64 32 = some (32, .aload_n 0, 1, 0, 0, 0) := by decide +kernel
theorem pa_64_33 : pz_at 64 33 = some (33, .getfield 52, 3, 4, 17, 162) := by decide +kernel
theorem pa_64_36 : pz_at 64 36 = some (36, .iload 6, 2, 0, 0, 0) := by decide +kernel
theorem pa_64_38 : pz_at 64 38 = some (38, .iconst 2, 1, 0, 0, 0) := by decide +kernel
theorem pa_64_39 : pz_at 64 39 = some (39, .iadd, 1, 0, 0, 0) := by decide +kernel
theorem pa_64_4 : pz_at 64 4 = some (4, .getfield 49, 3, 4, 16, 160) := by decide +kernel
theorem pa_64_40 : pz_at 64 40 = some (40, .iload 4, 2, 0, 0, 0) := by decide +kernel
theorem pa_64_42 : pz_at 64 42 = some (42, .iastore, 1, 0, 0, 0) := by decide +kernel
theorem pa_64_43 : pz_at 64 43 = some (43, .aload_n 0, 1, 0, 0, 0) := by decide +kernel
theorem pa_64_44 : pz_at 64 44 = some (44, .getfield 52, 3, 4, 17, 162) := by decide +kernel
theorem pa_64_47 : pz_at 64 47 = some (47, .iload 6, 2, 0, 0, 0) := by decide +kernel
theorem pa_64_49 : pz_at 64 49 = some (49, .iconst 3, 1, 0, 0, 0) := by decide +kernel
theorem pa_64_50 : pz_at 64 50 = some (50, .iadd, 1, 0, 0, 0) := by decide +kernel
theorem pa_64_51 : pz_at 64 51 = some (51, .iload 5, 2, 0, 0, 0) := by decide +kernel
theorem pa_64_53 : pz_at 64 53 = some (53, .iastore, 1, 0, 0, 0) := by decide +kernel
theorem pa_64_54 : pz_at 64 54 = some (54, .aload_n 0, 1, 0, 0, 0) := by decide +kernel
theorem pa_64_55 : pz_at 64 55 = some (55, .getfield 49, 3, 4, 16, 160) := by decide +kernel
theorem pa_64_58 : pz_at 64 58 = some (58, .iload_n 1, 1, 0, 0, 0) := by decide +kernel
theorem pa_64_59 : pz_at 64 59 = some (59, .dup2, 1, 0, 0, 0) := by decide +kernel
theorem pa_64_60 : pz_at 64 60 = some (60, .iaload, 1, 0, 0, 0) := by decide +kernel
theorem pa_64_61 : pz_at 64 61 = some (61, .dup_x2, 1, 0, 0, 0) := by decide +kernel
theorem pa_64_62 : pz_at 64 62 = some (62, .iconst 1, 1, 0, 0, 0) := by decide +kernel
theorem pa_64_63 : pz_at 64 63 = some (63, .iadd, 1, 0, 0, 0) := by decide +kernel
theorem pa_64_64 : pz_at 64 64 = some (64, .iastore, 1, 0, 0, 0) := by decide +kernel
theorem pa_64_65 : pz_at 64 65 = some (65, .ireturn, 1, 0, 0, 0) := by decide +kernel
theorem pa_64_7 : pz_at 64 7 = some (7, .iload_n 1, 1, 0, 0, 0) := by decide +kernel
theorem pa_64_8 : pz_at 64 8 = some (8, .iaload, 1, 0, 0, 0) := by decide +kernel
theorem pa_64_9 : pz_at 64 9 = some (9, .iadd, 1, 0, 0, 0) := by decide +kernel
theorem pf_1_4_16 : pz_gf 1 4 16 = some (some 14) := by decide +kernel
theorem pf_1_4_17 : pz_gf 1 4 17 = some (some 15) := by decide +kernel
theorem pg_14 : pz_ga 14 = some (.int, 10) := by decide +kernel
theorem pg_15 : pz_ga 15 = some (.int, 160) := by decide +kernel
theorem pr_64 : (pz_mi 64).2.2 = (some .int) := by decide +kernel
theorem pa_65_0 : pz_at 65 0 = some (0, .iconst 0, 1, 0, 0, 0) := by decide +kernel
theorem pa_65_1 : pz_at 65 1 = some (1, .istore 4, 2, 0, 0, 0) := by decide +kernel
theorem pa_65_10 : pz_at 65 10 = some (10, .iaload, 1, 0, 0, 0) := by decide +kernel
theorem pa_65_101 : pz_at 65 101 = some (101, .iconst (-1), 1, 0, 0, 0) := by decide +kernel
theorem pa_65_102 : pz_at 65 102 = some (102, .ireturn, 1, 0, 0, 0) := by decide +kernel
theorem pa_65_11 : pz_at 65 11 = some (11, .if_icmp .ge 90, 3, 101, 0, 0) := by decide +kernel
theorem pa_65_14 : pz_at 65 14 = some (14, .iload_n 1, 1, 0, 0, 0) := by decide +kernel
theorem pa_65_15 : pz_at 65 15 = some (15, .iconst 4, 1, 0, 0, 0) := by decide +kernel
theorem pa_65_16 : pz_at 65 16 = some (16, .imul, 1, 0, 0, 0) := by decide +kernel
theorem pa_65_17 : pz_at 65 17 = some (17, .iload 4, 2, 0, 0, 0) := by decide +kernel
theorem pa_65_19 : pz_at 65 19 = some (19, .iadd, 1, 0, 0, 0) := by decide +kernel
theorem pa_65_20 : pz_at 65 20 = some (20, .iconst 4, 1, 0, 0, 0) := by decide +kernel
theorem pa_65_21 : pz_at 65 21 = some (21, .imul, 1, 0, 0, 0) := by decide +kernel
theorem pa_65_22 : pz_at 65 22 = some (22, .istore 5, 2, 0, 0, 0) := by decide +kernel
theorem pa_65_24 : pz_at 65 24 = some (24, .aload_n 0, 1, 0, 0, 0) := by decide +kernel
theorem pa_65_25 : pz_at 65 25 = some (25, .getfield 52, 3, 4, 17, 162) := by decide +kernel
theorem pa_65_28 : pz_at 65 28 = some (28, .iload 5, 2, 0, 0, 0) := by decide +kernel
theorem pa_65_3 : pz_at 65 3 = some (3, .iload 4, 2, 0, 0, 0) := by decide +kernel
theorem pa_65_30 : pz_at 65 30 = some (30, .iaload, 1, 0, 0, 0) := by decide +kernel
theorem pa_65_31 : pz_at 65 31 = some (31, .iload_n 2, 1, 0, 0, 0) := by decide +kernel
theorem pa_65_32 : pz_at 65 32 = some (32, .if_icmp .gt 20, 3, 52, 0, 0) := by decide +kernel
theorem pa_65_35 : pz_at 65 35 = some (35, .iload_n 2, 1, 0, 0, 0) := by decide +kernel
theorem pa_65_36 : pz_at 65 36 = some (36, .aload_n 0, 1, 0, 0, 0) := by decide +kernel
theorem pa_65_37 : pz_at 65 37 = some (37, .getfield 52, 3, 4, 17, 162) := by decide +kernel
theorem pa_65_40 : pz_at 65 40 = some (40, .iload 5, 2, 0, 0, 0) := by decide +kernel
theorem pa_65_42 : pz_at 65 42 = some (42, .iconst 1, 1, 0, 0, 0) := by decide +kernel
theorem pa_65_43 : pz_at 65 43 = some (43, .iadd, 1, 0, 0, 0) := by decide +kernel
theorem pa_65_44 : pz_at 65 44 = some (44, .iaload, 1, 0, 0, 0) := by decide +kernel
theorem pa_65_45 : pz_at 65 45 = some (45, .if_icmp .ge 7, 3, 52, 0, 0) := by decide +kernel
theorem pa_65_48 : pz_at 65 48 = some (48, .iconst 1, 1, 0, 0, 0) := by decide +kernel
theorem pa_65_49 : pz_at 65 49 = some (49, .goto 4, 3, 53, 0, 0) := by decide +kernel
theorem pa_65_5 : pz_at 65 5 = some (5, .aload_n 0, 1, 0, 0, 0) := by decide +kernel
theorem pa_65_52 : pz_at 65 52 = some (52, .iconst 0, 1, 0, 0, 0) := by decide +kernel
theorem pa_65_53 : pz_at 65 53 = some (53, .istore 6, 2, 0, 0, 0) := by decide +kernel
theorem pa_65_55 : pz_at 65 55 = some (55, .iload 6, 2, 0, 0, 0) := by decide +kernel
theorem pa_65_57 : pz_at 65 57 = some (57, .ifCond .eq 38, 3, 95, 0, 0) := by decide +kernel
theorem pa_65_6 : pz_at 65 6 = some (6, .getfield 49, 3, 4, 16, 160) := by decide +kernel
theorem pa_65_60 : pz_at 65 60 = some (60, .aload_n 0, 1, 0, 0, 0) := by decide +kernel
theorem pa_65_61 : pz_at 65 61 = some (61, .getfield 52, 3, 4, 17, 162) := by decide +kernel
theorem pa_65_64 : pz_at 65 64 = some (64, .iload 5, 2, 0, 0, 0) := by decide +kernel
theorem pa_65_66 : pz_at 65 66 = some (66, .iconst 2, 1, 0, 0, 0) := by decide +kernel
theorem pa_65_67 : pz_at 65 67 = some (67, .iadd, 1, 0, 0, 0) := by decide +kernel
theorem pa_65_68 : pz_at 65 68 = some (68, .iaload, 1, 0, 0, 0) := by decide +kernel
theorem pa_65_69 : pz_at 65 69 = some (69, .ifCond .eq 16, 3, 85, 0, 0) := by decide +kernel
theorem pa_65_72 : pz_at 65 72 = some (72, .aload_n 0, 1, 0, 0, 0) := by decide +kernel
theorem pa_65_73 : pz_at 65 73 = some (73, .getfield 52, 3, 4, 17, 162) := by decide +kernel
theorem pa_65_76 : pz_at 65 76 = some (76, .iload 5, 2, 0, 0, 0) := by decide +kernel
theorem pa_65_78 : pz_at 65 78 = some (78, .iconst 2, 1, 0, 0, 0) := by decide +kernel
theorem pa_65_79 : pz_at 65 79 = some (79, .iadd, 1, 0, 0, 0) := by decide +kernel
theorem pa_65_80 : pz_at 65 80 = some (80, .iaload, 1, 0, 0, 0) := by decide +kernel
theorem pa_65_81 : pz_at 65 81 = some (81, .iload_n 3, 1, 0, 0, 0) := by decide +kernel
theorem pa_65_82 : pz_at 65 82 = some (82, .if_icmp .ne 13, 3, 95, 0, 0) := by decide +kernel
theorem pa_65_85 : pz_at 65 85 = some (85, .aload_n 0, 1, 0, 0, 0) := by decide +kernel
theorem pa_65_86 : pz_at 65 86 = some (86, .getfield 52, 3, 4, 17, 162) := by decide +kernel
theorem pa_65_89 : pz_at 65 89 = some (89, .iload 5, 2, 0, 0, 0) := by decide +kernel
theorem pa_65_9 : pz_at 65 9 = some (9, .iload_n 1, 1, 0, 0, 0) := by decide +kernel
theorem pa_65_91 : pz_at 65 91 = some (91, .iconst 3, 1, 0, 0, 0) := by decide +kernel
theorem pa_65_92 : pz_at 65 92 = some (92, .iadd, 1, 0, 0, 0) := by decide +kernel
theorem pa_65_93 : pz_at 65 93 = some (93, .iaload, 1, 0, 0, 0) := by decide +kernel
theorem pa_65_94 : pz_at 65 94 = some (94, .ireturn, 1, 0, 0, 0) := by decide +kernel
theorem pa_65_95 : pz_at 65 95 = some (95, .iinc 4 1, 3, 0, 0, 0) := by decide +kernel
theorem pa_65_98 : pz_at 65 98 = some (98, .goto (-95), 3, 3, 0, 0) := by decide +kernel
theorem pr_65 : (pz_mi 65).2.2 = (some .int) := by decide +kernel
theorem pa_66_0 : pz_at 66 0 = some (0, .iload_n 2, 1, 0, 0, 0) := by decide +kernel
theorem pa_66_1 : pz_at 66 1 = some (1, .ifCond .lt 9, 3, 10, 0, 0) := by decide +kernel
theorem pa_66_10 : pz_at 66 10 = some (10, .iconst 0, 1, 0, 0, 0) := by decide +kernel
theorem pa_66_100 : pz_at 66 100 = some (100, .getfield 28, 3, 4, 9, 137) := by decide +kernel
theorem pa_66_103 : pz_at 66 103 = some (103, .iload 4, 2, 0, 0, 0) := by decide +kernel
theorem pa_66_105 : pz_at 66 105 = some (105, .iaload, 1, 0, 0, 0) := by decide +kernel
theorem pa_66_106 : pz_at 66 106 = some (106, .iadd, 1, 0, 0, 0) := by decide +kernel
theorem pa_66_107 : pz_at 66 107 = some (107, .bipush 8, 2, 0, 0, 0) := by decide +kernel
theorem pa_66_109 : pz_at 66 109 = some (109, .if_icmp .gt 7, 3, 116, 0, 0) := by decide +kernel
theorem pa_66_11 : pz_at 66 11 = some (11, .ireturn, 1, 0, 0, 0) := by decide +kernel
theorem pa_66_112 : pz_at 66 112 = some (112, .iconst 1, 1, 0, 0, 0) := by decide +kernel
theorem pa_66_113 : pz_at 66 113 = some (113, .goto 4, 3, 117, 0, 0) := by decide +kernel
theorem pa_66_116 : pz_at 66 116 = some (116, .iconst 0, 1, 0, 0, 0) := by decide +kernel
theorem pa_66_117 : pz_at 66 117 = some (117, .ireturn, 1, 0, 0, 0) := by decide +kernel
theorem pa_66_12 : pz_at 66 12 = some (12, .iload_n 2, 1, 0, 0, 0) := by decide +kernel
theorem pa_66_13 : pz_at 66 13 = some (13, .iconst 3, 1, 0, 0, 0) := by decide +kernel
theorem pa_66_14 : pz_at 66 14 = some (14, .imul, 1, 0, 0, 0) := by decide +kernel
theorem pa_66_15 : pz_at 66 15 = some (15, .istore 6, 2, 0, 0, 0) := by decide +kernel
theorem pa_66_17 : pz_at 66 17 = some (17, .aload_n 0, 1, 0, 0, 0) := by decide +kernel
theorem pa_66_18 : pz_at 66 18 = some (18, .getstatic 72, 3, 0, 0, 511) := by decide +kernel
theorem pa_66_21 : pz_at 66 21 = some (21, .iload 6, 2, 0, 0, 0) := by decide +kernel
theorem pa_66_23 : pz_at 66 23 = some (23, .iaload, 1, 0, 0, 0) := by decide +kernel
theorem pa_66_24 : pz_at 66 24 = some (24, .iload_n 1, 1, 0, 0, 0) := by decide +kernel
theorem pa_66_25 : pz_at 66 25 = some (25, .iload_n 3, 1, 0, 0, 0) := by decide +kernel
theorem pa_66_26 : pz_at 66 26 = some (26, .invokevirtual 75, 3, 67, 3, 513) := by decide +kernel
theorem pa_66_29 : pz_at 66 29 = some (29, .ifCond .eq 39, 3, 68, 0, 0) := by decide +kernel
theorem pa_66_32 : pz_at 66 32 = some (32, .aload_n 0, 1, 0, 0, 0) := by decide +kernel
theorem pa_66_33 : pz_at 66 33 = some (33, .getstatic 72, 3, 0, 0, 511) := by decide +kernel
theorem pa_66_36 : pz_at 66 36 = some (36, .iload 6, 2, 0, 0, 0) := by decide +kernel
theorem pa_66_38 : pz_at 66 38 = some (38, .iconst 1, 1, 0, 0, 0) := by decide +kernel
theorem pa_66_39 : pz_at 66 39 = some (39, .iadd, 1, 0, 0, 0) := by decide +kernel
theorem pa_66_4 : pz_at 66 4 = some (4, .iload_n 2, 1, 0, 0, 0) := by decide +kernel
theorem pa_66_40 : pz_at 66 40 = some (40, .iaload, 1, 0, 0, 0) := by decide +kernel
theorem pa_66_41 : pz_at 66 41 = some (41, .iload_n 1, 1, 0, 0, 0) := by decide +kernel
theorem pa_66_42 : pz_at 66 42 = some (42, .iload 4, 2, 0, 0, 0) := by decide +kernel
theorem pa_66_44 : pz_at 66 44 = some (44, .invokevirtual 75, 3, 67, 3, 513) := by decide +kernel
theorem pa_66_47 : pz_at 66 47 = some (47, .ifCond .eq 21, 3, 68, 0, 0) := by decide +kernel
theorem pa_66_5 : pz_at 66 5 = some (5, .bipush 31, 2, 0, 0, 0) := by decide +kernel
theorem pa_66_50 : pz_at 66 50 = some (50, .aload_n 0, 1, 0, 0, 0) := by decide +kernel
theorem pa_66_51 : pz_at 66 51 = some (51, .getstatic 72, 3, 0, 0, 511) := by decide +kernel
theorem pa_66_54 : pz_at 66 54 = some (54, .iload 6, 2, 0, 0, 0) := by decide +kernel
theorem pa_66_56 : pz_at 66 56 = some (56, .iconst 2, 1, 0, 0, 0) := by decide +kernel
theorem pa_66_57 : pz_at 66 57 = some (57, .iadd, 1, 0, 0, 0) := by decide +kernel
theorem pa_66_58 : pz_at 66 58 = some (58, .iaload, 1, 0, 0, 0) := by decide +kernel
theorem pa_66_59 : pz_at 66 59 = some (59, .iload_n 1, 1, 0, 0, 0) := by decide +kernel
theorem pa_66_60 : pz_at 66 60 = some (60, .iload 5, 2, 0, 0, 0) := by decide +kernel
theorem pa_66_62 : pz_at 66 62 = some (62, .invokevirtual 75, 3, 67, 3, 513) := by decide +kernel
theorem pa_66_65 : pz_at 66 65 = some (65, .ifCond .ne 5, 3, 70, 0, 0) := by decide +kernel
theorem pa_66_68 : pz_at 66 68 = some (68, .iconst 0, 1, 0, 0, 0) := by decide +kernel
theorem pa_66_69 : pz_at 66 69 = some (69, .ireturn, 1, 0, 0, 0) := by decide +kernel
theorem pa_66_7 : pz_at 66 7 = some (7, .if_icmp .le 5, 3, 12, 0, 0) := by decide +kernel
theorem pa_66_70 : pz_at 66 70 = some (70, .getstatic 72, 3, 0, 0, 511) := by decide +kernel
theorem pa_66_73 : pz_at 66 73 = some (73, .iload 6, 2, 0, 0, 0) := by decide +kernel
theorem pa_66_75 : pz_at 66 75 = some (75, .iconst 1, 1, 0, 0, 0) := by decide +kernel
theorem pa_66_76 : pz_at 66 76 = some (76, .iadd, 1, 0, 0, 0) := by decide +kernel
theorem pa_66_77 : pz_at 66 77 = some (77, .iaload, 1, 0, 0, 0) := by decide +kernel
theorem pa_66_78 : pz_at 66 78 = some (78, .bipush 7, 2, 0, 0, 0) := by decide +kernel
theorem pa_66_80 : pz_at 66 80 = some (80, .if_icmp .ne 32, 3, 112, 0, 0) := by decide +kernel
theorem pa_66_83 : pz_at 66 83 = some (83, .iload_n 3, 1, 0, 0, 0) := by decide +kernel
theorem pa_66_84 : pz_at 66 84 = some (84, .aload_n 0, 1, 0, 0, 0) := by decide +kernel
theorem pa_66_85 : pz_at 66 85 = some (85, .getfield 25, 3, 4, 8, 135) := by decide +kernel
theorem pa_66_88 : pz_at 66 88 = some (88, .iload 4, 2, 0, 0, 0) := by decide +kernel
theorem pa_66_90 : pz_at 66 90 = some (90, .iaload, 1, 0, 0, 0) := by decide +kernel
theorem pa_66_91 : pz_at 66 91 = some (91, .iadd, 1, 0, 0, 0) := by decide +kernel
theorem pa_66_92 : pz_at 66 92 = some (92, .bipush 8, 2, 0, 0, 0) := by decide +kernel
theorem pa_66_94 : pz_at 66 94 = some (94, .if_icmp .gt 22, 3, 116, 0, 0) := by decide +kernel
theorem pa_66_97 : pz_at 66 97 = some (97, .iload 5, 2, 0, 0, 0) := by decide +kernel
theorem pa_66_99 : pz_at 66 99 = some (99, .aload_n 0, 1, 0, 0, 0) := by decide +kernel
theorem pm_67 : pz_mi 67 = (4, 4, (some .boolean)) := by decide +kernel
theorem pr_66 : (pz_mi 66).2.2 = (some .boolean) := by decide +kernel
theorem pa_67_0 : pz_at 67 0 = some (0, .iload_n 1, 1, 0, 0, 0) := by decide +kernel
theorem pa_67_1 : pz_at 67 1 = some (1, .tableswitch 187 1 10 #[55, 61, 67, 74, 81, 104, 127, 133, 149, 164], 55, 0, 0, 0) := by decide +kernel
theorem pa_67_100 : pz_at 67 100 = some (100, .goto 4, 3, 104, 0, 0) := by decide +kernel
theorem pa_67_103 : pz_at 67 103 = some (103, .iconst 0, 1, 0, 0, 0) := by decide +kernel
theorem pa_67_104 : pz_at 67 104 = some (104, .ireturn, 1, 0, 0, 0) := by decide +kernel
theorem pa_67_105 : pz_at 67 105 = some (105, .aload_n 0, 1, 0, 0, 0) := by decide +kernel
theorem pa_67_106 : pz_at 67 106 = some (106, .iload_n 3, 1, 0, 0, 0) := by decide +kernel
theorem pa_67_107 : pz_at 67 107 = some (107, .invokevirtual 90, 3, 56, 1, 526) := by decide +kernel
theorem pa_67_110 : pz_at 67 110 = some (110, .ifCond .eq 16, 3, 126, 0, 0) := by decide +kernel
theorem pa_67_113 : pz_at 67 113 = some (113, .aload_n 0, 1, 0, 0, 0) := by decide +kernel
theorem pa_67_114 : pz_at 67 114 = some (114, .getfield 22, 3, 4, 7, 132) := by decide +kernel
theorem pa_67_117 : pz_at 67 117 = some (117, .iload_n 3, 1, 0, 0, 0) := by decide +kernel
theorem pa_67_118 : pz_at 67 118 = some (118, .baload, 1, 0, 0, 0) := by decide +kernel
theorem pa_67_119 : pz_at 67 119 = some (119, .ifCond .eq 7, 3, 126, 0, 0) := by decide +kernel
theorem pa_67_122 : pz_at 67 122 = some (122, .iconst 1, 1, 0, 0, 0) := by decide +kernel
theorem pa_67_123 : pz_at 67 123 = some (123, .goto 4, 3, 127, 0, 0) := by decide +kernel
theorem pa_67_126 : pz_at 67 126 = some (126, .iconst 0, 1, 0, 0, 0) := by decide +kernel
theorem pa_67_127 : pz_at 67 127 = some (127, .ireturn, 1, 0, 0, 0) := by decide +kernel
theorem pa_67_128 : pz_at 67 128 = some (128, .aload_n 0, 1, 0, 0, 0) := by decide +kernel
theorem pa_67_129 : pz_at 67 129 = some (129, .iload_n 3, 1, 0, 0, 0) := by decide +kernel
theorem pa_67_130 : pz_at 67 130 = some (130, .invokevirtual 93, 3, 57, 1, 530) := by decide +kernel
theorem pa_67_133 : pz_at 67 133 = some (133, .ireturn, 1, 0, 0, 0) := by decide +kernel
theorem pa_67_134 : pz_at 67 134 = some (134, .iload_n 3, 1, 0, 0, 0) := by decide +kernel
theorem pa_67_135 : pz_at 67 135 = some (135, .ifCond .lt 13, 3, 148, 0, 0) := by decide +kernel
theorem pa_67_138 : pz_at 67 138 = some (138, .iload_n 3, 1, 0, 0, 0) := by decide +kernel
theorem pa_67_139 : pz_at 67 139 = some (139, .bipush 24, 2, 0, 0, 0) := by decide +kernel
theorem pa_67_141 : pz_at 67 141 = some (141, .if_icmp .gt 7, 3, 148, 0, 0) := by decide +kernel
theorem pa_67_144 : pz_at 67 144 = some (144, .iconst 1, 1, 0, 0, 0) := by decide +kernel
theorem pa_67_145 : pz_at 67 145 = some (145, .goto 4, 3, 149, 0, 0) := by decide +kernel
theorem pa_67_148 : pz_at 67 148 = some (148, .iconst 0, 1, 0, 0, 0) := by decide +kernel
theorem pa_67_149 : pz_at 67 149 = some (149, .ireturn, 1, 0, 0, 0) := by decide +kernel
theorem pa_67_150 : pz_at 67 150 = some (150, .iload_n 3, 1, 0, 0, 0) := by decide +kernel
theorem pa_67_151 : pz_at 67 151 = some (151, .ifCond .lt 12, 3, 163, 0, 0) := by decide +kernel
theorem pa_67_154 : pz_at 67 154 = some (154, .iload_n 3, 1, 0, 0, 0) := by decide +kernel
theorem pa_67_155 : pz_at 67 155 = some (155, .iconst 4, 1, 0, 0, 0) := by decide +kernel
theorem pa_67_156 : pz_at 67 156 = some (156, .if_icmp .ge 7, 3, 163, 0, 0) := by decide +kernel
theorem pa_67_159 : pz_at 67 159 = some (159, .iconst 1, 1, 0, 0, 0) := by decide +kernel
theorem pa_67_160 : pz_at 67 160 = some (160, .goto 4, 3, 164, 0, 0) := by decide +kernel
theorem pa_67_163 : pz_at 67 163 = some (163, .iconst 0, 1, 0, 0, 0) := by decide +kernel
theorem pa_67_164 : pz_at 67 164 = some (164, .ireturn, 1, 0, 0, 0) := by decide +kernel
theorem pa_67_165 : pz_at 67 165 = some (165, .aload_n 0, 1, 0, 0, 0) := by decide +kernel
theorem pa_67_166 : pz_at 67 166 = some (166, .getfield 31, 3, 4, 10, 140) := by decide +kernel
theorem pa_67_169 : pz_at 67 169 = some (169, .iload_n 2, 1, 0, 0, 0) := by decide +kernel
theorem pa_67_170 : pz_at 67 170 = some (170, .iaload, 1, 0, 0, 0) := by decide +kernel
theorem pa_67_171 : pz_at 67 171 = some (171, .ifCond .eq 11, 3, 182, 0, 0) := by decide +kernel
theorem pa_67_174 : pz_at 67 174 = some (174, .aload_n 0, 1, 0, 0, 0) := by decide +kernel
theorem pa_67_175 : pz_at 67 175 = some (175, .iload_n 3, 1, 0, 0, 0) := by decide +kernel
theorem pa_67_176 : pz_at 67 176 = some (176, .invokevirtual 79, 3, 68, 1, 517) := by decide +kernel
theorem pa_67_179 : pz_at 67 179 = some (179, .ifCond .eq 7, 3, 186, 0, 0) := by decide +kernel
theorem pa_67_182 : pz_at 67 182 = some (182, .iconst 1, 1, 0, 0, 0) := by decide +kernel
theorem pa_67_183 : pz_at 67 183 = some (183, .goto 4, 3, 187, 0, 0) := by decide +kernel
theorem pa_67_186 : pz_at 67 186 = some (186, .iconst 0, 1, 0, 0, 0) := by decide +kernel
theorem pa_67_187 : pz_at 67 187 = some (187, .ireturn, 1, 0, 0, 0) := by decide +kernel
theorem pa_67_188 : pz_at 67 188 = some (188, .iconst 1, 1, 0, 0, 0) := by decide +kernel
theorem pa_67_189 : pz_at 67 189 = some (189, .ireturn, 1, 0, 0, 0) := by decide +kernel
theorem pa_67_56 : pz_at 67 56 = some (56, .aload_n 0, 1, 0, 0, 0) := by decide +kernel
theorem pa_67_57 : pz_at 67 57 = some (57, .iload_n 3, 1, 0, 0, 0) := by decide +kernel
theorem pa_67_58 : pz_at 67 58 = some (58, .invokevirtual 79, 3, 68, 1, 517) := by decide +kernel
theorem pa_67_61 : pz_at 67 61 = some (61, .ireturn, 1, 0, 0, 0) := by decide +kernel
theorem pa_67_62 : pz_at 67 62 = some (62, .aload_n 0, 1, 0, 0, 0) := by decide +kernel
theorem pa_67_63 : pz_at 67 63 = some (63, .iload_n 3, 1, 0, 0, 0) := by decide +kernel
theorem pa_67_64 : pz_at 67 64 = some (64, .invokevirtual 83, 3, 55, 1, 521) := by decide +kernel
theorem pa_67_67 : pz_at 67 67 = some (67, .ireturn, 1, 0, 0, 0) := by decide +kernel
theorem pa_67_68 : pz_at 67 68 = some (68, .aload_n 0, 1, 0, 0, 0) := by decide +kernel
theorem pa_67_69 : pz_at 67 69 = some (69, .iload_n 3, 1, 0, 0, 0) := by decide +kernel
theorem pa_67_70 : pz_at 67 70 = some (70, .iconst 0, 1, 0, 0, 0) := by decide +kernel
theorem pa_67_71 : pz_at 67 71 = some (71, .invokevirtual 86, 3, 69, 2, 522) := by decide +kernel
theorem pa_67_74 : pz_at 67 74 = some (74, .ireturn, 1, 0, 0, 0) := by decide +kernel
theorem pa_67_75 : pz_at 67 75 = some (75, .aload_n 0, 1, 0, 0, 0) := by decide +kernel
theorem pa_67_76 : pz_at 67 76 = some (76, .iload_n 3, 1, 0, 0, 0) := by decide +kernel
theorem pa_67_77 : pz_at 67 77 = some (77, .iconst 1, 1, 0, 0, 0) := by decide +kernel
theorem pa_67_78 : pz_at 67 78 = some (78, .invokevirtual 86, 3, 69, 2, 522) := by decide +kernel
theorem pa_67_81 : pz_at 67 81 = some (81, .ireturn, 1, 0, 0, 0) := by decide +kernel
theorem pa_67_82 : pz_at 67 82 = some (82, .aload_n 0, 1, 0, 0, 0) := by decide +kernel
theorem pa_67_83 : pz_at 67 83 = some (83, .iload_n 3, 1, 0, 0, 0) := by decide +kernel
theorem pa_67_84 : pz_at 67 84 = some (84, .invokevirtual 90, 3, 56, 1, 526) := by decide +kernel
theorem pa_67_87 : pz_at 67 87 = some (87, .ifCond .eq 16, 3, 103, 0, 0) := by decide +kernel
theorem pa_67_90 : pz_at 67 90 = some (90, .aload_n 0, 1, 0, 0, 0) := by decide +kernel
theorem pa_67_91 : pz_at 67 91 = some (91, .getfield 22, 3, 4, 7, 132) := by decide +kernel
theorem pa_67_94 : pz_at 67 94 = some (94, .iload_n 3, 1, 0, 0, 0) := by decide +kernel
theorem pa_67_95 : pz_at 67 95 = some (95, .baload, 1, 0, 0, 0) := by decide +kernel
theorem pa_67_96 : pz_at 67 96 = some (96, .ifCond .ne 7, 3, 103, 0, 0) := by decide +kernel
theorem pa_67_99 : pz_at 67 99 = some (99, .iconst 1, 1, 0, 0, 0) := by decide +kernel
theorem pm_55 : pz_mi 55 = (4, 2, (some .boolean)) := by decide +kernel
theorem pm_56 : pz_mi 56 = (4, 2, (some .boolean)) := by decide +kernel
theorem pm_57 : pz_mi 57 = (4, 2, (some .boolean)) := by decide +kernel
theorem pm_68 : pz_mi 68 = (4, 2, (some .boolean)) := by decide +kernel
theorem pm_69 : pz_mi 69 = (4, 3, (some .boolean)) := by decide +kernel
theorem pr_67 : (pz_mi 67).2.2 = (some .boolean) := by decide +kernel
theorem pa_68_0 : pz_at 68 0 = some (0, .iload_n 1, 1, 0, 0, 0) := by decide +kernel
theorem pa_68_1 : pz_at 68 1 = some (1, .ifCond .lt 13, 3, 14, 0, 0) := by decide +kernel
theorem pa_68_10 : pz_at 68 10 = some (10, .iconst 1, 1, 0, 0, 0) := by decide +kernel
theorem pa_68_11 : pz_at 68 11 = some (11, .goto 4, 3, 15, 0, 0) := by decide +kernel
theorem pa_68_14 : pz_at 68 14 = some (14, .iconst 0, 1, 0, 0, 0) := by decide +kernel
theorem pa_68_15 : pz_at 68 15 = some (15, .ireturn, 1, 0, 0, 0) := by decide +kernel
theorem pa_68_4 : pz_at 68 4 = some (4, .iload_n 1, 1, 0, 0, 0) := by decide +kernel
theorem pa_68_5 : pz_at 68 5 = some (5, .bipush 8, 2, 0, 0, 0) := by decide +kernel
theorem pa_68_7 : pz_at 68 7 = some (7, .if_icmp .ge 7, 3, 14, 0, 0) := by decide +kernel
theorem pr_68 : (pz_mi 68).2.2 = (some .boolean) := by decide +kernel
theorem pa_69_0 : pz_at 69 0 = some (0, .iload_n 1, 1, 0, 0, 0) := by decide +kernel
theorem pa_69_1 : pz_at 69 1 = some (1, .ifCond .lt 25, 3, 26, 0, 0) := by decide +kernel
theorem pa_69_12 : pz_at 69 12 = some (12, .aload_n 0, 1, 0, 0, 0) := by decide +kernel
theorem pa_69_13 : pz_at 69 13 = some (13, .getfield 18, 3, 4, 6, 130) := by decide +kernel
theorem pa_69_16 : pz_at 69 16 = some (16, .iload_n 1, 1, 0, 0, 0) := by decide +kernel
theorem pa_69_17 : pz_at 69 17 = some (17, .baload, 1, 0, 0, 0) := by decide +kernel
theorem pa_69_18 : pz_at 69 18 = some (18, .iload_n 2, 1, 0, 0, 0) := by decide +kernel
theorem pa_69_19 : pz_at 69 19 = some (19, .if_icmp .ne 7, 3, 26, 0, 0) := by decide +kernel
theorem pa_69_22 : pz_at 69 22 = some (22, .iconst 1, 1, 0, 0, 0) := by decide +kernel
theorem pa_69_23 : pz_at 69 23 = some (23, .goto 4, 3, 27, 0, 0) := by decide +kernel
theorem pa_69_26 : pz_at 69 26 = some (26, .iconst 0, 1, 0, 0, 0) := by decide +kernel
theorem pa_69_27 : pz_at 69 27 = some (27, .ireturn, 1, 0, 0, 0) := by decide +kernel
theorem pa_69_4 : pz_at 69 4 = some (4, .iload_n 1, 1, 0, 0, 0) := by decide +kernel
theorem pa_69_5 : pz_at 69 5 = some (5, .aload_n 0, 1, 0, 0, 0) := by decide +kernel
theorem pa_69_6 : pz_at 69 6 = some (6, .getfield 65, 3, 4, 1, 119) := by decide +kernel
theorem pa_69_9 : pz_at 69 9 = some (9, .if_icmp .ge 17, 3, 26, 0, 0) := by decide +kernel
theorem pr_69 : (pz_mi 69).2.2 = (some .boolean) := by decide +kernel
theorem pa_70_0 : pz_at 70 0 = some (0, .aload_n 0, 1, 0, 0, 0) := by decide +kernel
theorem pa_70_1 : pz_at 70 1 = some (1, .aload_n 1, 1, 0, 0, 0) := by decide +kernel
theorem pa_70_10 : pz_at 70 10 = some (10, .getfield 28, 3, 5, 1, 211) := by decide +kernel
theorem pa_70_13 : pz_at 70 13 = some (13, .putfield 28, 3, 5, 1, 211) := by decide +kernel
theorem pa_70_16 : pz_at 70 16 = some (16, .aload_n 1, 1, 0, 0, 0) := by decide +kernel
theorem pa_70_17 : pz_at 70 17 = some (17, .getfield 9, 3, 5, 2, 214) := by decide +kernel
theorem pa_70_2 : pz_at 70 2 = some (2, .getfield 24, 3, 5, 0, 208) := by decide +kernel
theorem pa_70_20 : pz_at 70 20 = some (20, .iconst 0, 1, 0, 0, 0) := by decide +kernel
theorem pa_70_21 : pz_at 70 21 = some (21, .aload_n 0, 1, 0, 0, 0) := by decide +kernel
theorem pa_70_22 : pz_at 70 22 = some (22, .getfield 9, 3, 5, 2, 214) := by decide +kernel
theorem pa_70_25 : pz_at 70 25 = some (25, .iconst 0, 1, 0, 0, 0) := by decide +kernel
theorem pa_70_26 : pz_at 70 26 = some (26, .aload_n 0, 1, 0, 0, 0) := by decide +kernel
theorem pa_70_27 : pz_at 70 27 = some (27, .getfield 24, 3, 5, 0, 208) := by decide +kernel
theorem pa_70_30 : pz_at 70 30 = some (30, .invokestatic 31, 3, 901, 0, 739) := by decide +kernel
theorem pa_70_33 : pz_at 70 33 = some (33, .aload_n 1, 1, 0, 0, 0) := by decide +kernel
theorem pa_70_34 : pz_at 70 34 = some (34, .getfield 15, 3, 5, 3, 217) := by decide +kernel
theorem pa_70_37 : pz_at 70 37 = some (37, .iconst 0, 1, 0, 0, 0) := by decide +kernel
theorem pa_70_38 : pz_at 70 38 = some (38, .aload_n 0, 1, 0, 0, 0) := by decide +kernel
theorem pa_70_39 : pz_at 70 39 = some (39, .getfield 15, 3, 5, 3, 217) := by decide +kernel
theorem pa_70_42 : pz_at 70 42 = some (42, .iconst 0, 1, 0, 0, 0) := by decide +kernel
theorem pa_70_43 : pz_at 70 43 = some (43, .aload_n 0, 1, 0, 0, 0) := by decide +kernel
theorem pa_70_44 : pz_at 70 44 = some (44, .getfield 24, 3, 5, 0, 208) := by decide +kernel
theorem pa_70_47 : pz_at 70 47 = some (47, .bipush 16, 2, 0, 0, 0) := by decide +kernel
theorem pa_70_49 : pz_at 70 49 = some (49, .imul, 1, 0, 0, 0) := by decide +kernel
theorem pa_70_5 : pz_at 70 5 = some (5, .putfield 24, 3, 5, 0, 208) := by decide +kernel
theorem pa_70_50 : pz_at 70 50 = some (50, .invokestatic 31, 3, 901, 0, 739) := by decide +kernel
theorem pa_70_53 : pz_at 70 53 = some (53, .aload_n 1, 1, 0, 0, 0) := by decide +kernel
theorem pa_70_54 : pz_at 70 54 = some (54, .getfield 18, 3, 5, 4, 221) := by decide +kernel
theorem pa_70_57 : pz_at 70 57 = some (57, .iconst 0, 1, 0, 0, 0) := by decide +kernel
theorem pa_70_58 : pz_at 70 58 = some (58, .aload_n 0, 1, 0, 0, 0) := by decide +kernel
theorem pa_70_59 : pz_at 70 59 = some (59, .getfield 18, 3, 5, 4, 221) := by decide +kernel
theorem pa_70_62 : pz_at 70 62 = some (62, .iconst 0, 1, 0, 0, 0) := by decide +kernel
theorem pa_70_63 : pz_at 70 63 = some (63, .bipush 8, 2, 0, 0, 0) := by decide +kernel
theorem pa_70_65 : pz_at 70 65 = some (65, .invokestatic 31, 3, 901, 0, 739) := by decide +kernel
theorem pa_70_68 : pz_at 70 68 = some (68, .aload_n 1, 1, 0, 0, 0) := by decide +kernel
theorem pa_70_69 : pz_at 70 69 = some (69, .getfield 21, 3, 5, 5, 225) := by decide +kernel
theorem pa_70_72 : pz_at 70 72 = some (72, .iconst 0, 1, 0, 0, 0) := by decide +kernel
theorem pa_70_73 : pz_at 70 73 = some (73, .aload_n 0, 1, 0, 0, 0) := by decide +kernel
theorem pa_70_74 : pz_at 70 74 = some (74, .getfield 21, 3, 5, 5, 225) := by decide +kernel
theorem pa_70_77 : pz_at 70 77 = some (77, .iconst 0, 1, 0, 0, 0) := by decide +kernel
theorem pa_70_78 : pz_at 70 78 = some (78, .aload_n 0, 1, 0, 0, 0) := by decide +kernel
theorem pa_70_79 : pz_at 70 79 = some (79, .getfield 28, 3, 5, 1, 211) := by decide +kernel
theorem pa_70_8 : pz_at 70 8 = some (8, .aload_n 0, 1, 0, 0, 0) := by decide +kernel
theorem pa_70_82 : pz_at 70 82 = some (82, .sipush 200, 3, 0, 0, 0) := by decide +kernel
theorem pa_70_85 : pz_at 70 85 = some (85, .invokestatic 37, 3, 900, 0, 742) := by decide +kernel
theorem pa_70_88 : pz_at 70 88 = some (88, .invokestatic 31, 3, 901, 0, 739) := by decide +kernel
theorem pa_70_9 : pz_at 70 9 = some (9, .aload_n 1, 1, 0, 0, 0) := by decide +kernel
theorem pa_70_91 : pz_at 70 91 = some (91, .return_, 1, 0, 0, 0) := by decide +kernel
theorem pf_21_5_0 : pz_gf 21 5 0 = some none := by decide +kernel
theorem pf_21_5_1 : pz_gf 21 5 1 = some none := by decide +kernel
theorem pf_21_5_2 : pz_gf 21 5 2 = some (some 22) := by decide +kernel
theorem pf_21_5_3 : pz_gf 21 5 3 = some (some 23) := by decide +kernel
theorem pf_21_5_4 : pz_gf 21 5 4 = some (some 24) := by decide +kernel
theorem pf_21_5_5 : pz_gf 21 5 5 = some (some 25) := by decide +kernel
theorem pg_22 : pz_ga 22 = some (.int, 60) := by decide +kernel
theorem pg_23 : pz_ga 23 = some (.int, 960) := by decide +kernel
theorem pg_24 : pz_ga 24 = some (.int, 8) := by decide +kernel
theorem pg_25 : pz_ga 25 = some (.int, 200) := by decide +kernel
theorem pr_70 : (pz_mi 70).2.2 = none := by decide +kernel
theorem pf_26_5_0 : pz_gf 26 5 0 = some none := by decide +kernel
theorem pa_71_0 : pz_at 71 0 = some (0, .iload_n 1, 1, 0, 0, 0) := by decide +kernel
theorem pa_71_1 : pz_at 71 1 = some (1, .ifCond .lt 15, 3, 16, 0, 0) := by decide +kernel
theorem pa_71_12 : pz_at 71 12 = some (12, .iconst 1, 1, 0, 0, 0) := by decide +kernel
theorem pa_71_13 : pz_at 71 13 = some (13, .goto 4, 3, 17, 0, 0) := by decide +kernel
theorem pa_71_16 : pz_at 71 16 = some (16, .iconst 0, 1, 0, 0, 0) := by decide +kernel
theorem pa_71_17 : pz_at 71 17 = some (17, .ireturn, 1, 0, 0, 0) := by decide +kernel
theorem pa_71_4 : pz_at 71 4 = some (4, .iload_n 1, 1, 0, 0, 0) := by decide +kernel
theorem pa_71_5 : pz_at 71 5 = some (5, .aload_n 0, 1, 0, 0, 0) := by decide +kernel
theorem pa_71_6 : pz_at 71 6 = some (6, .getfield 24, 3, 5, 0, 208) := by decide +kernel
theorem pa_71_9 : pz_at 71 9 = some (9, .if_icmp .ge 7, 3, 16, 0, 0) := by decide +kernel
theorem pr_71 : (pz_mi 71).2.2 = (some .boolean) := by decide +kernel
theorem pa_72_0 : pz_at 72 0 = some (0, .iload_n 1, 1, 0, 0, 0) := by decide +kernel
theorem pa_72_1 : pz_at 72 1 = some (1, .iconst (-1), 1, 0, 0, 0) := by decide +kernel
theorem pa_72_10 : pz_at 72 10 = some (10, .ifCond .eq 7, 3, 17, 0, 0) := by decide +kernel
theorem pa_72_13 : pz_at 72 13 = some (13, .iconst 1, 1, 0, 0, 0) := by decide +kernel
theorem pa_72_14 : pz_at 72 14 = some (14, .goto 4, 3, 18, 0, 0) := by decide +kernel
theorem pa_72_17 : pz_at 72 17 = some (17, .iconst 0, 1, 0, 0, 0) := by decide +kernel
theorem pa_72_18 : pz_at 72 18 = some (18, .ireturn, 1, 0, 0, 0) := by decide +kernel
theorem pa_72_2 : pz_at 72 2 = some (2, .if_icmp .eq 11, 3, 13, 0, 0) := by decide +kernel
theorem pa_72_5 : pz_at 72 5 = some (5, .aload_n 0, 1, 0, 0, 0) := by decide +kernel
theorem pa_72_6 : pz_at 72 6 = some (6, .iload_n 1, 1, 0, 0, 0) := by decide +kernel
theorem pa_72_7 : pz_at 72 7 = some (7, .invokevirtual 43, 3, 71, 1, 563) := by decide +kernel
theorem pm_71 : pz_mi 71 = (5, 2, (some .boolean)) := by decide +kernel
theorem pr_72 : (pz_mi 72).2.2 = (some .boolean) := by decide +kernel
theorem pa_73_0 : pz_at 73 0 = some (0, .bipush (-10), 2, 0, 0, 0) := by decide +kernel
theorem pa_73_2 : pz_at 73 2 = some (2, .aload_n 0, 1, 0, 0, 0) := by decide +kernel
theorem pa_73_3 : pz_at 73 3 = some (3, .getfield 9, 3, 5, 2, 214) := by decide +kernel
theorem pa_73_6 : pz_at 73 6 = some (6, .iload_n 1, 1, 0, 0, 0) := by decide +kernel
theorem pa_73_7 : pz_at 73 7 = some (7, .iaload, 1, 0, 0, 0) := by decide +kernel
theorem pa_73_8 : pz_at 73 8 = some (8, .isub, 1, 0, 0, 0) := by decide +kernel
theorem pa_73_9 : pz_at 73 9 = some (9, .ireturn, 1, 0, 0, 0) := by decide +kernel
theorem pr_73 : (pz_mi 73).2.2 = (some .int) := by decide +kernel
theorem pa_74_0 : pz_at 74 0 = some (0, .aload_n 0, 1, 0, 0, 0) := by decide +kernel
theorem pa_74_1 : pz_at 74 1 = some (1, .getfield 9, 3, 5, 2, 214) := by decide +kernel
theorem pa_74_11 : pz_at 74 11 = some (11, .iconst 1, 1, 0, 0, 0) := by decide +kernel
theorem pa_74_12 : pz_at 74 12 = some (12, .goto 4, 3, 16, 0, 0) := by decide +kernel
theorem pa_74_15 : pz_at 74 15 = some (15, .iconst 0, 1, 0, 0, 0) := by decide +kernel
theorem pa_74_16 : pz_at 74 16 = some (16, .ireturn, 1, 0, 0, 0) := by decide +kernel
theorem pa_74_4 : pz_at 74 4 = some (4, .iload_n 1, 1, 0, 0, 0) := by decide +kernel
theorem pa_74_5 : pz_at 74 5 = some (5, .iaload, 1, 0, 0, 0) := by decide +kernel
theorem pa_74_6 : pz_at 74 6 = some (6, .bipush (-10), 2, 0, 0, 0) := by decide +kernel
theorem pa_74_8 : pz_at 74 8 = some (8, .if_icmp .gt 7, 3, 15, 0, 0) := by decide +kernel
theorem pr_74 : (pz_mi 74).2.2 = (some .boolean) := by decide +kernel
theorem pa_75_0 : pz_at 75 0 = some (0, .iload_n 2, 1, 0, 0, 0) := by decide +kernel
theorem pa_75_1 : pz_at 75 1 = some (1, .iconst (-1), 1, 0, 0, 0) := by decide +kernel
theorem pa_75_10 : pz_at 75 10 = some (10, .ifCond .ne 21, 3, 31, 0, 0) := by decide +kernel
theorem pa_75_13 : pz_at 75 13 = some (13, .aload_n 1, 1, 0, 0, 0) := by decide +kernel
theorem pa_75_14 : pz_at 75 14 = some (14, .aload_n 0, 1, 0, 0, 0) := by decide +kernel
theorem pa_75_15 : pz_at 75 15 = some (15, .getfield 9, 3, 5, 2, 214) := by decide +kernel
theorem pa_75_18 : pz_at 75 18 = some (18, .iload_n 2, 1, 0, 0, 0) := by decide +kernel
theorem pa_75_19 : pz_at 75 19 = some (19, .iaload, 1, 0, 0, 0) := by decide +kernel
theorem pa_75_2 : pz_at 75 2 = some (2, .if_icmp .eq 29, 3, 31, 0, 0) := by decide +kernel
theorem pa_75_20 : pz_at 75 20 = some (20, .iload_n 3, 1, 0, 0, 0) := by decide +kernel
theorem pa_75_21 : pz_at 75 21 = some (21, .invokevirtual 50, 3, 58, 2, 474) := by decide +kernel
theorem pa_75_24 : pz_at 75 24 = some (24, .ifCond .eq 7, 3, 31, 0, 0) := by decide +kernel
theorem pa_75_27 : pz_at 75 27 = some (27, .iconst 1, 1, 0, 0, 0) := by decide +kernel
theorem pa_75_28 : pz_at 75 28 = some (28, .goto 4, 3, 32, 0, 0) := by decide +kernel
theorem pa_75_31 : pz_at 75 31 = some (31, .iconst 0, 1, 0, 0, 0) := by decide +kernel
theorem pa_75_32 : pz_at 75 32 = some (32, .ireturn, 1, 0, 0, 0) := by decide +kernel
theorem pa_75_5 : pz_at 75 5 = some (5, .aload_n 0, 1, 0, 0, 0) := by decide +kernel
theorem pa_75_6 : pz_at 75 6 = some (6, .iload_n 2, 1, 0, 0, 0) := by decide +kernel
theorem pa_75_7 : pz_at 75 7 = some (7, .invokevirtual 47, 3, 74, 1, 470) := by decide +kernel
theorem pr_75 : (pz_mi 75).2.2 = (some .boolean) := by decide +kernel
theorem pa_76_0 : pz_at 76 0 = some (0, .aload_n 0, 1, 0, 0, 0) := by decide +kernel
theorem pa_76_1 : pz_at 76 1 = some (1, .iload_n 2, 1, 0, 0, 0) := by decide +kernel
theorem pa_76_12 : pz_at 76 12 = some (12, .aload_n 0, 1, 0, 0, 0) := by decide +kernel
theorem pa_76_13 : pz_at 76 13 = some (13, .getfield 9, 3, 5, 2, 214) := by decide +kernel
theorem pa_76_16 : pz_at 76 16 = some (16, .iload_n 2, 1, 0, 0, 0) := by decide +kernel
theorem pa_76_17 : pz_at 76 17 = some (17, .iaload, 1, 0, 0, 0) := by decide +kernel
theorem pa_76_18 : pz_at 76 18 = some (18, .iaload, 1, 0, 0, 0) := by decide +kernel
theorem pa_76_19 : pz_at 76 19 = some (19, .iload_n 3, 1, 0, 0, 0) := by decide +kernel
theorem pa_76_2 : pz_at 76 2 = some (2, .invokevirtual 47, 3, 74, 1, 470) := by decide +kernel
theorem pa_76_20 : pz_at 76 20 = some (20, .ishr, 1, 0, 0, 0) := by decide +kernel
theorem pa_76_21 : pz_at 76 21 = some (21, .iconst 1, 1, 0, 0, 0) := by decide +kernel
theorem pa_76_22 : pz_at 76 22 = some (22, .iand, 1, 0, 0, 0) := by decide +kernel
theorem pa_76_23 : pz_at 76 23 = some (23, .iconst 1, 1, 0, 0, 0) := by decide +kernel
theorem pa_76_24 : pz_at 76 24 = some (24, .if_icmp .ne 7, 3, 31, 0, 0) := by decide +kernel
theorem pa_76_27 : pz_at 76 27 = some (27, .iconst 1, 1, 0, 0, 0) := by decide +kernel
theorem pa_76_28 : pz_at 76 28 = some (28, .goto 4, 3, 32, 0, 0) := by decide +kernel
theorem pa_76_31 : pz_at 76 31 = some (31, .iconst 0, 1, 0, 0, 0) := by decide +kernel
theorem pa_76_32 : pz_at 76 32 = some (32, .ireturn, 1, 0, 0, 0) := by decide +kernel
theorem pa_76_5 : pz_at 76 5 = some (5, .ifCond .ne 26, 3, 31, 0, 0) := by decide +kernel
theorem pa_76_8 : pz_at 76 8 = some (8, .aload_n 1, 1, 0, 0, 0) := by decide +kernel
theorem pa_76_9 : pz_at 76 9 = some (9, .getfield 56, 3, 4, 5, 129) := by decide +kernel
theorem pr_76 : (pz_mi 76).2.2 = (some .boolean) := by decide +kernel
theorem pa_77_0 : pz_at 77 0 = some (0, .iconst 0, 1, 0, 0, 0) := by decide +kernel
theorem pa_77_1 : pz_at 77 1 = some (1, .istore_n 3, 1, 0, 0, 0) := by decide +kernel
theorem pa_77_10 : pz_at 77 10 = some (10, .aload_n 0, 1, 0, 0, 0) := by decide +kernel
theorem pa_77_11 : pz_at 77 11 = some (11, .aload_n 1, 1, 0, 0, 0) := by decide +kernel
theorem pa_77_12 : pz_at 77 12 = some (12, .iload_n 3, 1, 0, 0, 0) := by decide +kernel
theorem pa_77_13 : pz_at 77 13 = some (13, .iload_n 2, 1, 0, 0, 0) := by decide +kernel
theorem pa_77_14 : pz_at 77 14 = some (14, .invokevirtual 59, 3, 75, 3, 466) := by decide +kernel
theorem pa_77_17 : pz_at 77 17 = some (17, .ifCond .eq 5, 3, 22, 0, 0) := by decide +kernel
theorem pa_77_2 : pz_at 77 2 = some (2, .iload_n 3, 1, 0, 0, 0) := by decide +kernel
theorem pa_77_20 : pz_at 77 20 = some (20, .iconst 1, 1, 0, 0, 0) := by decide +kernel
theorem pa_77_21 : pz_at 77 21 = some (21, .ireturn, 1, 0, 0, 0) := by decide +kernel
theorem pa_77_22 : pz_at 77 22 = some (22, .iinc 3 1, 3, 0, 0, 0) := by decide +kernel
theorem pa_77_25 : pz_at 77 25 = some (25, .goto (-23), 3, 2, 0, 0) := by decide +kernel
theorem pa_77_28 : pz_at 77 28 = some (28, .iconst 0, 1, 0, 0, 0) := by decide +kernel
theorem pa_77_29 : pz_at 77 29 = some (29, .ireturn, 1, 0, 0, 0) := by decide +kernel
theorem pa_77_3 : pz_at 77 3 = some (3, .aload_n 0, 1, 0, 0, 0) := by decide +kernel
theorem pa_77_4 : pz_at 77 4 = some (4, .getfield 24, 3, 5, 0, 208) := by decide +kernel
theorem pa_77_7 : pz_at 77 7 = some (7, .if_icmp .ge 21, 3, 28, 0, 0) := by decide +kernel
theorem pr_77 : (pz_mi 77).2.2 = (some .boolean) := by decide +kernel
theorem pa_78_0 : pz_at 78 0 = some (0, .aload_n 0, 1, 0, 0, 0) := by decide +kernel
theorem pa_78_1 : pz_at 78 1 = some (1, .iload_n 2, 1, 0, 0, 0) := by decide +kernel
theorem pa_78_12 : pz_at 78 12 = some (12, .iconst 0, 1, 0, 0, 0) := by decide +kernel
theorem pa_78_13 : pz_at 78 13 = some (13, .ireturn, 1, 0, 0, 0) := by decide +kernel
theorem pa_78_14 : pz_at 78 14 = some (14, .aload_n 0, 1, 0, 0, 0) := by decide +kernel
theorem pa_78_15 : pz_at 78 15 = some (15, .iload_n 2, 1, 0, 0, 0) := by decide +kernel
theorem pa_78_16 : pz_at 78 16 = some (16, .invokevirtual 47, 3, 74, 1, 470) := by decide +kernel
theorem pa_78_19 : pz_at 78 19 = some (19, .ifCond .eq 20, 3, 39, 0, 0) := by decide +kernel
theorem pa_78_2 : pz_at 78 2 = some (2, .invokevirtual 43, 3, 71, 1, 563) := by decide +kernel
theorem pa_78_22 : pz_at 78 22 = some (22, .iload_n 3, 1, 0, 0, 0) := by decide +kernel
theorem pa_78_23 : pz_at 78 23 = some (23, .aload_n 0, 1, 0, 0, 0) := by decide +kernel
theorem pa_78_24 : pz_at 78 24 = some (24, .iload_n 2, 1, 0, 0, 0) := by decide +kernel
theorem pa_78_25 : pz_at 78 25 = some (25, .invokevirtual 63, 3, 73, 1, 567) := by decide +kernel
theorem pa_78_28 : pz_at 78 28 = some (28, .if_icmp .ge 7, 3, 35, 0, 0) := by decide +kernel
theorem pa_78_31 : pz_at 78 31 = some (31, .iconst 1, 1, 0, 0, 0) := by decide +kernel
theorem pa_78_32 : pz_at 78 32 = some (32, .goto 30, 3, 62, 0, 0) := by decide +kernel
theorem pa_78_35 : pz_at 78 35 = some (35, .iconst 0, 1, 0, 0, 0) := by decide +kernel
theorem pa_78_36 : pz_at 78 36 = some (36, .goto 26, 3, 62, 0, 0) := by decide +kernel
theorem pa_78_39 : pz_at 78 39 = some (39, .iload_n 3, 1, 0, 0, 0) := by decide +kernel
theorem pa_78_40 : pz_at 78 40 = some (40, .aload_n 1, 1, 0, 0, 0) := by decide +kernel
theorem pa_78_41 : pz_at 78 41 = some (41, .getfield 67, 3, 4, 1, 120) := by decide +kernel
theorem pa_78_44 : pz_at 78 44 = some (44, .if_icmp .ge 17, 3, 61, 0, 0) := by decide +kernel
theorem pa_78_47 : pz_at 78 47 = some (47, .aload_n 0, 1, 0, 0, 0) := by decide +kernel
theorem pa_78_48 : pz_at 78 48 = some (48, .aload_n 1, 1, 0, 0, 0) := by decide +kernel
theorem pa_78_49 : pz_at 78 49 = some (49, .iload_n 2, 1, 0, 0, 0) := by decide +kernel
theorem pa_78_5 : pz_at 78 5 = some (5, .ifCond .eq 7, 3, 12, 0, 0) := by decide +kernel
theorem pa_78_50 : pz_at 78 50 = some (50, .iload_n 3, 1, 0, 0, 0) := by decide +kernel
theorem pa_78_51 : pz_at 78 51 = some (51, .invokevirtual 70, 3, 76, 3, 571) := by decide +kernel
theorem pa_78_54 : pz_at 78 54 = some (54, .ifCond .eq 7, 3, 61, 0, 0) := by decide +kernel
theorem pa_78_57 : pz_at 78 57 = some (57, .iconst 1, 1, 0, 0, 0) := by decide +kernel
theorem pa_78_58 : pz_at 78 58 = some (58, .goto 4, 3, 62, 0, 0) := by decide +kernel
theorem pa_78_61 : pz_at 78 61 = some (61, .iconst 0, 1, 0, 0, 0) := by decide +kernel
theorem pa_78_62 : pz_at 78 62 = some (62, .ireturn, 1, 0, 0, 0) := by decide +kernel
theorem pa_78_8 : pz_at 78 8 = some (8, .iload_n 3, 1, 0, 0, 0) := by decide +kernel
theorem pa_78_9 : pz_at 78 9 = some (9, .ifCond .ge 5, 3, 14, 0, 0) := by decide +kernel
theorem pr_78 : (pz_mi 78).2.2 = (some .boolean) := by decide +kernel
theorem pa_79_0 : pz_at 79 0 = some (0, .aload_n 0, 1, 0, 0, 0) := by decide +kernel
theorem pa_79_1 : pz_at 79 1 = some (1, .iload_n 2, 1, 0, 0, 0) := by decide +kernel
theorem pa_79_12 : pz_at 79 12 = some (12, .iload_n 3, 1, 0, 0, 0) := by decide +kernel
theorem pa_79_13 : pz_at 79 13 = some (13, .baload, 1, 0, 0, 0) := by decide +kernel
theorem pa_79_14 : pz_at 79 14 = some (14, .ifCond .eq 7, 3, 21, 0, 0) := by decide +kernel
theorem pa_79_17 : pz_at 79 17 = some (17, .iconst 1, 1, 0, 0, 0) := by decide +kernel
theorem pa_79_18 : pz_at 79 18 = some (18, .goto 4, 3, 22, 0, 0) := by decide +kernel
theorem pa_79_2 : pz_at 79 2 = some (2, .invokevirtual 47, 3, 74, 1, 470) := by decide +kernel
theorem pa_79_21 : pz_at 79 21 = some (21, .iconst 0, 1, 0, 0, 0) := by decide +kernel
theorem pa_79_22 : pz_at 79 22 = some (22, .ireturn, 1, 0, 0, 0) := by decide +kernel
theorem pa_79_5 : pz_at 79 5 = some (5, .ifCond .ne 16, 3, 21, 0, 0) := by decide +kernel
theorem pa_79_8 : pz_at 79 8 = some (8, .aload_n 1, 1, 0, 0, 0) := by decide +kernel
theorem pa_79_9 : pz_at 79 9 = some (9, .getfield 73, 3, 4, 6, 131) := by decide +kernel
theorem pr_79 : (pz_mi 79).2.2 = (some .boolean) := by decide +kernel
theorem pa_80_0 : pz_at 80 0 = some (0, .iload_n 2, 1, 0, 0, 0) := by decide +kernel
theorem pa_80_1 : pz_at 80 1 = some (1, .bipush (-10), 2, 0, 0, 0) := by decide +kernel
theorem pa_80_10 : pz_at 80 10 = some (10, .iconst 0, 1, 0, 0, 0) := by decide +kernel
theorem pa_80_11 : pz_at 80 11 = some (11, .istore_n 3, 1, 0, 0, 0) := by decide +kernel
theorem pa_80_12 : pz_at 80 12 = some (12, .aload_n 0, 1, 0, 0, 0) := by decide +kernel
theorem pa_80_13 : pz_at 80 13 = some (13, .getfield 9, 3, 5, 2, 214) := by decide +kernel
theorem pa_80_16 : pz_at 80 16 = some (16, .aload_n 0, 1, 0, 0, 0) := by decide +kernel
theorem pa_80_17 : pz_at 80 17 = some (17, .getfield 24, 3, 5, 0, 208) := by decide +kernel
theorem pa_80_20 : pz_at 80 20 = some (20, .iload_n 2, 1, 0, 0, 0) := by decide +kernel
theorem pa_80_21 : pz_at 80 21 = some (21, .iastore, 1, 0, 0, 0) := by decide +kernel
theorem pa_80_22 : pz_at 80 22 = some (22, .iconst 0, 1, 0, 0, 0) := by decide +kernel
theorem pa_80_23 : pz_at 80 23 = some (23, .istore 4, 2, 0, 0, 0) := by decide +kernel
theorem pa_80_25 : pz_at 80 25 = some (25, .iload 4, 2, 0, 0, 0) := by decide +kernel
theorem pa_80_27 : pz_at 80 27 = some (27, .bipush 16, 2, 0, 0, 0) := by decide +kernel
theorem pa_80_29 : pz_at 80 29 = some (29, .if_icmp .ge 43, 3, 72, 0, 0) := by decide +kernel
theorem pa_80_3 : pz_at 80 3 = some (3, .if_icmp .le 7, 3, 10, 0, 0) := by decide +kernel
theorem pa_80_32 : pz_at 80 32 = some (32, .aload_n 0, 1, 0, 0, 0) := by decide +kernel
theorem pa_80_33 : pz_at 80 33 = some (33, .getfield 15, 3, 5, 3, 217) := by decide +kernel
theorem pa_80_36 : pz_at 80 36 = some (36, .aload_n 0, 1, 0, 0, 0) := by decide +kernel
theorem pa_80_37 : pz_at 80 37 = some (37, .getfield 24, 3, 5, 0, 208) := by decide +kernel
theorem pa_80_40 : pz_at 80 40 = some (40, .bipush 16, 2, 0, 0, 0) := by decide +kernel
theorem pa_80_42 : pz_at 80 42 = some (42, .imul, 1, 0, 0, 0) := by decide +kernel
theorem pa_80_43 : pz_at 80 43 = some (43, .iload 4, 2, 0, 0, 0) := by decide +kernel
theorem pa_80_45 : pz_at 80 45 = some (45, .iadd, 1, 0, 0, 0) := by decide +kernel
theorem pa_80_46 : pz_at 80 46 = some (46, .iload_n 3, 1, 0, 0, 0) := by decide +kernel
theorem pa_80_47 : pz_at 80 47 = some (47, .ifCond .eq 17, 3, 64, 0, 0) := by decide +kernel
theorem pa_80_50 : pz_at 80 50 = some (50, .aload_n 1, 1, 0, 0, 0) := by decide +kernel
theorem pa_80_51 : pz_at 80 51 = some (51, .getfield 73, 3, 4, 6, 131) := by decide +kernel
theorem pa_80_54 : pz_at 80 54 = some (54, .iload 4, 2, 0, 0, 0) := by decide +kernel
theorem pa_80_56 : pz_at 80 56 = some (56, .baload, 1, 0, 0, 0) := by decide +kernel
theorem pa_80_57 : pz_at 80 57 = some (57, .ifCond .eq 7, 3, 64, 0, 0) := by decide +kernel
theorem pa_80_6 : pz_at 80 6 = some (6, .iconst 1, 1, 0, 0, 0) := by decide +kernel
theorem pa_80_60 : pz_at 80 60 = some (60, .iconst (-1), 1, 0, 0, 0) := by decide +kernel
theorem pa_80_61 : pz_at 80 61 = some (61, .goto 4, 3, 65, 0, 0) := by decide +kernel
theorem pa_80_64 : pz_at 80 64 = some (64, .iconst 0, 1, 0, 0, 0) := by decide +kernel
theorem pa_80_65 : pz_at 80 65 = some (65, .iastore, 1, 0, 0, 0) := by decide +kernel
theorem pa_80_66 : pz_at 80 66 = some (66, .iinc 4 1, 3, 0, 0, 0) := by decide +kernel
theorem pa_80_69 : pz_at 80 69 = some (69, .goto (-44), 3, 25, 0, 0) := by decide +kernel
theorem pa_80_7 : pz_at 80 7 = some (7, .goto 4, 3, 11, 0, 0) := by decide +kernel
theorem pa_80_72 : pz_at 80 72 = some (72, .aload_n 0, 1, 0, 0, 0) := by decide +kernel
theorem pa_80_73 : pz_at 80 73 = some (73, .dup, 1, 0, 0, 0) := by decide +kernel
theorem pa_80_74 : pz_at 80 74 = some (74, .getfield 24, 3, 5, 0, 208) := by decide +kernel
theorem pa_80_77 : pz_at 80 77 = some (77, .dup_x1, 1, 0, 0, 0) := by decide +kernel
theorem pa_80_78 : pz_at 80 78 = some (78, .iconst 1, 1, 0, 0, 0) := by decide +kernel
theorem pa_80_79 : pz_at 80 79 = some (79, .iadd, 1, 0, 0, 0) := by decide +kernel
theorem pa_80_80 : pz_at 80 80 = some (80, .putfield 24, 3, 5, 0, 208) := by decide +kernel
theorem pa_80_83 : pz_at 80 83 = some (83, .ireturn, 1, 0, 0, 0) := by decide +kernel
theorem pr_80 : (pz_mi 80).2.2 = (some .int) := by decide +kernel
theorem pa_81_0 : pz_at 81 0 = some (0, .aload_n 0, 1, 0, 0, 0) := by decide +kernel
theorem pa_81_1 : pz_at 81 1 = some (1, .getfield 28, 3, 5, 1, 211) := by decide +kernel
theorem pa_81_10 : pz_at 81 10 = some (10, .aload_n 0, 1, 0, 0, 0) := by decide +kernel
theorem pa_81_11 : pz_at 81 11 = some (11, .getfield 21, 3, 5, 5, 225) := by decide +kernel
theorem pa_81_14 : pz_at 81 14 = some (14, .aload_n 0, 1, 0, 0, 0) := by decide +kernel
theorem pa_81_15 : pz_at 81 15 = some (15, .getfield 28, 3, 5, 1, 211) := by decide +kernel
theorem pa_81_18 : pz_at 81 18 = some (18, .iload_n 1, 1, 0, 0, 0) := by decide +kernel
theorem pa_81_19 : pz_at 81 19 = some (19, .iastore, 1, 0, 0, 0) := by decide +kernel
theorem pa_81_20 : pz_at 81 20 = some (20, .aload_n 0, 1, 0, 0, 0) := by decide +kernel
theorem pa_81_21 : pz_at 81 21 = some (21, .dup, 1, 0, 0, 0) := by decide +kernel
theorem pa_81_22 : pz_at 81 22 = some (22, .getfield 28, 3, 5, 1, 211) := by decide +kernel
theorem pa_81_25 : pz_at 81 25 = some (25, .iconst 1, 1, 0, 0, 0) := by decide +kernel
theorem pa_81_26 : pz_at 81 26 = some (26, .iadd, 1, 0, 0, 0) := by decide +kernel
theorem pa_81_27 : pz_at 81 27 = some (27, .putfield 28, 3, 5, 1, 211) := by decide +kernel
theorem pa_81_30 : pz_at 81 30 = some (30, .return_, 1, 0, 0, 0) := by decide +kernel
theorem pa_81_4 : pz_at 81 4 = some (4, .sipush 200, 3, 0, 0, 0) := by decide +kernel
theorem pa_81_7 : pz_at 81 7 = some (7, .if_icmp .ge 13, 3, 20, 0, 0) := by decide +kernel
theorem pr_81 : (pz_mi 81).2.2 = none := by decide +kernel
theorem pa_82_0 : pz_at 82 0 = some (0, .iload_n 1, 1, 0, 0, 0) := by decide +kernel
theorem pa_82_1 : pz_at 82 1 = some (1, .iconst (-1), 1, 0, 0, 0) := by decide +kernel
theorem pa_82_10 : pz_at 82 10 = some (10, .invokevirtual 70, 3, 55, 1, 450) := by decide +kernel
theorem pa_82_13 : pz_at 82 13 = some (13, .ifCond .ne 5, 3, 18, 0, 0) := by decide +kernel
theorem pa_82_16 : pz_at 82 16 = some (16, .iconst (-1), 1, 0, 0, 0) := by decide +kernel
theorem pa_82_17 : pz_at 82 17 = some (17, .ireturn, 1, 0, 0, 0) := by decide +kernel
theorem pa_82_18 : pz_at 82 18 = some (18, .aload_n 0, 1, 0, 0, 0) := by decide +kernel
theorem pa_82_19 : pz_at 82 19 = some (19, .getfield 10, 3, 6, 0, 412) := by decide +kernel
theorem pa_82_2 : pz_at 82 2 = some (2, .if_icmp .eq 16, 3, 18, 0, 0) := by decide +kernel
theorem pa_82_22 : pz_at 82 22 = some (22, .getfield 74, 3, 4, 0, 117) := by decide +kernel
theorem pa_82_25 : pz_at 82 25 = some (25, .bipush 8, 2, 0, 0, 0) := by decide +kernel
theorem pa_82_27 : pz_at 82 27 = some (27, .if_icmp .lt 6, 3, 33, 0, 0) := by decide +kernel
theorem pa_82_30 : pz_at 82 30 = some (30, .bipush (-3), 2, 0, 0, 0) := by decide +kernel
theorem pa_82_32 : pz_at 82 32 = some (32, .ireturn, 1, 0, 0, 0) := by decide +kernel
theorem pa_82_33 : pz_at 82 33 = some (33, .aload_n 0, 1, 0, 0, 0) := by decide +kernel
theorem pa_82_34 : pz_at 82 34 = some (34, .iconst 0, 1, 0, 0, 0) := by decide +kernel
theorem pa_82_35 : pz_at 82 35 = some (35, .putfield 78, 3, 6, 10, 422) := by decide +kernel
theorem pa_82_38 : pz_at 82 38 = some (38, .aload_n 0, 1, 0, 0, 0) := by decide +kernel
theorem pa_82_39 : pz_at 82 39 = some (39, .getfield 10, 3, 6, 0, 412) := by decide +kernel
theorem pa_82_42 : pz_at 82 42 = some (42, .iload_n 1, 1, 0, 0, 0) := by decide +kernel
theorem pa_82_43 : pz_at 82 43 = some (43, .invokevirtual 82, 3, 59, 1, 454) := by decide +kernel
theorem pa_82_46 : pz_at 82 46 = some (46, .ireturn, 1, 0, 0, 0) := by decide +kernel
theorem pa_82_5 : pz_at 82 5 = some (5, .aload_n 0, 1, 0, 0, 0) := by decide +kernel
theorem pa_82_6 : pz_at 82 6 = some (6, .getfield 10, 3, 6, 0, 412) := by decide +kernel
theorem pa_82_9 : pz_at 82 9 = some (9, .iload_n 1, 1, 0, 0, 0) := by decide +kernel
theorem pf_0_6_0 : pz_gf 0 6 0 = some (some 1) := by decide +kernel
theorem pf_0_6_10 : pz_gf 0 6 10 = some none := by decide +kernel
theorem pm_59 : pz_mi 59 = (4, 3, (some .int)) := by decide +kernel
theorem pr_82 : (pz_mi 82).2.2 = (some .int) := by decide +kernel
theorem pa_83_0 : pz_at 83 0 = some (0, .aload_n 0, 1, 0, 0, 0) := by decide +kernel
theorem pa_83_1 : pz_at 83 1 = some (1, .getfield 10, 3, 6, 0, 412) := by decide +kernel
theorem pa_83_11 : pz_at 83 11 = some (11, .iconst (-1), 1, 0, 0, 0) := by decide +kernel
theorem pa_83_12 : pz_at 83 12 = some (12, .ireturn, 1, 0, 0, 0) := by decide +kernel
theorem pa_83_13 : pz_at 83 13 = some (13, .aload_n 0, 1, 0, 0, 0) := by decide +kernel
theorem pa_83_14 : pz_at 83 14 = some (14, .getfield 10, 3, 6, 0, 412) := by decide +kernel
theorem pa_83_17 : pz_at 83 17 = some (17, .getfield 86, 3, 4, 1, 118) := by decide +kernel
theorem pa_83_20 : pz_at 83 20 = some (20, .bipush 16, 2, 0, 0, 0) := by decide +kernel
theorem pa_83_22 : pz_at 83 22 = some (22, .if_icmp .lt 6, 3, 28, 0, 0) := by decide +kernel
theorem pa_83_25 : pz_at 83 25 = some (25, .bipush (-3), 2, 0, 0, 0) := by decide +kernel
theorem pa_83_27 : pz_at 83 27 = some (27, .ireturn, 1, 0, 0, 0) := by decide +kernel
theorem pa_83_28 : pz_at 83 28 = some (28, .aload_n 0, 1, 0, 0, 0) := by decide +kernel
theorem pa_83_29 : pz_at 83 29 = some (29, .getfield 19, 3, 6, 1, 413) := by decide +kernel
theorem pa_83_32 : pz_at 83 32 = some (32, .aload_n 0, 1, 0, 0, 0) := by decide +kernel
theorem pa_83_33 : pz_at 83 33 = some (33, .getfield 10, 3, 6, 0, 412) := by decide +kernel
theorem pa_83_36 : pz_at 83 36 = some (36, .iload_n 1, 1, 0, 0, 0) := by decide +kernel
theorem pa_83_37 : pz_at 83 37 = some (37, .invokevirtual 89, 3, 77, 2, 462) := by decide +kernel
theorem pa_83_4 : pz_at 83 4 = some (4, .iload_n 1, 1, 0, 0, 0) := by decide +kernel
theorem pa_83_40 : pz_at 83 40 = some (40, .ifCond .eq 6, 3, 46, 0, 0) := by decide +kernel
theorem pa_83_43 : pz_at 83 43 = some (43, .bipush (-2), 2, 0, 0, 0) := by decide +kernel
theorem pa_83_45 : pz_at 83 45 = some (45, .ireturn, 1, 0, 0, 0) := by decide +kernel
theorem pa_83_46 : pz_at 83 46 = some (46, .aload_n 0, 1, 0, 0, 0) := by decide +kernel
theorem pa_83_47 : pz_at 83 47 = some (47, .iconst 0, 1, 0, 0, 0) := by decide +kernel
theorem pa_83_48 : pz_at 83 48 = some (48, .putfield 78, 3, 6, 10, 422) := by decide +kernel
theorem pa_83_5 : pz_at 83 5 = some (5, .invokevirtual 70, 3, 55, 1, 450) := by decide +kernel
theorem pa_83_51 : pz_at 83 51 = some (51, .aload_n 0, 1, 0, 0, 0) := by decide +kernel
theorem pa_83_52 : pz_at 83 52 = some (52, .getfield 10, 3, 6, 0, 412) := by decide +kernel
theorem pa_83_55 : pz_at 83 55 = some (55, .iload_n 1, 1, 0, 0, 0) := by decide +kernel
theorem pa_83_56 : pz_at 83 56 = some (56, .iload_n 2, 1, 0, 0, 0) := by decide +kernel
theorem pa_83_57 : pz_at 83 57 = some (57, .invokevirtual 93, 3, 60, 2, 478) := by decide +kernel
theorem pa_83_60 : pz_at 83 60 = some (60, .ireturn, 1, 0, 0, 0) := by decide +kernel
theorem pa_83_8 : pz_at 83 8 = some (8, .ifCond .ne 5, 3, 13, 0, 0) := by decide +kernel
theorem pf_0_6_1 : pz_gf 0 6 1 = some (some 16) := by decide +kernel
theorem pm_60 : pz_mi 60 = (4, 4, (some .int)) := by decide +kernel
theorem pm_77 : pz_mi 77 = (5, 4, (some .boolean)) := by decide +kernel
theorem pr_83 : (pz_mi 83).2.2 = (some .int) := by decide +kernel
theorem pa_84_0 : pz_at 84 0 = some (0, .aload_n 0, 1, 0, 0, 0) := by decide +kernel
theorem pa_84_1 : pz_at 84 1 = some (1, .getfield 10, 3, 6, 0, 412) := by decide +kernel
theorem pa_84_12 : pz_at 84 12 = some (12, .bipush (-3), 2, 0, 0, 0) := by decide +kernel
theorem pa_84_14 : pz_at 84 14 = some (14, .ireturn, 1, 0, 0, 0) := by decide +kernel
theorem pa_84_15 : pz_at 84 15 = some (15, .aload_n 0, 1, 0, 0, 0) := by decide +kernel
theorem pa_84_16 : pz_at 84 16 = some (16, .iconst 0, 1, 0, 0, 0) := by decide +kernel
theorem pa_84_17 : pz_at 84 17 = some (17, .putfield 78, 3, 6, 10, 422) := by decide +kernel
theorem pa_84_20 : pz_at 84 20 = some (20, .aload_n 0, 1, 0, 0, 0) := by decide +kernel
theorem pa_84_21 : pz_at 84 21 = some (21, .getfield 19, 3, 6, 1, 413) := by decide +kernel
theorem pa_84_24 : pz_at 84 24 = some (24, .getfield 100, 3, 5, 4, 222) := by decide +kernel
theorem pa_84_27 : pz_at 84 27 = some (27, .aload_n 0, 1, 0, 0, 0) := by decide +kernel
theorem pa_84_28 : pz_at 84 28 = some (28, .getfield 10, 3, 6, 0, 412) := by decide +kernel
theorem pa_84_31 : pz_at 84 31 = some (31, .getfield 97, 3, 4, 2, 122) := by decide +kernel
theorem pa_84_34 : pz_at 84 34 = some (34, .iload_n 1, 1, 0, 0, 0) := by decide +kernel
theorem pa_84_35 : pz_at 84 35 = some (35, .ifCond .eq 7, 3, 42, 0, 0) := by decide +kernel
theorem pa_84_38 : pz_at 84 38 = some (38, .iconst (-1), 1, 0, 0, 0) := by decide +kernel
theorem pa_84_39 : pz_at 84 39 = some (39, .goto 4, 3, 43, 0, 0) := by decide +kernel
theorem pa_84_4 : pz_at 84 4 = some (4, .getfield 97, 3, 4, 2, 122) := by decide +kernel
theorem pa_84_42 : pz_at 84 42 = some (42, .iconst 0, 1, 0, 0, 0) := by decide +kernel
theorem pa_84_43 : pz_at 84 43 = some (43, .iastore, 1, 0, 0, 0) := by decide +kernel
theorem pa_84_44 : pz_at 84 44 = some (44, .aload_n 0, 1, 0, 0, 0) := by decide +kernel
theorem pa_84_45 : pz_at 84 45 = some (45, .getfield 10, 3, 6, 0, 412) := by decide +kernel
theorem pa_84_48 : pz_at 84 48 = some (48, .iload_n 1, 1, 0, 0, 0) := by decide +kernel
theorem pa_84_49 : pz_at 84 49 = some (49, .invokevirtual 102, 3, 61, 1, 487) := by decide +kernel
theorem pa_84_52 : pz_at 84 52 = some (52, .ireturn, 1, 0, 0, 0) := by decide +kernel
theorem pa_84_7 : pz_at 84 7 = some (7, .bipush 8, 2, 0, 0, 0) := by decide +kernel
theorem pa_84_9 : pz_at 84 9 = some (9, .if_icmp .lt 6, 3, 15, 0, 0) := by decide +kernel
theorem pm_61 : pz_mi 61 = (4, 2, (some .int)) := by decide +kernel
theorem pr_84 : (pz_mi 84).2.2 = (some .int) := by decide +kernel
theorem pa_85_0 : pz_at 85 0 = some (0, .iload_n 1, 1, 0, 0, 0) := by decide +kernel
theorem pa_85_1 : pz_at 85 1 = some (1, .ifCond .lt 26, 3, 27, 0, 0) := by decide +kernel
theorem pa_85_10 : pz_at 85 10 = some (10, .ifCond .lt 17, 3, 27, 0, 0) := by decide +kernel
theorem pa_85_13 : pz_at 85 13 = some (13, .iload_n 2, 1, 0, 0, 0) := by decide +kernel
theorem pa_85_14 : pz_at 85 14 = some (14, .iconst 3, 1, 0, 0, 0) := by decide +kernel
theorem pa_85_15 : pz_at 85 15 = some (15, .if_icmp .gt 12, 3, 27, 0, 0) := by decide +kernel
theorem pa_85_18 : pz_at 85 18 = some (18, .iload_n 3, 1, 0, 0, 0) := by decide +kernel
theorem pa_85_19 : pz_at 85 19 = some (19, .ifCond .lt 8, 3, 27, 0, 0) := by decide +kernel
theorem pa_85_22 : pz_at 85 22 = some (22, .iload_n 3, 1, 0, 0, 0) := by decide +kernel
theorem pa_85_23 : pz_at 85 23 = some (23, .iconst 2, 1, 0, 0, 0) := by decide +kernel
theorem pa_85_24 : pz_at 85 24 = some (24, .if_icmp .le 6, 3, 30, 0, 0) := by decide +kernel
theorem pa_85_27 : pz_at 85 27 = some (27, .bipush (-2), 2, 0, 0, 0) := by decide +kernel
theorem pa_85_29 : pz_at 85 29 = some (29, .ireturn, 1, 0, 0, 0) := by decide +kernel
theorem pa_85_30 : pz_at 85 30 = some (30, .aload_n 0, 1, 0, 0, 0) := by decide +kernel
theorem pa_85_31 : pz_at 85 31 = some (31, .getfield 10, 3, 6, 0, 412) := by decide +kernel
theorem pa_85_34 : pz_at 85 34 = some (34, .getfield 106, 3, 4, 3, 125) := by decide +kernel
theorem pa_85_37 : pz_at 85 37 = some (37, .bipush 10, 2, 0, 0, 0) := by decide +kernel
theorem pa_85_39 : pz_at 85 39 = some (39, .if_icmp .lt 6, 3, 45, 0, 0) := by decide +kernel
theorem pa_85_4 : pz_at 85 4 = some (4, .iload_n 1, 1, 0, 0, 0) := by decide +kernel
theorem pa_85_42 : pz_at 85 42 = some (42, .bipush (-3), 2, 0, 0, 0) := by decide +kernel
theorem pa_85_44 : pz_at 85 44 = some (44, .ireturn, 1, 0, 0, 0) := by decide +kernel
theorem pa_85_45 : pz_at 85 45 = some (45, .aload_n 0, 1, 0, 0, 0) := by decide +kernel
theorem pa_85_46 : pz_at 85 46 = some (46, .iconst 0, 1, 0, 0, 0) := by decide +kernel
theorem pa_85_47 : pz_at 85 47 = some (47, .putfield 78, 3, 6, 10, 422) := by decide +kernel
theorem pa_85_5 : pz_at 85 5 = some (5, .iconst 3, 1, 0, 0, 0) := by decide +kernel
theorem pa_85_50 : pz_at 85 50 = some (50, .aload_n 0, 1, 0, 0, 0) := by decide +kernel
theorem pa_85_51 : pz_at 85 51 = some (51, .getfield 10, 3, 6, 0, 412) := by decide +kernel
theorem pa_85_54 : pz_at 85 54 = some (54, .iload_n 1, 1, 0, 0, 0) := by decide +kernel
theorem pa_85_55 : pz_at 85 55 = some (55, .iload_n 2, 1, 0, 0, 0) := by decide +kernel
theorem pa_85_56 : pz_at 85 56 = some (56, .iload_n 3, 1, 0, 0, 0) := by decide +kernel
theorem pa_85_57 : pz_at 85 57 = some (57, .invokevirtual 109, 3, 62, 3, 495) := by decide +kernel
theorem pa_85_6 : pz_at 85 6 = some (6, .if_icmp .gt 21, 3, 27, 0, 0) := by decide +kernel
theorem pa_85_60 : pz_at 85 60 = some (60, .ireturn, 1, 0, 0, 0) := by decide +kernel
theorem pa_85_9 : pz_at 85 9 = some (9, .iload_n 2, 1, 0, 0, 0) := by decide +kernel
theorem pm_62 : pz_mi 62 = (4, 4, (some .int)) := by decide +kernel
theorem pr_85 : (pz_mi 85).2.2 = (some .int) := by decide +kernel
theorem pa_86_0 : pz_at 86 0 = some (0, .aload_n 0, 1, 0, 0, 0) := by decide +kernel
theorem pa_86_1 : pz_at 86 1 = some (1, .getfield 10, 3, 6, 0, 412) := by decide +kernel
theorem pa_86_11 : pz_at 86 11 = some (11, .iconst (-1), 1, 0, 0, 0) := by decide +kernel
theorem pa_86_12 : pz_at 86 12 = some (12, .ireturn, 1, 0, 0, 0) := by decide +kernel
theorem pa_86_13 : pz_at 86 13 = some (13, .aload_n 0, 1, 0, 0, 0) := by decide +kernel
theorem pa_86_14 : pz_at 86 14 = some (14, .getfield 10, 3, 6, 0, 412) := by decide +kernel
theorem pa_86_17 : pz_at 86 17 = some (17, .iload_n 1, 1, 0, 0, 0) := by decide +kernel
theorem pa_86_18 : pz_at 86 18 = some (18, .iload_n 2, 1, 0, 0, 0) := by decide +kernel
theorem pa_86_19 : pz_at 86 19 = some (19, .iload_n 3, 1, 0, 0, 0) := by decide +kernel
theorem pa_86_20 : pz_at 86 20 = some (20, .iload 4, 2, 0, 0, 0) := by decide +kernel
theorem pa_86_22 : pz_at 86 22 = some (22, .iload 5, 2, 0, 0, 0) := by decide +kernel
theorem pa_86_24 : pz_at 86 24 = some (24, .invokevirtual 116, 3, 66, 5, 507) := by decide +kernel
theorem pa_86_27 : pz_at 86 27 = some (27, .ifCond .ne 6, 3, 33, 0, 0) := by decide +kernel
theorem pa_86_30 : pz_at 86 30 = some (30, .bipush (-2), 2, 0, 0, 0) := by decide +kernel
theorem pa_86_32 : pz_at 86 32 = some (32, .ireturn, 1, 0, 0, 0) := by decide +kernel
theorem pa_86_33 : pz_at 86 33 = some (33, .aload_n 0, 1, 0, 0, 0) := by decide +kernel
theorem pa_86_34 : pz_at 86 34 = some (34, .getfield 10, 3, 6, 0, 412) := by decide +kernel
theorem pa_86_37 : pz_at 86 37 = some (37, .getfield 120, 3, 4, 11, 145) := by decide +kernel
theorem pa_86_4 : pz_at 86 4 = some (4, .iload_n 1, 1, 0, 0, 0) := by decide +kernel
theorem pa_86_40 : pz_at 86 40 = some (40, .iload_n 1, 1, 0, 0, 0) := by decide +kernel
theorem pa_86_41 : pz_at 86 41 = some (41, .iaload, 1, 0, 0, 0) := by decide +kernel
theorem pa_86_42 : pz_at 86 42 = some (42, .bipush 24, 2, 0, 0, 0) := by decide +kernel
theorem pa_86_44 : pz_at 86 44 = some (44, .if_icmp .lt 6, 3, 50, 0, 0) := by decide +kernel
theorem pa_86_47 : pz_at 86 47 = some (47, .bipush (-3), 2, 0, 0, 0) := by decide +kernel
theorem pa_86_49 : pz_at 86 49 = some (49, .ireturn, 1, 0, 0, 0) := by decide +kernel
theorem pa_86_5 : pz_at 86 5 = some (5, .invokevirtual 113, 3, 57, 1, 503) := by decide +kernel
theorem pa_86_50 : pz_at 86 50 = some (50, .aload_n 0, 1, 0, 0, 0) := by decide +kernel
theorem pa_86_51 : pz_at 86 51 = some (51, .iconst 0, 1, 0, 0, 0) := by decide +kernel
theorem pa_86_52 : pz_at 86 52 = some (52, .putfield 78, 3, 6, 10, 422) := by decide +kernel
theorem pa_86_55 : pz_at 86 55 = some (55, .aload_n 0, 1, 0, 0, 0) := by decide +kernel
theorem pa_86_56 : pz_at 86 56 = some (56, .getfield 10, 3, 6, 0, 412) := by decide +kernel
theorem pa_86_59 : pz_at 86 59 = some (59, .iload_n 1, 1, 0, 0, 0) := by decide +kernel
theorem pa_86_60 : pz_at 86 60 = some (60, .iload_n 2, 1, 0, 0, 0) := by decide +kernel
theorem pa_86_61 : pz_at 86 61 = some (61, .iload_n 3, 1, 0, 0, 0) := by decide +kernel
theorem pa_86_62 : pz_at 86 62 = some (62, .iload 4, 2, 0, 0, 0) := by decide +kernel
theorem pa_86_64 : pz_at 86 64 = some (64, .iload 5, 2, 0, 0, 0) := by decide +kernel
theorem pa_86_66 : pz_at 86 66 = some (66, .invokevirtual 123, 3, 63, 5, 531) := by decide +kernel
theorem pa_86_69 : pz_at 86 69 = some (69, .ireturn, 1, 0, 0, 0) := by decide +kernel
theorem pa_86_8 : pz_at 86 8 = some (8, .ifCond .ne 5, 3, 13, 0, 0) := by decide +kernel
theorem pm_63 : pz_mi 63 = (4, 7, (some .int)) := by decide +kernel
theorem pm_66 : pz_mi 66 = (4, 7, (some .boolean)) := by decide +kernel
theorem pr_86 : (pz_mi 86).2.2 = (some .int) := by decide +kernel
theorem pa_87_0 : pz_at 87 0 = some (0, .aload_n 0, 1, 0, 0, 0) := by decide +kernel
theorem pa_87_1 : pz_at 87 1 = some (1, .getfield 10, 3, 6, 0, 412) := by decide +kernel
theorem pa_87_11 : pz_at 87 11 = some (11, .iconst (-1), 1, 0, 0, 0) := by decide +kernel
theorem pa_87_12 : pz_at 87 12 = some (12, .ireturn, 1, 0, 0, 0) := by decide +kernel
theorem pa_87_13 : pz_at 87 13 = some (13, .iload_n 2, 1, 0, 0, 0) := by decide +kernel
theorem pa_87_14 : pz_at 87 14 = some (14, .ifCond .lt 38, 3, 52, 0, 0) := by decide +kernel
theorem pa_87_17 : pz_at 87 17 = some (17, .iload_n 2, 1, 0, 0, 0) := by decide +kernel
theorem pa_87_18 : pz_at 87 18 = some (18, .iload_n 3, 1, 0, 0, 0) := by decide +kernel
theorem pa_87_19 : pz_at 87 19 = some (19, .if_icmp .ge 33, 3, 52, 0, 0) := by decide +kernel
theorem pa_87_22 : pz_at 87 22 = some (22, .iload_n 3, 1, 0, 0, 0) := by decide +kernel
theorem pa_87_23 : pz_at 87 23 = some (23, .bipush 24, 2, 0, 0, 0) := by decide +kernel
theorem pa_87_25 : pz_at 87 25 = some (25, .if_icmp .gt 27, 3, 52, 0, 0) := by decide +kernel
theorem pa_87_28 : pz_at 87 28 = some (28, .iload 4, 2, 0, 0, 0) := by decide +kernel
theorem pa_87_30 : pz_at 87 30 = some (30, .ifCond .lt 22, 3, 52, 0, 0) := by decide +kernel
theorem pa_87_33 : pz_at 87 33 = some (33, .iload 4, 2, 0, 0, 0) := by decide +kernel
theorem pa_87_35 : pz_at 87 35 = some (35, .bipush 9, 2, 0, 0, 0) := by decide +kernel
theorem pa_87_37 : pz_at 87 37 = some (37, .if_icmp .gt 15, 3, 52, 0, 0) := by decide +kernel
theorem pa_87_4 : pz_at 87 4 = some (4, .iload_n 1, 1, 0, 0, 0) := by decide +kernel
theorem pa_87_40 : pz_at 87 40 = some (40, .iload 5, 2, 0, 0, 0) := by decide +kernel
theorem pa_87_42 : pz_at 87 42 = some (42, .ifCond .lt 10, 3, 52, 0, 0) := by decide +kernel
theorem pa_87_45 : pz_at 87 45 = some (45, .iload 5, 2, 0, 0, 0) := by decide +kernel
theorem pa_87_47 : pz_at 87 47 = some (47, .bipush 24, 2, 0, 0, 0) := by decide +kernel
theorem pa_87_49 : pz_at 87 49 = some (49, .if_icmp .le 6, 3, 55, 0, 0) := by decide +kernel
theorem pa_87_5 : pz_at 87 5 = some (5, .invokevirtual 113, 3, 57, 1, 503) := by decide +kernel
theorem pa_87_52 : pz_at 87 52 = some (52, .bipush (-2), 2, 0, 0, 0) := by decide +kernel
theorem pa_87_54 : pz_at 87 54 = some (54, .ireturn, 1, 0, 0, 0) := by decide +kernel
theorem pa_87_55 : pz_at 87 55 = some (55, .aload_n 0, 1, 0, 0, 0) := by decide +kernel
theorem pa_87_56 : pz_at 87 56 = some (56, .getfield 10, 3, 6, 0, 412) := by decide +kernel
theorem pa_87_59 : pz_at 87 59 = some (59, .getfield 127, 3, 4, 16, 161) := by decide +kernel
theorem pa_87_62 : pz_at 87 62 = some (62, .iload_n 1, 1, 0, 0, 0) := by decide +kernel
theorem pa_87_63 : pz_at 87 63 = some (63, .iaload, 1, 0, 0, 0) := by decide +kernel
theorem pa_87_64 : pz_at 87 64 = some (64, .iconst 4, 1, 0, 0, 0) := by decide +kernel
theorem pa_87_65 : pz_at 87 65 = some (65, .if_icmp .lt 6, 3, 71, 0, 0) := by decide +kernel
theorem pa_87_68 : pz_at 87 68 = some (68, .bipush (-3), 2, 0, 0, 0) := by decide +kernel
theorem pa_87_70 : pz_at 87 70 = some (70, .ireturn, 1, 0, 0, 0) := by decide +kernel
theorem pa_87_71 : pz_at 87 71 = some (71, .aload_n 0, 1, 0, 0, 0) := by decide +kernel
theorem pa_87_72 : pz_at 87 72 = some (72, .iconst 0, 1, 0, 0, 0) := by decide +kernel
theorem pa_87_73 : pz_at 87 73 = some (73, .putfield 78, 3, 6, 10, 422) := by decide +kernel
theorem pa_87_76 : pz_at 87 76 = some (76, .aload_n 0, 1, 0, 0, 0) := by decide +kernel
theorem pa_87_77 : pz_at 87 77 = some (77, .getfield 10, 3, 6, 0, 412) := by decide +kernel
theorem pa_87_8 : pz_at 87 8 = some (8, .ifCond .ne 5, 3, 13, 0, 0) := by decide +kernel
theorem pa_87_80 : pz_at 87 80 = some (80, .iload_n 1, 1, 0, 0, 0) := by decide +kernel
theorem pa_87_81 : pz_at 87 81 = some (81, .iload_n 2, 1, 0, 0, 0) := by decide +kernel
theorem pa_87_82 : pz_at 87 82 = some (82, .iload_n 3, 1, 0, 0, 0) := by decide +kernel
theorem pa_87_83 : pz_at 87 83 = some (83, .iload 4, 2, 0, 0, 0) := by decide +kernel
theorem pa_87_85 : pz_at 87 85 = some (85, .iload 5, 2, 0, 0, 0) := by decide +kernel
theorem pa_87_87 : pz_at 87 87 = some (87, .invokevirtual 130, 3, 64, 5, 539) := by decide +kernel
theorem pa_87_90 : pz_at 87 90 = some (90, .ireturn, 1, 0, 0, 0) := by decide +kernel
theorem pm_64 : pz_mi 64 = (4, 7, (some .int)) := by decide +kernel
theorem pr_87 : (pz_mi 87).2.2 = (some .int) := by decide +kernel
theorem pa_88_0 : pz_at 88 0 = some (0, .aload_n 0, 1, 0, 0, 0) := by decide +kernel
theorem pa_88_1 : pz_at 88 1 = some (1, .getfield 10, 3, 6, 0, 412) := by decide +kernel
theorem pa_88_11 : pz_at 88 11 = some (11, .iconst (-1), 1, 0, 0, 0) := by decide +kernel
theorem pa_88_12 : pz_at 88 12 = some (12, .ireturn, 1, 0, 0, 0) := by decide +kernel
theorem pa_88_13 : pz_at 88 13 = some (13, .aload_n 0, 1, 0, 0, 0) := by decide +kernel
theorem pa_88_14 : pz_at 88 14 = some (14, .getfield 19, 3, 6, 1, 413) := by decide +kernel
theorem pa_88_17 : pz_at 88 17 = some (17, .getfield 133, 3, 5, 0, 210) := by decide +kernel
theorem pa_88_20 : pz_at 88 20 = some (20, .bipush 60, 2, 0, 0, 0) := by decide +kernel
theorem pa_88_22 : pz_at 88 22 = some (22, .if_icmp .lt 8, 3, 30, 0, 0) := by decide +kernel
theorem pa_88_25 : pz_at 88 25 = some (25, .bipush (-3), 2, 0, 0, 0) := by decide +kernel
theorem pa_88_27 : pz_at 88 27 = some (27, .goto 15, 3, 42, 0, 0) := by decide +kernel
theorem pa_88_30 : pz_at 88 30 = some (30, .aload_n 0, 1, 0, 0, 0) := by decide +kernel
theorem pa_88_31 : pz_at 88 31 = some (31, .getfield 19, 3, 6, 1, 413) := by decide +kernel
theorem pa_88_34 : pz_at 88 34 = some (34, .aload_n 0, 1, 0, 0, 0) := by decide +kernel
theorem pa_88_35 : pz_at 88 35 = some (35, .getfield 10, 3, 6, 0, 412) := by decide +kernel
theorem pa_88_38 : pz_at 88 38 = some (38, .iload_n 1, 1, 0, 0, 0) := by decide +kernel
theorem pa_88_39 : pz_at 88 39 = some (39, .invokevirtual 136, 3, 80, 2, 547) := by decide +kernel
theorem pa_88_4 : pz_at 88 4 = some (4, .iload_n 1, 1, 0, 0, 0) := by decide +kernel
theorem pa_88_42 : pz_at 88 42 = some (42, .ireturn, 1, 0, 0, 0) := by decide +kernel
theorem pa_88_5 : pz_at 88 5 = some (5, .invokevirtual 70, 3, 55, 1, 450) := by decide +kernel
theorem pa_88_8 : pz_at 88 8 = some (8, .ifCond .ne 5, 3, 13, 0, 0) := by decide +kernel
theorem pr_88 : (pz_mi 88).2.2 = (some .int) := by decide +kernel
theorem pa_89_0 : pz_at 89 0 = some (0, .iload_n 1, 1, 0, 0, 0) := by decide +kernel
theorem pa_89_1 : pz_at 89 1 = some (1, .ifCond .lt 9, 3, 10, 0, 0) := by decide +kernel
theorem pa_89_10 : pz_at 89 10 = some (10, .bipush (-2), 2, 0, 0, 0) := by decide +kernel
theorem pa_89_12 : pz_at 89 12 = some (12, .ireturn, 1, 0, 0, 0) := by decide +kernel
theorem pa_89_13 : pz_at 89 13 = some (13, .aload_n 0, 1, 0, 0, 0) := by decide +kernel
theorem pa_89_14 : pz_at 89 14 = some (14, .getfield 19, 3, 6, 1, 413) := by decide +kernel
theorem pa_89_17 : pz_at 89 17 = some (17, .getfield 133, 3, 5, 0, 210) := by decide +kernel
theorem pa_89_20 : pz_at 89 20 = some (20, .bipush 60, 2, 0, 0, 0) := by decide +kernel
theorem pa_89_22 : pz_at 89 22 = some (22, .if_icmp .lt 8, 3, 30, 0, 0) := by decide +kernel
theorem pa_89_25 : pz_at 89 25 = some (25, .bipush (-3), 2, 0, 0, 0) := by decide +kernel
theorem pa_89_27 : pz_at 89 27 = some (27, .goto 18, 3, 45, 0, 0) := by decide +kernel
theorem pa_89_30 : pz_at 89 30 = some (30, .aload_n 0, 1, 0, 0, 0) := by decide +kernel
theorem pa_89_31 : pz_at 89 31 = some (31, .getfield 19, 3, 6, 1, 413) := by decide +kernel
theorem pa_89_34 : pz_at 89 34 = some (34, .aload_n 0, 1, 0, 0, 0) := by decide +kernel
theorem pa_89_35 : pz_at 89 35 = some (35, .getfield 10, 3, 6, 0, 412) := by decide +kernel
theorem pa_89_38 : pz_at 89 38 = some (38, .bipush (-10), 2, 0, 0, 0) := by decide +kernel
theorem pa_89_4 : pz_at 89 4 = some (4, .iload_n 1, 1, 0, 0, 0) := by decide +kernel
theorem pa_89_40 : pz_at 89 40 = some (40, .iload_n 1, 1, 0, 0, 0) := by decide +kernel
theorem pa_89_41 : pz_at 89 41 = some (41, .isub, 1, 0, 0, 0) := by decide +kernel
theorem pa_89_42 : pz_at 89 42 = some (42, .invokevirtual 136, 3, 80, 2, 547) := by decide +kernel
theorem pa_89_45 : pz_at 89 45 = some (45, .ireturn, 1, 0, 0, 0) := by decide +kernel
theorem pa_89_5 : pz_at 89 5 = some (5, .bipush 16, 2, 0, 0, 0) := by decide +kernel
theorem pa_89_7 : pz_at 89 7 = some (7, .if_icmp .le 6, 3, 13, 0, 0) := by decide +kernel
theorem pr_89 : (pz_mi 89).2.2 = (some .int) := by decide +kernel
theorem pa_90_0 : pz_at 90 0 = some (0, .aload_n 0, 1, 0, 0, 0) := by decide +kernel
theorem pa_90_1 : pz_at 90 1 = some (1, .getfield 19, 3, 6, 1, 413) := by decide +kernel
theorem pa_90_10 : pz_at 90 10 = some (10, .invokevirtual 140, 3, 78, 3, 559) := by decide +kernel
theorem pa_90_13 : pz_at 90 13 = some (13, .ifCond .ne 5, 3, 18, 0, 0) := by decide +kernel
theorem pa_90_16 : pz_at 90 16 = some (16, .iconst (-1), 1, 0, 0, 0) := by decide +kernel
theorem pa_90_17 : pz_at 90 17 = some (17, .ireturn, 1, 0, 0, 0) := by decide +kernel
theorem pa_90_18 : pz_at 90 18 = some (18, .aload_n 0, 1, 0, 0, 0) := by decide +kernel
theorem pa_90_19 : pz_at 90 19 = some (19, .getfield 19, 3, 6, 1, 413) := by decide +kernel
theorem pa_90_22 : pz_at 90 22 = some (22, .aload_n 0, 1, 0, 0, 0) := by decide +kernel
theorem pa_90_23 : pz_at 90 23 = some (23, .getfield 10, 3, 6, 0, 412) := by decide +kernel
theorem pa_90_26 : pz_at 90 26 = some (26, .iload_n 1, 1, 0, 0, 0) := by decide +kernel
theorem pa_90_27 : pz_at 90 27 = some (27, .iload_n 2, 1, 0, 0, 0) := by decide +kernel
theorem pa_90_28 : pz_at 90 28 = some (28, .invokevirtual 144, 3, 79, 3, 575) := by decide +kernel
theorem pa_90_31 : pz_at 90 31 = some (31, .ifCond .eq 16, 3, 47, 0, 0) := by decide +kernel
theorem pa_90_34 : pz_at 90 34 = some (34, .aload_n 0, 1, 0, 0, 0) := by decide +kernel
theorem pa_90_35 : pz_at 90 35 = some (35, .getfield 19, 3, 6, 1, 413) := by decide +kernel
theorem pa_90_38 : pz_at 90 38 = some (38, .iload_n 3, 1, 0, 0, 0) := by decide +kernel
theorem pa_90_39 : pz_at 90 39 = some (39, .invokevirtual 147, 3, 72, 1, 579) := by decide +kernel
theorem pa_90_4 : pz_at 90 4 = some (4, .aload_n 0, 1, 0, 0, 0) := by decide +kernel
theorem pa_90_42 : pz_at 90 42 = some (42, .ifCond .ne 5, 3, 47, 0, 0) := by decide +kernel
theorem pa_90_45 : pz_at 90 45 = some (45, .iconst (-1), 1, 0, 0, 0) := by decide +kernel
theorem pa_90_46 : pz_at 90 46 = some (46, .ireturn, 1, 0, 0, 0) := by decide +kernel
theorem pa_90_47 : pz_at 90 47 = some (47, .aload_n 0, 1, 0, 0, 0) := by decide +kernel
theorem pa_90_48 : pz_at 90 48 = some (48, .getfield 19, 3, 6, 1, 413) := by decide +kernel
theorem pa_90_5 : pz_at 90 5 = some (5, .getfield 10, 3, 6, 0, 412) := by decide +kernel
theorem pa_90_51 : pz_at 90 51 = some (51, .getfield 150, 3, 5, 3, 219) := by decide +kernel
theorem pa_90_54 : pz_at 90 54 = some (54, .iload_n 1, 1, 0, 0, 0) := by decide +kernel
theorem pa_90_55 : pz_at 90 55 = some (55, .bipush 16, 2, 0, 0, 0) := by decide +kernel
theorem pa_90_57 : pz_at 90 57 = some (57, .imul, 1, 0, 0, 0) := by decide +kernel
theorem pa_90_58 : pz_at 90 58 = some (58, .iload_n 2, 1, 0, 0, 0) := by decide +kernel
theorem pa_90_59 : pz_at 90 59 = some (59, .iadd, 1, 0, 0, 0) := by decide +kernel
theorem pa_90_60 : pz_at 90 60 = some (60, .iload_n 3, 1, 0, 0, 0) := by decide +kernel
theorem pa_90_61 : pz_at 90 61 = some (61, .iastore, 1, 0, 0, 0) := by decide +kernel
theorem pa_90_62 : pz_at 90 62 = some (62, .iconst 1, 1, 0, 0, 0) := by decide +kernel
theorem pa_90_63 : pz_at 90 63 = some (63, .ireturn, 1, 0, 0, 0) := by decide +kernel
theorem pa_90_8 : pz_at 90 8 = some (8, .iload_n 1, 1, 0, 0, 0) := by decide +kernel
theorem pa_90_9 : pz_at 90 9 = some (9, .iload_n 2, 1, 0, 0, 0) := by decide +kernel
theorem pm_72 : pz_mi 72 = (5, 2, (some .boolean)) := by decide +kernel
theorem pr_90 : (pz_mi 90).2.2 = (some .int) := by decide +kernel
theorem pa_91_0 : pz_at 91 0 = some (0, .aload_n 0, 1, 0, 0, 0) := by decide +kernel
theorem pa_91_1 : pz_at 91 1 = some (1, .getfield 10, 3, 6, 0, 412) := by decide +kernel
theorem pa_91_11 : pz_at 91 11 = some (11, .iconst (-1), 1, 0, 0, 0) := by decide +kernel
theorem pa_91_12 : pz_at 91 12 = some (12, .ireturn, 1, 0, 0, 0) := by decide +kernel
theorem pa_91_13 : pz_at 91 13 = some (13, .aload_n 0, 1, 0, 0, 0) := by decide +kernel
theorem pa_91_14 : pz_at 91 14 = some (14, .getfield 10, 3, 6, 0, 412) := by decide +kernel
theorem pa_91_17 : pz_at 91 17 = some (17, .getfield 156, 3, 4, 7, 134) := by decide +kernel
theorem pa_91_20 : pz_at 91 20 = some (20, .iload_n 1, 1, 0, 0, 0) := by decide +kernel
theorem pa_91_21 : pz_at 91 21 = some (21, .baload, 1, 0, 0, 0) := by decide +kernel
theorem pa_91_22 : pz_at 91 22 = some (22, .ifCond .eq 16, 3, 38, 0, 0) := by decide +kernel
theorem pa_91_25 : pz_at 91 25 = some (25, .aload_n 0, 1, 0, 0, 0) := by decide +kernel
theorem pa_91_26 : pz_at 91 26 = some (26, .getfield 19, 3, 6, 1, 413) := by decide +kernel
theorem pa_91_29 : pz_at 91 29 = some (29, .iload_n 2, 1, 0, 0, 0) := by decide +kernel
theorem pa_91_30 : pz_at 91 30 = some (30, .invokevirtual 147, 3, 72, 1, 579) := by decide +kernel
theorem pa_91_33 : pz_at 91 33 = some (33, .ifCond .ne 5, 3, 38, 0, 0) := by decide +kernel
theorem pa_91_36 : pz_at 91 36 = some (36, .iconst (-1), 1, 0, 0, 0) := by decide +kernel
theorem pa_91_37 : pz_at 91 37 = some (37, .ireturn, 1, 0, 0, 0) := by decide +kernel
theorem pa_91_38 : pz_at 91 38 = some (38, .aload_n 0, 1, 0, 0, 0) := by decide +kernel
theorem pa_91_39 : pz_at 91 39 = some (39, .getfield 19, 3, 6, 1, 413) := by decide +kernel
theorem pa_91_4 : pz_at 91 4 = some (4, .iload_n 1, 1, 0, 0, 0) := by decide +kernel
theorem pa_91_42 : pz_at 91 42 = some (42, .getfield 100, 3, 5, 4, 222) := by decide +kernel
theorem pa_91_45 : pz_at 91 45 = some (45, .iload_n 1, 1, 0, 0, 0) := by decide +kernel
theorem pa_91_46 : pz_at 91 46 = some (46, .iload_n 2, 1, 0, 0, 0) := by decide +kernel
theorem pa_91_47 : pz_at 91 47 = some (47, .iastore, 1, 0, 0, 0) := by decide +kernel
theorem pa_91_48 : pz_at 91 48 = some (48, .iconst 1, 1, 0, 0, 0) := by decide +kernel
theorem pa_91_49 : pz_at 91 49 = some (49, .ireturn, 1, 0, 0, 0) := by decide +kernel
theorem pa_91_5 : pz_at 91 5 = some (5, .invokevirtual 153, 3, 56, 1, 587) := by decide +kernel
theorem pa_91_8 : pz_at 91 8 = some (8, .ifCond .ne 5, 3, 13, 0, 0) := by decide +kernel
theorem pr_91 : (pz_mi 91).2.2 = (some .int) := by decide +kernel
theorem pa_92_0 : pz_at 92 0 = some (0, .aload_n 0, 1, 0, 0, 0) := by decide +kernel
theorem pa_92_1 : pz_at 92 1 = some (1, .getfield 19, 3, 6, 1, 413) := by decide +kernel
theorem pa_92_10 : pz_at 92 10 = some (10, .invokevirtual 140, 3, 78, 3, 559) := by decide +kernel
theorem pa_92_13 : pz_at 92 13 = some (13, .ifCond .eq 20, 3, 33, 0, 0) := by decide +kernel
theorem pa_92_16 : pz_at 92 16 = some (16, .aload_n 0, 1, 0, 0, 0) := by decide +kernel
theorem pa_92_17 : pz_at 92 17 = some (17, .getfield 19, 3, 6, 1, 413) := by decide +kernel
theorem pa_92_20 : pz_at 92 20 = some (20, .getfield 150, 3, 5, 3, 219) := by decide +kernel
theorem pa_92_23 : pz_at 92 23 = some (23, .iload_n 1, 1, 0, 0, 0) := by decide +kernel
theorem pa_92_24 : pz_at 92 24 = some (24, .bipush 16, 2, 0, 0, 0) := by decide +kernel
theorem pa_92_26 : pz_at 92 26 = some (26, .imul, 1, 0, 0, 0) := by decide +kernel
theorem pa_92_27 : pz_at 92 27 = some (27, .iload_n 2, 1, 0, 0, 0) := by decide +kernel
theorem pa_92_28 : pz_at 92 28 = some (28, .iadd, 1, 0, 0, 0) := by decide +kernel
theorem pa_92_29 : pz_at 92 29 = some (29, .iaload, 1, 0, 0, 0) := by decide +kernel
theorem pa_92_30 : pz_at 92 30 = some (30, .goto 4, 3, 34, 0, 0) := by decide +kernel
theorem pa_92_33 : pz_at 92 33 = some (33, .iconst 0, 1, 0, 0, 0) := by decide +kernel
theorem pa_92_34 : pz_at 92 34 = some (34, .ireturn, 1, 0, 0, 0) := by decide +kernel
theorem pa_92_4 : pz_at 92 4 = some (4, .aload_n 0, 1, 0, 0, 0) := by decide +kernel
theorem pa_92_5 : pz_at 92 5 = some (5, .getfield 10, 3, 6, 0, 412) := by decide +kernel
theorem pa_92_8 : pz_at 92 8 = some (8, .iload_n 1, 1, 0, 0, 0) := by decide +kernel
theorem pa_92_9 : pz_at 92 9 = some (9, .iload_n 2, 1, 0, 0, 0) := by decide +kernel
theorem pr_92 : (pz_mi 92).2.2 = (some .int) := by decide +kernel
theorem pa_93_0 : pz_at 93 0 = some (0, .aload_n 0, 1, 0, 0, 0) := by decide +kernel
theorem pa_93_1 : pz_at 93 1 = some (1, .getfield 10, 3, 6, 0, 412) := by decide +kernel
theorem pa_93_11 : pz_at 93 11 = some (11, .aload_n 0, 1, 0, 0, 0) := by decide +kernel
theorem pa_93_12 : pz_at 93 12 = some (12, .getfield 19, 3, 6, 1, 413) := by decide +kernel
theorem pa_93_15 : pz_at 93 15 = some (15, .getfield 100, 3, 5, 4, 222) := by decide +kernel
theorem pa_93_18 : pz_at 93 18 = some (18, .iload_n 1, 1, 0, 0, 0) := by decide +kernel
theorem pa_93_19 : pz_at 93 19 = some (19, .iaload, 1, 0, 0, 0) := by decide +kernel
theorem pa_93_20 : pz_at 93 20 = some (20, .goto 4, 3, 24, 0, 0) := by decide +kernel
theorem pa_93_23 : pz_at 93 23 = some (23, .iconst 0, 1, 0, 0, 0) := by decide +kernel
theorem pa_93_24 : pz_at 93 24 = some (24, .ireturn, 1, 0, 0, 0) := by decide +kernel
theorem pa_93_4 : pz_at 93 4 = some (4, .iload_n 1, 1, 0, 0, 0) := by decide +kernel
theorem pa_93_5 : pz_at 93 5 = some (5, .invokevirtual 153, 3, 56, 1, 587) := by decide +kernel
theorem pa_93_8 : pz_at 93 8 = some (8, .ifCond .eq 15, 3, 23, 0, 0) := by decide +kernel
theorem pr_93 : (pz_mi 93).2.2 = (some .int) := by decide +kernel
theorem pa_94_0 : pz_at 94 0 = some (0, .aload_n 0, 1, 0, 0, 0) := by decide +kernel
theorem pa_94_1 : pz_at 94 1 = some (1, .getfield 19, 3, 6, 1, 413) := by decide +kernel
theorem pa_94_11 : pz_at 94 11 = some (11, .aload_n 0, 1, 0, 0, 0) := by decide +kernel
theorem pa_94_12 : pz_at 94 12 = some (12, .getfield 19, 3, 6, 1, 413) := by decide +kernel
theorem pa_94_15 : pz_at 94 15 = some (15, .getfield 163, 3, 5, 2, 216) := by decide +kernel
theorem pa_94_18 : pz_at 94 18 = some (18, .iload_n 1, 1, 0, 0, 0) := by decide +kernel
theorem pa_94_19 : pz_at 94 19 = some (19, .iaload, 1, 0, 0, 0) := by decide +kernel
theorem pa_94_20 : pz_at 94 20 = some (20, .goto 4, 3, 24, 0, 0) := by decide +kernel
theorem pa_94_23 : pz_at 94 23 = some (23, .iconst (-1), 1, 0, 0, 0) := by decide +kernel
theorem pa_94_24 : pz_at 94 24 = some (24, .ireturn, 1, 0, 0, 0) := by decide +kernel
theorem pa_94_4 : pz_at 94 4 = some (4, .iload_n 1, 1, 0, 0, 0) := by decide +kernel
theorem pa_94_5 : pz_at 94 5 = some (5, .invokevirtual 160, 3, 71, 1, 600) := by decide +kernel
theorem pa_94_8 : pz_at 94 8 = some (8, .ifCond .eq 15, 3, 23, 0, 0) := by decide +kernel
theorem pr_94 : (pz_mi 94).2.2 = (some .int) := by decide +kernel
theorem pa_95_0 : pz_at 95 0 = some (0, .iload_n 1, 1, 0, 0, 0) := by decide +kernel
theorem pa_95_1 : pz_at 95 1 = some (1, .ifCond .lt 17, 3, 18, 0, 0) := by decide +kernel
theorem pa_95_10 : pz_at 95 10 = some (10, .ifCond .lt 8, 3, 18, 0, 0) := by decide +kernel
theorem pa_95_13 : pz_at 95 13 = some (13, .iload_n 3, 1, 0, 0, 0) := by decide +kernel
theorem pa_95_14 : pz_at 95 14 = some (14, .iconst 3, 1, 0, 0, 0) := by decide +kernel
theorem pa_95_15 : pz_at 95 15 = some (15, .if_icmp .lt 6, 3, 21, 0, 0) := by decide +kernel
theorem pa_95_18 : pz_at 95 18 = some (18, .bipush (-2), 2, 0, 0, 0) := by decide +kernel
theorem pa_95_20 : pz_at 95 20 = some (20, .ireturn, 1, 0, 0, 0) := by decide +kernel
theorem pa_95_21 : pz_at 95 21 = some (21, .iload_n 2, 1, 0, 0, 0) := by decide +kernel
theorem pa_95_22 : pz_at 95 22 = some (22, .ifCond .eq 17, 3, 39, 0, 0) := by decide +kernel
theorem pa_95_25 : pz_at 95 25 = some (25, .aload_n 0, 1, 0, 0, 0) := by decide +kernel
theorem pa_95_26 : pz_at 95 26 = some (26, .getfield 19, 3, 6, 1, 413) := by decide +kernel
theorem pa_95_29 : pz_at 95 29 = some (29, .iload 4, 2, 0, 0, 0) := by decide +kernel
theorem pa_95_31 : pz_at 95 31 = some (31, .invokevirtual 147, 3, 72, 1, 579) := by decide +kernel
theorem pa_95_34 : pz_at 95 34 = some (34, .ifCond .ne 5, 3, 39, 0, 0) := by decide +kernel
theorem pa_95_37 : pz_at 95 37 = some (37, .iconst (-1), 1, 0, 0, 0) := by decide +kernel
theorem pa_95_38 : pz_at 95 38 = some (38, .ireturn, 1, 0, 0, 0) := by decide +kernel
theorem pa_95_39 : pz_at 95 39 = some (39, .iload_n 2, 1, 0, 0, 0) := by decide +kernel
theorem pa_95_4 : pz_at 95 4 = some (4, .iload_n 1, 1, 0, 0, 0) := by decide +kernel
theorem pa_95_40 : pz_at 95 40 = some (40, .ifCond .eq 10, 3, 50, 0, 0) := by decide +kernel
theorem pa_95_43 : pz_at 95 43 = some (43, .aload_n 0, 1, 0, 0, 0) := by decide +kernel
theorem pa_95_44 : pz_at 95 44 = some (44, .getfield 67, 3, 6, 9, 421) := by decide +kernel
theorem pa_95_47 : pz_at 95 47 = some (47, .goto 7, 3, 54, 0, 0) := by decide +kernel
theorem pa_95_5 : pz_at 95 5 = some (5, .iconst 1, 1, 0, 0, 0) := by decide +kernel
theorem pa_95_50 : pz_at 95 50 = some (50, .aload_n 0, 1, 0, 0, 0) := by decide +kernel
theorem pa_95_51 : pz_at 95 51 = some (51, .getfield 63, 3, 6, 8, 420) := by decide +kernel
theorem pa_95_54 : pz_at 95 54 = some (54, .astore 5, 2, 0, 0, 0) := by decide +kernel
theorem pa_95_56 : pz_at 95 56 = some (56, .aload 5, 2, 0, 0, 0) := by decide +kernel
theorem pa_95_58 : pz_at 95 58 = some (58, .iload_n 1, 1, 0, 0, 0) := by decide +kernel
theorem pa_95_59 : pz_at 95 59 = some (59, .iconst 3, 1, 0, 0, 0) := by decide +kernel
theorem pa_95_6 : pz_at 95 6 = some (6, .if_icmp .gt 12, 3, 18, 0, 0) := by decide +kernel
theorem pa_95_60 : pz_at 95 60 = some (60, .imul, 1, 0, 0, 0) := by decide +kernel
theorem pa_95_61 : pz_at 95 61 = some (61, .iload_n 3, 1, 0, 0, 0) := by decide +kernel
theorem pa_95_62 : pz_at 95 62 = some (62, .iadd, 1, 0, 0, 0) := by decide +kernel
theorem pa_95_63 : pz_at 95 63 = some (63, .iaload, 1, 0, 0, 0) := by decide +kernel
theorem pa_95_64 : pz_at 95 64 = some (64, .istore 6, 2, 0, 0, 0) := by decide +kernel
theorem pa_95_66 : pz_at 95 66 = some (66, .aload 5, 2, 0, 0, 0) := by decide +kernel
theorem pa_95_68 : pz_at 95 68 = some (68, .iload_n 1, 1, 0, 0, 0) := by decide +kernel
theorem pa_95_69 : pz_at 95 69 = some (69, .iconst 3, 1, 0, 0, 0) := by decide +kernel
theorem pa_95_70 : pz_at 95 70 = some (70, .imul, 1, 0, 0, 0) := by decide +kernel
theorem pa_95_71 : pz_at 95 71 = some (71, .iload_n 3, 1, 0, 0, 0) := by decide +kernel
theorem pa_95_72 : pz_at 95 72 = some (72, .iadd, 1, 0, 0, 0) := by decide +kernel
theorem pa_95_73 : pz_at 95 73 = some (73, .iload 4, 2, 0, 0, 0) := by decide +kernel
theorem pa_95_75 : pz_at 95 75 = some (75, .iastore, 1, 0, 0, 0) := by decide +kernel
theorem pa_95_76 : pz_at 95 76 = some (76, .iload 6, 2, 0, 0, 0) := by decide +kernel
theorem pa_95_78 : pz_at 95 78 = some (78, .ireturn, 1, 0, 0, 0) := by decide +kernel
theorem pa_95_9 : pz_at 95 9 = some (9, .iload_n 3, 1, 0, 0, 0) := by decide +kernel
theorem pf_0_6_8 : pz_gf 0 6 8 = some (some 53) := by decide +kernel
theorem pf_0_6_9 : pz_gf 0 6 9 = some (some 54) := by decide +kernel
theorem pr_95 : (pz_mi 95).2.2 = (some .int) := by decide +kernel
theorem pa_96_0 : pz_at 96 0 = some (0, .aload_n 0, 1, 0, 0, 0) := by decide +kernel
theorem pa_96_1 : pz_at 96 1 = some (1, .getfield 34, 3, 6, 4, 416) := by decide +kernel
theorem pa_96_12 : pz_at 96 12 = some (12, .iconst 0, 1, 0, 0, 0) := by decide +kernel
theorem pa_96_13 : pz_at 96 13 = some (13, .istore_n 1, 1, 0, 0, 0) := by decide +kernel
theorem pa_96_14 : pz_at 96 14 = some (14, .iconst 0, 1, 0, 0, 0) := by decide +kernel
theorem pa_96_15 : pz_at 96 15 = some (15, .istore_n 2, 1, 0, 0, 0) := by decide +kernel
theorem pa_96_16 : pz_at 96 16 = some (16, .iload_n 2, 1, 0, 0, 0) := by decide +kernel
theorem pa_96_17 : pz_at 96 17 = some (17, .aload_n 0, 1, 0, 0, 0) := by decide +kernel
theorem pa_96_18 : pz_at 96 18 = some (18, .getfield 10, 3, 6, 0, 412) := by decide +kernel
theorem pa_96_21 : pz_at 96 21 = some (21, .getfield 106, 3, 4, 3, 125) := by decide +kernel
theorem pa_96_24 : pz_at 96 24 = some (24, .if_icmp .ge 23, 3, 47, 0, 0) := by decide +kernel
theorem pa_96_27 : pz_at 96 27 = some (27, .aload_n 0, 1, 0, 0, 0) := by decide +kernel
theorem pa_96_28 : pz_at 96 28 = some (28, .getfield 34, 3, 6, 4, 416) := by decide +kernel
theorem pa_96_31 : pz_at 96 31 = some (31, .iload_n 2, 1, 0, 0, 0) := by decide +kernel
theorem pa_96_32 : pz_at 96 32 = some (32, .invokevirtual 169, 3, 5, 1, 690) := by decide +kernel
theorem pa_96_35 : pz_at 96 35 = some (35, .ifCond .eq 6, 3, 41, 0, 0) := by decide +kernel
theorem pa_96_38 : pz_at 96 38 = some (38, .iinc 1 1, 3, 0, 0, 0) := by decide +kernel
theorem pa_96_4 : pz_at 96 4 = some (4, .invokevirtual 166, 3, 10, 0, 609) := by decide +kernel
theorem pa_96_41 : pz_at 96 41 = some (41, .iinc 2 1, 3, 0, 0, 0) := by decide +kernel
theorem pa_96_44 : pz_at 96 44 = some (44, .goto (-28), 3, 16, 0, 0) := by decide +kernel
theorem pa_96_47 : pz_at 96 47 = some (47, .iload_n 1, 1, 0, 0, 0) := by decide +kernel
theorem pa_96_48 : pz_at 96 48 = some (48, .ireturn, 1, 0, 0, 0) := by decide +kernel
theorem pa_96_7 : pz_at 96 7 = some (7, .aload_n 0, 1, 0, 0, 0) := by decide +kernel
theorem pa_96_8 : pz_at 96 8 = some (8, .iconst 1, 1, 0, 0, 0) := by decide +kernel
theorem pa_96_9 : pz_at 96 9 = some (9, .putfield 78, 3, 6, 10, 422) := by decide +kernel
theorem pf_0_6_4 : pz_gf 0 6 4 = some (some 31) := by decide +kernel
theorem pm_10 : pz_mi 10 = (1, 4, none) := by decide +kernel
theorem pr_96 : (pz_mi 96).2.2 = (some .int) := by decide +kernel
theorem pa_97_0 : pz_at 97 0 = some (0, .aload_n 0, 1, 0, 0, 0) := by decide +kernel
theorem pa_97_1 : pz_at 97 1 = some (1, .iload_n 1, 1, 0, 0, 0) := by decide +kernel
theorem pa_97_10 : pz_at 97 10 = some (10, .iload_n 2, 1, 0, 0, 0) := by decide +kernel
theorem pa_97_11 : pz_at 97 11 = some (11, .ifCond .lt 9, 3, 20, 0, 0) := by decide +kernel
theorem pa_97_14 : pz_at 97 14 = some (14, .iload_n 2, 1, 0, 0, 0) := by decide +kernel
theorem pa_97_15 : pz_at 97 15 = some (15, .bipush 8, 2, 0, 0, 0) := by decide +kernel
theorem pa_97_17 : pz_at 97 17 = some (17, .if_icmp .lt 8, 3, 25, 0, 0) := by decide +kernel
theorem pa_97_2 : pz_at 97 2 = some (2, .invokevirtual 172, 3, 101, 1, 701) := by decide +kernel
theorem pa_97_20 : pz_at 97 20 = some (20, .bipush (-2), 2, 0, 0, 0) := by decide +kernel
theorem pa_97_22 : pz_at 97 22 = some (22, .goto 12, 3, 34, 0, 0) := by decide +kernel
theorem pa_97_25 : pz_at 97 25 = some (25, .aload_n 0, 1, 0, 0, 0) := by decide +kernel
theorem pa_97_26 : pz_at 97 26 = some (26, .getfield 34, 3, 6, 4, 416) := by decide +kernel
theorem pa_97_29 : pz_at 97 29 = some (29, .iload_n 1, 1, 0, 0, 0) := by decide +kernel
theorem pa_97_30 : pz_at 97 30 = some (30, .iload_n 2, 1, 0, 0, 0) := by decide +kernel
theorem pa_97_31 : pz_at 97 31 = some (31, .invokevirtual 175, 3, 7, 2, 705) := by decide +kernel
theorem pa_97_34 : pz_at 97 34 = some (34, .ireturn, 1, 0, 0, 0) := by decide +kernel
theorem pa_97_5 : pz_at 97 5 = some (5, .ifCond .ne 5, 3, 10, 0, 0) := by decide +kernel
theorem pa_97_8 : pz_at 97 8 = some (8, .iconst (-1), 1, 0, 0, 0) := by decide +kernel
theorem pa_97_9 : pz_at 97 9 = some (9, .ireturn, 1, 0, 0, 0) := by decide +kernel
theorem pc_0 : pz_gc 0 = some 6 := by decide +kernel
theorem pm_101 : pz_mi 101 = (6, 2, (some .boolean)) := by decide +kernel
theorem pm_7 : pz_mi 7 = (1, 3, (some .int)) := by decide +kernel
theorem pr_97 : (pz_mi 97).2.2 = (some .int) := by decide +kernel
theorem pa_98_0 : pz_at 98 0 = some (0, .aload_n 0, 1, 0, 0, 0) := by decide +kernel
theorem pa_98_1 : pz_at 98 1 = some (1, .iload_n 1, 1, 0, 0, 0) := by decide +kernel
theorem pa_98_10 : pz_at 98 10 = some (10, .iload_n 2, 1, 0, 0, 0) := by decide +kernel
theorem pa_98_11 : pz_at 98 11 = some (11, .ifCond .lt 8, 3, 19, 0, 0) := by decide +kernel
theorem pa_98_14 : pz_at 98 14 = some (14, .iload_n 2, 1, 0, 0, 0) := by decide +kernel
theorem pa_98_15 : pz_at 98 15 = some (15, .iconst 4, 1, 0, 0, 0) := by decide +kernel
theorem pa_98_16 : pz_at 98 16 = some (16, .if_icmp .lt 6, 3, 22, 0, 0) := by decide +kernel
theorem pa_98_19 : pz_at 98 19 = some (19, .bipush (-2), 2, 0, 0, 0) := by decide +kernel
theorem pa_98_2 : pz_at 98 2 = some (2, .invokevirtual 172, 3, 101, 1, 701) := by decide +kernel
theorem pa_98_21 : pz_at 98 21 = some (21, .ireturn, 1, 0, 0, 0) := by decide +kernel
theorem pa_98_22 : pz_at 98 22 = some (22, .iload_n 3, 1, 0, 0, 0) := by decide +kernel
theorem pa_98_23 : pz_at 98 23 = some (23, .ifCond .eq 13, 3, 36, 0, 0) := by decide +kernel
theorem pa_98_26 : pz_at 98 26 = some (26, .aload_n 0, 1, 0, 0, 0) := by decide +kernel
theorem pa_98_27 : pz_at 98 27 = some (27, .getfield 34, 3, 6, 4, 416) := by decide +kernel
theorem pa_98_30 : pz_at 98 30 = some (30, .getfield 179, 3, 1, 3, 254) := by decide +kernel
theorem pa_98_33 : pz_at 98 33 = some (33, .goto 10, 3, 43, 0, 0) := by decide +kernel
theorem pa_98_36 : pz_at 98 36 = some (36, .aload_n 0, 1, 0, 0, 0) := by decide +kernel
theorem pa_98_37 : pz_at 98 37 = some (37, .getfield 34, 3, 6, 4, 416) := by decide +kernel
theorem pa_98_40 : pz_at 98 40 = some (40, .getfield 182, 3, 1, 2, 251) := by decide +kernel
theorem pa_98_43 : pz_at 98 43 = some (43, .iload_n 1, 1, 0, 0, 0) := by decide +kernel
theorem pa_98_44 : pz_at 98 44 = some (44, .iconst 4, 1, 0, 0, 0) := by decide +kernel
theorem pa_98_45 : pz_at 98 45 = some (45, .imul, 1, 0, 0, 0) := by decide +kernel
theorem pa_98_46 : pz_at 98 46 = some (46, .iload_n 2, 1, 0, 0, 0) := by decide +kernel
theorem pa_98_47 : pz_at 98 47 = some (47, .iadd, 1, 0, 0, 0) := by decide +kernel
theorem pa_98_48 : pz_at 98 48 = some (48, .iaload, 1, 0, 0, 0) := by decide +kernel
theorem pa_98_49 : pz_at 98 49 = some (49, .ireturn, 1, 0, 0, 0) := by decide +kernel
theorem pa_98_5 : pz_at 98 5 = some (5, .ifCond .ne 5, 3, 10, 0, 0) := by decide +kernel
theorem pa_98_8 : pz_at 98 8 = some (8, .iconst (-1), 1, 0, 0, 0) := by decide +kernel
theorem pa_98_9 : pz_at 98 9 = some (9, .ireturn, 1, 0, 0, 0) := by decide +kernel
theorem pr_98 : (pz_mi 98).2.2 = (some .int) := by decide +kernel
theorem pa_99_0 : pz_at 99 0 = some (0, .aload_n 0, 1, 0, 0, 0) := by decide +kernel
theorem pa_99_1 : pz_at 99 1 = some (1, .iload_n 1, 1, 0, 0, 0) := by decide +kernel
theorem pa_99_10 : pz_at 99 10 = some (10, .iload_n 2, 1, 0, 0, 0) := by decide +kernel
theorem pa_99_11 : pz_at 99 11 = some (11, .ifCond .lt 26, 3, 37, 0, 0) := by decide +kernel
theorem pa_99_14 : pz_at 99 14 = some (14, .iload_n 2, 1, 0, 0, 0) := by decide +kernel
theorem pa_99_15 : pz_at 99 15 = some (15, .aload_n 0, 1, 0, 0, 0) := by decide +kernel
theorem pa_99_16 : pz_at 99 16 = some (16, .getfield 10, 3, 6, 0, 412) := by decide +kernel
theorem pa_99_19 : pz_at 99 19 = some (19, .getfield 120, 3, 4, 11, 145) := by decide +kernel
theorem pa_99_2 : pz_at 99 2 = some (2, .invokevirtual 172, 3, 101, 1, 701) := by decide +kernel
theorem pa_99_22 : pz_at 99 22 = some (22, .iload_n 1, 1, 0, 0, 0) := by decide +kernel
theorem pa_99_23 : pz_at 99 23 = some (23, .iaload, 1, 0, 0, 0) := by decide +kernel
theorem pa_99_24 : pz_at 99 24 = some (24, .if_icmp .ge 13, 3, 37, 0, 0) := by decide +kernel
theorem pa_99_27 : pz_at 99 27 = some (27, .iload_n 3, 1, 0, 0, 0) := by decide +kernel
theorem pa_99_28 : pz_at 99 28 = some (28, .ifCond .lt 9, 3, 37, 0, 0) := by decide +kernel
theorem pa_99_31 : pz_at 99 31 = some (31, .iload_n 3, 1, 0, 0, 0) := by decide +kernel
theorem pa_99_32 : pz_at 99 32 = some (32, .bipush 8, 2, 0, 0, 0) := by decide +kernel
theorem pa_99_34 : pz_at 99 34 = some (34, .if_icmp .lt 5, 3, 39, 0, 0) := by decide +kernel
theorem pa_99_37 : pz_at 99 37 = some (37, .iconst (-1), 1, 0, 0, 0) := by decide +kernel
theorem pa_99_38 : pz_at 99 38 = some (38, .ireturn, 1, 0, 0, 0) := by decide +kernel
theorem pa_99_39 : pz_at 99 39 = some (39, .aload_n 0, 1, 0, 0, 0) := by decide +kernel
theorem pa_99_40 : pz_at 99 40 = some (40, .getfield 34, 3, 6, 4, 416) := by decide +kernel
theorem pa_99_43 : pz_at 99 43 = some (43, .getfield 185, 3, 1, 1, 249) := by decide +kernel
theorem pa_99_46 : pz_at 99 46 = some (46, .iload_n 1, 1, 0, 0, 0) := by decide +kernel
theorem pa_99_47 : pz_at 99 47 = some (47, .bipush 24, 2, 0, 0, 0) := by decide +kernel
theorem pa_99_49 : pz_at 99 49 = some (49, .imul, 1, 0, 0, 0) := by decide +kernel
theorem pa_99_5 : pz_at 99 5 = some (5, .ifCond .ne 5, 3, 10, 0, 0) := by decide +kernel
theorem pa_99_50 : pz_at 99 50 = some (50, .iload_n 2, 1, 0, 0, 0) := by decide +kernel
theorem pa_99_51 : pz_at 99 51 = some (51, .iadd, 1, 0, 0, 0) := by decide +kernel
theorem pa_99_52 : pz_at 99 52 = some (52, .laload, 1, 0, 0, 0) := by decide +kernel
theorem pa_99_53 : pz_at 99 53 = some (53, .iload_n 3, 1, 0, 0, 0) := by decide +kernel
theorem pa_99_54 : pz_at 99 54 = some (54, .invokestatic 188, 3, 3, 2, 722) := by decide +kernel
theorem pa_99_57 : pz_at 99 57 = some (57, .ireturn, 1, 0, 0, 0) := by decide +kernel
theorem pa_99_8 : pz_at 99 8 = some (8, .iconst (-1), 1, 0, 0, 0) := by decide +kernel
theorem pa_99_9 : pz_at 99 9 = some (9, .ireturn, 1, 0, 0, 0) := by decide +kernel
theorem pr_99 : (pz_mi 99).2.2 = (some .int) := by decide +kernel
theorem pa_100_0 : pz_at 100 0 = some (0, .aload_n 0, 1, 0, 0, 0) := by decide +kernel
theorem pa_100_1 : pz_at 100 1 = some (1, .iload_n 1, 1, 0, 0, 0) := by decide +kernel
theorem pa_100_10 : pz_at 100 10 = some (10, .invokevirtual 172, 3, 101, 1, 701) := by decide +kernel
theorem pa_100_13 : pz_at 100 13 = some (13, .ifCond .ne 5, 3, 18, 0, 0) := by decide +kernel
theorem pa_100_16 : pz_at 100 16 = some (16, .iconst (-1), 1, 0, 0, 0) := by decide +kernel
theorem pa_100_17 : pz_at 100 17 = some (17, .ireturn, 1, 0, 0, 0) := by decide +kernel
theorem pa_100_18 : pz_at 100 18 = some (18, .aload_n 0, 1, 0, 0, 0) := by decide +kernel
theorem pa_100_19 : pz_at 100 19 = some (19, .getfield 34, 3, 6, 4, 416) := by decide +kernel
theorem pa_100_2 : pz_at 100 2 = some (2, .invokevirtual 172, 3, 101, 1, 701) := by decide +kernel
theorem pa_100_22 : pz_at 100 22 = some (22, .iload_n 1, 1, 0, 0, 0) := by decide +kernel
theorem pa_100_23 : pz_at 100 23 = some (23, .iload_n 2, 1, 0, 0, 0) := by decide +kernel
theorem pa_100_24 : pz_at 100 24 = some (24, .invokevirtual 192, 3, 6, 2, 727) := by decide +kernel
theorem pa_100_27 : pz_at 100 27 = some (27, .ifCond .eq 7, 3, 34, 0, 0) := by decide +kernel
theorem pa_100_30 : pz_at 100 30 = some (30, .iconst 1, 1, 0, 0, 0) := by decide +kernel
theorem pa_100_31 : pz_at 100 31 = some (31, .goto 4, 3, 35, 0, 0) := by decide +kernel
theorem pa_100_34 : pz_at 100 34 = some (34, .iconst 0, 1, 0, 0, 0) := by decide +kernel
theorem pa_100_35 : pz_at 100 35 = some (35, .ireturn, 1, 0, 0, 0) := by decide +kernel
theorem pa_100_5 : pz_at 100 5 = some (5, .ifCond .eq 11, 3, 16, 0, 0) := by decide +kernel
theorem pa_100_8 : pz_at 100 8 = some (8, .aload_n 0, 1, 0, 0, 0) := by decide +kernel
theorem pa_100_9 : pz_at 100 9 = some (9, .iload_n 2, 1, 0, 0, 0) := by decide +kernel
theorem pm_6 : pz_mi 6 = (1, 6, (some .boolean)) := by decide +kernel
theorem pr_100 : (pz_mi 100).2.2 = (some .int) := by decide +kernel
theorem pa_101_0 : pz_at 101 0 = some (0, .aload_n 0, 1, 0, 0, 0) := by decide +kernel
theorem pa_101_1 : pz_at 101 1 = some (1, .getfield 78, 3, 6, 10, 422) := by decide +kernel
theorem pa_101_11 : pz_at 101 11 = some (11, .iload_n 1, 1, 0, 0, 0) := by decide +kernel
theorem pa_101_12 : pz_at 101 12 = some (12, .invokevirtual 113, 3, 57, 1, 503) := by decide +kernel
theorem pa_101_15 : pz_at 101 15 = some (15, .ifCond .eq 7, 3, 22, 0, 0) := by decide +kernel
theorem pa_101_18 : pz_at 101 18 = some (18, .iconst 1, 1, 0, 0, 0) := by decide +kernel
theorem pa_101_19 : pz_at 101 19 = some (19, .goto 4, 3, 23, 0, 0) := by decide +kernel
theorem pa_101_22 : pz_at 101 22 = some (22, .iconst 0, 1, 0, 0, 0) := by decide +kernel
theorem pa_101_23 : pz_at 101 23 = some (23, .ireturn, 1, 0, 0, 0) := by decide +kernel
theorem pa_101_4 : pz_at 101 4 = some (4, .ifCond .eq 18, 3, 22, 0, 0) := by decide +kernel
theorem pa_101_7 : pz_at 101 7 = some (7, .aload_n 0, 1, 0, 0, 0) := by decide +kernel
theorem pa_101_8 : pz_at 101 8 = some (8, .getfield 10, 3, 6, 0, 412) := by decide +kernel
theorem pr_101 : (pz_mi 101).2.2 = (some .boolean) := by decide +kernel
theorem pa_102_0 : pz_at 102 0 = some (0, .aload_n 0, 1, 0, 0, 0) := by decide +kernel
theorem pa_102_1 : pz_at 102 1 = some (1, .getfield 10, 3, 6, 0, 412) := by decide +kernel
theorem pa_102_11 : pz_at 102 11 = some (11, .iconst (-1), 1, 0, 0, 0) := by decide +kernel
theorem pa_102_12 : pz_at 102 12 = some (12, .ireturn, 1, 0, 0, 0) := by decide +kernel
theorem pa_102_13 : pz_at 102 13 = some (13, .aload_n 0, 1, 0, 0, 0) := by decide +kernel
theorem pa_102_14 : pz_at 102 14 = some (14, .getfield 23, 3, 6, 2, 414) := by decide +kernel
theorem pa_102_17 : pz_at 102 17 = some (17, .aload_n 0, 1, 0, 0, 0) := by decide +kernel
theorem pa_102_18 : pz_at 102 18 = some (18, .getfield 19, 3, 6, 1, 413) := by decide +kernel
theorem pa_102_21 : pz_at 102 21 = some (21, .invokevirtual 196, 3, 70, 1, 735) := by decide +kernel
theorem pa_102_24 : pz_at 102 24 = some (24, .aload_n 0, 1, 0, 0, 0) := by decide +kernel
theorem pa_102_25 : pz_at 102 25 = some (25, .getfield 43, 3, 6, 5, 417) := by decide +kernel
theorem pa_102_28 : pz_at 102 28 = some (28, .iload_n 1, 1, 0, 0, 0) := by decide +kernel
theorem pa_102_29 : pz_at 102 29 = some (29, .aload_n 0, 1, 0, 0, 0) := by decide +kernel
theorem pa_102_30 : pz_at 102 30 = some (30, .getfield 63, 3, 6, 8, 420) := by decide +kernel
theorem pa_102_33 : pz_at 102 33 = some (33, .aload_n 0, 1, 0, 0, 0) := by decide +kernel
theorem pa_102_34 : pz_at 102 34 = some (34, .getfield 67, 3, 6, 9, 421) := by decide +kernel
theorem pa_102_37 : pz_at 102 37 = some (37, .iconst 0, 1, 0, 0, 0) := by decide +kernel
theorem pa_102_38 : pz_at 102 38 = some (38, .aload_n 0, 1, 0, 0, 0) := by decide +kernel
theorem pa_102_39 : pz_at 102 39 = some (39, .getfield 78, 3, 6, 10, 422) := by decide +kernel
theorem pa_102_4 : pz_at 102 4 = some (4, .iload_n 1, 1, 0, 0, 0) := by decide +kernel
theorem pa_102_42 : pz_at 102 42 = some (42, .invokevirtual 200, 3, 34, 5, 745) := by decide +kernel
theorem pa_102_45 : pz_at 102 45 = some (45, .istore_n 2, 1, 0, 0, 0) := by decide +kernel
theorem pa_102_46 : pz_at 102 46 = some (46, .iload_n 2, 1, 0, 0, 0) := by decide +kernel
theorem pa_102_47 : pz_at 102 47 = some (47, .bipush (-4), 2, 0, 0, 0) := by decide +kernel
theorem pa_102_49 : pz_at 102 49 = some (49, .if_icmp .ne 17, 3, 66, 0, 0) := by decide +kernel
theorem pa_102_5 : pz_at 102 5 = some (5, .invokevirtual 113, 3, 57, 1, 503) := by decide +kernel
theorem pa_102_52 : pz_at 102 52 = some (52, .aload_n 0, 1, 0, 0, 0) := by decide +kernel
theorem pa_102_53 : pz_at 102 53 = some (53, .getfield 19, 3, 6, 1, 413) := by decide +kernel
theorem pa_102_56 : pz_at 102 56 = some (56, .aload_n 0, 1, 0, 0, 0) := by decide +kernel
theorem pa_102_57 : pz_at 102 57 = some (57, .getfield 23, 3, 6, 2, 414) := by decide +kernel
theorem pa_102_60 : pz_at 102 60 = some (60, .invokevirtual 196, 3, 70, 1, 735) := by decide +kernel
theorem pa_102_63 : pz_at 102 63 = some (63, .goto 17, 3, 80, 0, 0) := by decide +kernel
theorem pa_102_66 : pz_at 102 66 = some (66, .aload_n 0, 1, 0, 0, 0) := by decide +kernel
theorem pa_102_67 : pz_at 102 67 = some (67, .getfield 59, 3, 6, 7, 419) := by decide +kernel
theorem pa_102_70 : pz_at 102 70 = some (70, .aload_n 0, 1, 0, 0, 0) := by decide +kernel
theorem pa_102_71 : pz_at 102 71 = some (71, .getfield 43, 3, 6, 5, 417) := by decide +kernel
theorem pa_102_74 : pz_at 102 74 = some (74, .getfield 204, 3, 3, 3, 334) := by decide +kernel
theorem pa_102_77 : pz_at 102 77 = some (77, .invokevirtual 207, 3, 1, 1, 843) := by decide +kernel
theorem pa_102_8 : pz_at 102 8 = some (8, .ifCond .ne 5, 3, 13, 0, 0) := by decide +kernel
theorem pa_102_80 : pz_at 102 80 = some (80, .iload_n 2, 1, 0, 0, 0) := by decide +kernel
theorem pa_102_81 : pz_at 102 81 = some (81, .ireturn, 1, 0, 0, 0) := by decide +kernel
theorem pc_21 : pz_gc 21 = some 5 := by decide +kernel
theorem pc_52 : pz_gc 52 = some 0 := by decide +kernel
theorem pf_0_6_2 : pz_gf 0 6 2 = some (some 21) := by decide +kernel
theorem pf_0_6_5 : pz_gf 0 6 5 = some (some 39) := by decide +kernel
theorem pf_0_6_7 : pz_gf 0 6 7 = some (some 52) := by decide +kernel
theorem pm_1 : pz_mi 1 = (0, 2, none) := by decide +kernel
theorem pm_34 : pz_mi 34 = (3, 8, (some .int)) := by decide +kernel
theorem pm_70 : pz_mi 70 = (5, 2, none) := by decide +kernel
theorem pr_102 : (pz_mi 102).2.2 = (some .int) := by decide +kernel
theorem pa_103_0 : pz_at 103 0 = some (0, .iload_n 1, 1, 0, 0, 0) := by decide +kernel
theorem pa_103_1 : pz_at 103 1 = some (1, .ifCond .lt 9, 3, 10, 0, 0) := by decide +kernel
theorem pa_103_10 : pz_at 103 10 = some (10, .bipush (-2), 2, 0, 0, 0) := by decide +kernel
theorem pa_103_12 : pz_at 103 12 = some (12, .goto 11, 3, 23, 0, 0) := by decide +kernel
theorem pa_103_15 : pz_at 103 15 = some (15, .aload_n 0, 1, 0, 0, 0) := by decide +kernel
theorem pa_103_16 : pz_at 103 16 = some (16, .getfield 59, 3, 6, 7, 419) := by decide +kernel
theorem pa_103_19 : pz_at 103 19 = some (19, .iload_n 1, 1, 0, 0, 0) := by decide +kernel
theorem pa_103_20 : pz_at 103 20 = some (20, .invokevirtual 210, 3, 2, 1, 851) := by decide +kernel
theorem pa_103_23 : pz_at 103 23 = some (23, .ireturn, 1, 0, 0, 0) := by decide +kernel
theorem pa_103_4 : pz_at 103 4 = some (4, .iload_n 1, 1, 0, 0, 0) := by decide +kernel
theorem pa_103_5 : pz_at 103 5 = some (5, .bipush 6, 2, 0, 0, 0) := by decide +kernel
theorem pa_103_7 : pz_at 103 7 = some (7, .if_icmp .lt 8, 3, 15, 0, 0) := by decide +kernel
theorem pm_2 : pz_mi 2 = (0, 2, (some .int)) := by decide +kernel
theorem pr_103 : (pz_mi 103).2.2 = (some .int) := by decide +kernel
theorem pa_104_0 : pz_at 104 0 = some (0, .aload_n 0, 1, 0, 0, 0) := by decide +kernel
theorem pa_104_1 : pz_at 104 1 = some (1, .getfield 59, 3, 6, 7, 419) := by decide +kernel
theorem pa_104_10 : pz_at 104 10 = some (10, .iconst 0, 1, 0, 0, 0) := by decide +kernel
theorem pa_104_11 : pz_at 104 11 = some (11, .goto 4, 3, 15, 0, 0) := by decide +kernel
theorem pa_104_14 : pz_at 104 14 = some (14, .iconst 1, 1, 0, 0, 0) := by decide +kernel
theorem pa_104_15 : pz_at 104 15 = some (15, .ireturn, 1, 0, 0, 0) := by decide +kernel
theorem pa_104_4 : pz_at 104 4 = some (4, .getfield 212, 3, 0, 7, 312) := by decide +kernel
theorem pa_104_7 : pz_at 104 7 = some (7, .ifCond .eq 7, 3, 14, 0, 0) := by decide +kernel
theorem pr_104 : (pz_mi 104).2.2 = (some .int) := by decide +kernel
theorem pa_105_0 : pz_at 105 0 = some (0, .aload_n 0, 1, 0, 0, 0) := by decide +kernel
theorem pa_105_1 : pz_at 105 1 = some (1, .getfield 10, 3, 6, 0, 412) := by decide +kernel
theorem pa_105_100 : pz_at 105 100 = some (100, .iload_n 2, 1, 0, 0, 0) := by decide +kernel
theorem pa_105_101 : pz_at 105 101 = some (101, .iconst 1, 1, 0, 0, 0) := by decide +kernel
theorem pa_105_102 : pz_at 105 102 = some (102, .aload_n 0, 1, 0, 0, 0) := by decide +kernel
theorem pa_105_103 : pz_at 105 103 = some (103, .getfield 52, 3, 6, 6, 418) := by decide +kernel
theorem pa_105_106 : pz_at 105 106 = some (106, .getfield 222, 3, 2, 4, 383) := by decide +kernel
theorem pa_105_109 : pz_at 105 109 = some (109, .invokevirtual 218, 3, 106, 3, 863) := by decide +kernel
theorem pa_105_11 : pz_at 105 11 = some (11, .aload_n 0, 1, 0, 0, 0) := by decide +kernel
theorem pa_105_112 : pz_at 105 112 = some (112, .ifCond .eq 23, 3, 135, 0, 0) := by decide +kernel
theorem pa_105_115 : pz_at 105 115 = some (115, .aload_n 0, 1, 0, 0, 0) := by decide +kernel
theorem pa_105_116 : pz_at 105 116 = some (116, .iload_n 1, 1, 0, 0, 0) := by decide +kernel
theorem pa_105_117 : pz_at 105 117 = some (117, .iconst 0, 1, 0, 0, 0) := by decide +kernel
theorem pa_105_118 : pz_at 105 118 = some (118, .aload_n 0, 1, 0, 0, 0) := by decide +kernel
theorem pa_105_119 : pz_at 105 119 = some (119, .getfield 52, 3, 6, 6, 418) := by decide +kernel
theorem pa_105_12 : pz_at 105 12 = some (12, .getfield 10, 3, 6, 0, 412) := by decide +kernel
theorem pa_105_122 : pz_at 105 122 = some (122, .getfield 222, 3, 2, 4, 383) := by decide +kernel
theorem pa_105_125 : pz_at 105 125 = some (125, .invokevirtual 218, 3, 106, 3, 863) := by decide +kernel
theorem pa_105_128 : pz_at 105 128 = some (128, .ifCond .eq 7, 3, 135, 0, 0) := by decide +kernel
theorem pa_105_131 : pz_at 105 131 = some (131, .iconst 1, 1, 0, 0, 0) := by decide +kernel
theorem pa_105_132 : pz_at 105 132 = some (132, .goto 4, 3, 136, 0, 0) := by decide +kernel
theorem pa_105_135 : pz_at 105 135 = some (135, .iconst 0, 1, 0, 0, 0) := by decide +kernel
theorem pa_105_136 : pz_at 105 136 = some (136, .istore_n 3, 1, 0, 0, 0) := by decide +kernel
theorem pa_105_137 : pz_at 105 137 = some (137, .bipush (-4), 2, 0, 0, 0) := by decide +kernel
theorem pa_105_139 : pz_at 105 139 = some (139, .istore 4, 2, 0, 0, 0) := by decide +kernel
theorem pa_105_141 : pz_at 105 141 = some (141, .iload_n 3, 1, 0, 0, 0) := by decide +kernel
theorem pa_105_142 : pz_at 105 142 = some (142, .ifCond .eq 29, 3, 171, 0, 0) := by decide +kernel
theorem pa_105_145 : pz_at 105 145 = some (145, .aload_n 0, 1, 0, 0, 0) := by decide +kernel
theorem pa_105_146 : pz_at 105 146 = some (146, .getfield 52, 3, 6, 6, 418) := by decide +kernel
theorem pa_105_149 : pz_at 105 149 = some (149, .iload_n 1, 1, 0, 0, 0) := by decide +kernel
theorem pa_105_15 : pz_at 105 15 = some (15, .iload_n 2, 1, 0, 0, 0) := by decide +kernel
theorem pa_105_150 : pz_at 105 150 = some (150, .iload_n 2, 1, 0, 0, 0) := by decide +kernel
theorem pa_105_151 : pz_at 105 151 = some (151, .aload_n 0, 1, 0, 0, 0) := by decide +kernel
theorem pa_105_152 : pz_at 105 152 = some (152, .getfield 23, 3, 6, 2, 414) := by decide +kernel
theorem pa_105_155 : pz_at 105 155 = some (155, .getfield 133, 3, 5, 0, 210) := by decide +kernel
theorem pa_105_158 : pz_at 105 158 = some (158, .invokevirtual 225, 3, 27, 3, 867) := by decide +kernel
theorem pa_105_16 : pz_at 105 16 = some (16, .invokevirtual 113, 3, 57, 1, 503) := by decide +kernel
theorem pa_105_161 : pz_at 105 161 = some (161, .ifCond .eq 7, 3, 168, 0, 0) := by decide +kernel
theorem pa_105_164 : pz_at 105 164 = some (164, .iconst 1, 1, 0, 0, 0) := by decide +kernel
theorem pa_105_165 : pz_at 105 165 = some (165, .goto 4, 3, 169, 0, 0) := by decide +kernel
theorem pa_105_168 : pz_at 105 168 = some (168, .iconst 0, 1, 0, 0, 0) := by decide +kernel
theorem pa_105_169 : pz_at 105 169 = some (169, .istore 4, 2, 0, 0, 0) := by decide +kernel
theorem pa_105_171 : pz_at 105 171 = some (171, .aload_n 0, 1, 0, 0, 0) := by decide +kernel
theorem pa_105_172 : pz_at 105 172 = some (172, .getfield 19, 3, 6, 1, 413) := by decide +kernel
theorem pa_105_175 : pz_at 105 175 = some (175, .aload_n 0, 1, 0, 0, 0) := by decide +kernel
theorem pa_105_176 : pz_at 105 176 = some (176, .getfield 23, 3, 6, 2, 414) := by decide +kernel
theorem pa_105_179 : pz_at 105 179 = some (179, .invokevirtual 196, 3, 70, 1, 735) := by decide +kernel
theorem pa_105_182 : pz_at 105 182 = some (182, .iload 4, 2, 0, 0, 0) := by decide +kernel
theorem pa_105_184 : pz_at 105 184 = some (184, .ireturn, 1, 0, 0, 0) := by decide +kernel
theorem pa_105_19 : pz_at 105 19 = some (19, .ifCond .ne 5, 3, 24, 0, 0) := by decide +kernel
theorem pa_105_22 : pz_at 105 22 = some (22, .iconst (-1), 1, 0, 0, 0) := by decide +kernel
theorem pa_105_23 : pz_at 105 23 = some (23, .ireturn, 1, 0, 0, 0) := by decide +kernel
theorem pa_105_24 : pz_at 105 24 = some (24, .aload_n 0, 1, 0, 0, 0) := by decide +kernel
theorem pa_105_25 : pz_at 105 25 = some (25, .getfield 23, 3, 6, 2, 414) := by decide +kernel
theorem pa_105_28 : pz_at 105 28 = some (28, .aload_n 0, 1, 0, 0, 0) := by decide +kernel
theorem pa_105_29 : pz_at 105 29 = some (29, .getfield 19, 3, 6, 1, 413) := by decide +kernel
theorem pa_105_32 : pz_at 105 32 = some (32, .invokevirtual 196, 3, 70, 1, 735) := by decide +kernel
theorem pa_105_35 : pz_at 105 35 = some (35, .aload_n 0, 1, 0, 0, 0) := by decide +kernel
theorem pa_105_36 : pz_at 105 36 = some (36, .iload_n 1, 1, 0, 0, 0) := by decide +kernel
theorem pa_105_37 : pz_at 105 37 = some (37, .iconst 0, 1, 0, 0, 0) := by decide +kernel
theorem pa_105_38 : pz_at 105 38 = some (38, .aload_n 0, 1, 0, 0, 0) := by decide +kernel
theorem pa_105_39 : pz_at 105 39 = some (39, .getfield 52, 3, 6, 6, 418) := by decide +kernel
theorem pa_105_4 : pz_at 105 4 = some (4, .iload_n 1, 1, 0, 0, 0) := by decide +kernel
theorem pa_105_42 : pz_at 105 42 = some (42, .getfield 215, 3, 2, 3, 381) := by decide +kernel
theorem pa_105_45 : pz_at 105 45 = some (45, .invokevirtual 218, 3, 106, 3, 863) := by decide +kernel
theorem pa_105_48 : pz_at 105 48 = some (48, .ifCond .eq 23, 3, 71, 0, 0) := by decide +kernel
theorem pa_105_5 : pz_at 105 5 = some (5, .invokevirtual 113, 3, 57, 1, 503) := by decide +kernel
theorem pa_105_51 : pz_at 105 51 = some (51, .aload_n 0, 1, 0, 0, 0) := by decide +kernel
theorem pa_105_52 : pz_at 105 52 = some (52, .iload_n 2, 1, 0, 0, 0) := by decide +kernel
theorem pa_105_53 : pz_at 105 53 = some (53, .iconst 1, 1, 0, 0, 0) := by decide +kernel
theorem pa_105_54 : pz_at 105 54 = some (54, .aload_n 0, 1, 0, 0, 0) := by decide +kernel
theorem pa_105_55 : pz_at 105 55 = some (55, .getfield 52, 3, 6, 6, 418) := by decide +kernel
theorem pa_105_58 : pz_at 105 58 = some (58, .getfield 215, 3, 2, 3, 381) := by decide +kernel
theorem pa_105_61 : pz_at 105 61 = some (61, .invokevirtual 218, 3, 106, 3, 863) := by decide +kernel
theorem pa_105_64 : pz_at 105 64 = some (64, .ifCond .eq 7, 3, 71, 0, 0) := by decide +kernel
theorem pa_105_67 : pz_at 105 67 = some (67, .iconst 1, 1, 0, 0, 0) := by decide +kernel
theorem pa_105_68 : pz_at 105 68 = some (68, .goto 4, 3, 72, 0, 0) := by decide +kernel
theorem pa_105_71 : pz_at 105 71 = some (71, .iconst 0, 1, 0, 0, 0) := by decide +kernel
theorem pa_105_72 : pz_at 105 72 = some (72, .istore_n 3, 1, 0, 0, 0) := by decide +kernel
theorem pa_105_73 : pz_at 105 73 = some (73, .iload_n 3, 1, 0, 0, 0) := by decide +kernel
theorem pa_105_74 : pz_at 105 74 = some (74, .ifCond .eq 63, 3, 137, 0, 0) := by decide +kernel
theorem pa_105_77 : pz_at 105 77 = some (77, .aload_n 0, 1, 0, 0, 0) := by decide +kernel
theorem pa_105_78 : pz_at 105 78 = some (78, .getfield 26, 3, 6, 3, 415) := by decide +kernel
theorem pa_105_8 : pz_at 105 8 = some (8, .ifCond .eq 14, 3, 22, 0, 0) := by decide +kernel
theorem pa_105_81 : pz_at 105 81 = some (81, .aload_n 0, 1, 0, 0, 0) := by decide +kernel
theorem pa_105_82 : pz_at 105 82 = some (82, .getfield 19, 3, 6, 1, 413) := by decide +kernel
theorem pa_105_85 : pz_at 105 85 = some (85, .invokevirtual 196, 3, 70, 1, 735) := by decide +kernel
theorem pa_105_88 : pz_at 105 88 = some (88, .aload_n 0, 1, 0, 0, 0) := by decide +kernel
theorem pa_105_89 : pz_at 105 89 = some (89, .getfield 19, 3, 6, 1, 413) := by decide +kernel
theorem pa_105_92 : pz_at 105 92 = some (92, .aload_n 0, 1, 0, 0, 0) := by decide +kernel
theorem pa_105_93 : pz_at 105 93 = some (93, .getfield 23, 3, 6, 2, 414) := by decide +kernel
theorem pa_105_96 : pz_at 105 96 = some (96, .invokevirtual 196, 3, 70, 1, 735) := by decide +kernel
theorem pa_105_99 : pz_at 105 99 = some (99, .aload_n 0, 1, 0, 0, 0) := by decide +kernel
theorem pf_0_6_3 : pz_gf 0 6 3 = some (some 26) := by decide +kernel
theorem pf_0_6_6 : pz_gf 0 6 6 = some (some 46) := by decide +kernel
theorem pm_106 : pz_mi 106 = (6, 5, (some .boolean)) := by decide +kernel
theorem pm_27 : pz_mi 27 = (2, 5, (some .boolean)) := by decide +kernel
theorem pr_105 : (pz_mi 105).2.2 = (some .int) := by decide +kernel
theorem pa_106_0 : pz_at 106 0 = some (0, .aload_n 0, 1, 0, 0, 0) := by decide +kernel
theorem pa_106_1 : pz_at 106 1 = some (1, .getfield 43, 3, 6, 5, 417) := by decide +kernel
theorem pa_106_10 : pz_at 106 10 = some (10, .getfield 67, 3, 6, 9, 421) := by decide +kernel
theorem pa_106_13 : pz_at 106 13 = some (13, .iload_n 2, 1, 0, 0, 0) := by decide +kernel
theorem pa_106_14 : pz_at 106 14 = some (14, .iconst 3, 1, 0, 0, 0) := by decide +kernel
theorem pa_106_15 : pz_at 106 15 = some (15, .imul, 1, 0, 0, 0) := by decide +kernel
theorem pa_106_16 : pz_at 106 16 = some (16, .iconst 0, 1, 0, 0, 0) := by decide +kernel
theorem pa_106_17 : pz_at 106 17 = some (17, .invokevirtual 200, 3, 34, 5, 745) := by decide +kernel
theorem pa_106_20 : pz_at 106 20 = some (20, .istore 4, 2, 0, 0, 0) := by decide +kernel
theorem pa_106_22 : pz_at 106 22 = some (22, .aload_n 3, 1, 0, 0, 0) := by decide +kernel
theorem pa_106_23 : pz_at 106 23 = some (23, .iload_n 2, 1, 0, 0, 0) := by decide +kernel
theorem pa_106_24 : pz_at 106 24 = some (24, .iconst 2, 1, 0, 0, 0) := by decide +kernel
theorem pa_106_25 : pz_at 106 25 = some (25, .imul, 1, 0, 0, 0) := by decide +kernel
theorem pa_106_26 : pz_at 106 26 = some (26, .iload 4, 2, 0, 0, 0) := by decide +kernel
theorem pa_106_28 : pz_at 106 28 = some (28, .iastore, 1, 0, 0, 0) := by decide +kernel
theorem pa_106_29 : pz_at 106 29 = some (29, .aload_n 3, 1, 0, 0, 0) := by decide +kernel
theorem pa_106_30 : pz_at 106 30 = some (30, .iload_n 2, 1, 0, 0, 0) := by decide +kernel
theorem pa_106_31 : pz_at 106 31 = some (31, .iconst 2, 1, 0, 0, 0) := by decide +kernel
theorem pa_106_32 : pz_at 106 32 = some (32, .imul, 1, 0, 0, 0) := by decide +kernel
theorem pa_106_33 : pz_at 106 33 = some (33, .iconst 1, 1, 0, 0, 0) := by decide +kernel
theorem pa_106_34 : pz_at 106 34 = some (34, .iadd, 1, 0, 0, 0) := by decide +kernel
theorem pa_106_35 : pz_at 106 35 = some (35, .aload_n 0, 1, 0, 0, 0) := by decide +kernel
theorem pa_106_36 : pz_at 106 36 = some (36, .getfield 43, 3, 6, 5, 417) := by decide +kernel
theorem pa_106_39 : pz_at 106 39 = some (39, .getfield 204, 3, 3, 3, 334) := by decide +kernel
theorem pa_106_4 : pz_at 106 4 = some (4, .iload_n 1, 1, 0, 0, 0) := by decide +kernel
theorem pa_106_42 : pz_at 106 42 = some (42, .getfield 229, 3, 0, 5, 307) := by decide +kernel
theorem pa_106_45 : pz_at 106 45 = some (45, .iastore, 1, 0, 0, 0) := by decide +kernel
theorem pa_106_46 : pz_at 106 46 = some (46, .iload 4, 2, 0, 0, 0) := by decide +kernel
theorem pa_106_48 : pz_at 106 48 = some (48, .bipush (-4), 2, 0, 0, 0) := by decide +kernel
theorem pa_106_5 : pz_at 106 5 = some (5, .aload_n 0, 1, 0, 0, 0) := by decide +kernel
theorem pa_106_50 : pz_at 106 50 = some (50, .if_icmp .eq 7, 3, 57, 0, 0) := by decide +kernel
theorem pa_106_53 : pz_at 106 53 = some (53, .iconst 1, 1, 0, 0, 0) := by decide +kernel
theorem pa_106_54 : pz_at 106 54 = some (54, .goto 4, 3, 58, 0, 0) := by decide +kernel
theorem pa_106_57 : pz_at 106 57 = some (57, .iconst 0, 1, 0, 0, 0) := by decide +kernel
theorem pa_106_58 : pz_at 106 58 = some (58, .ireturn, 1, 0, 0, 0) := by decide +kernel
theorem pa_106_6 : pz_at 106 6 = some (6, .getfield 63, 3, 6, 8, 420) := by decide +kernel
theorem pa_106_9 : pz_at 106 9 = some (9, .aload_n 0, 1, 0, 0, 0) := by decide +kernel
theorem pr_106 : (pz_mi 106).2.2 = (some .boolean) := by decide +kernel
theorem pa_107_0 : pz_at 107 0 = some (0, .iload_n 1, 1, 0, 0, 0) := by decide +kernel
theorem pa_107_1 : pz_at 107 1 = some (1, .ifCond .lt 33, 3, 34, 0, 0) := by decide +kernel
theorem pa_107_11 : pz_at 107 11 = some (11, .iload_n 1, 1, 0, 0, 0) := by decide +kernel
theorem pa_107_12 : pz_at 107 12 = some (12, .aload_n 0, 1, 0, 0, 0) := by decide +kernel
theorem pa_107_13 : pz_at 107 13 = some (13, .getfield 19, 3, 6, 1, 413) := by decide +kernel
theorem pa_107_16 : pz_at 107 16 = some (16, .getfield 232, 3, 5, 1, 213) := by decide +kernel
theorem pa_107_19 : pz_at 107 19 = some (19, .if_icmp .ge 15, 3, 34, 0, 0) := by decide +kernel
theorem pa_107_22 : pz_at 107 22 = some (22, .aload_n 0, 1, 0, 0, 0) := by decide +kernel
theorem pa_107_23 : pz_at 107 23 = some (23, .getfield 19, 3, 6, 1, 413) := by decide +kernel
theorem pa_107_26 : pz_at 107 26 = some (26, .getfield 235, 3, 5, 5, 227) := by decide +kernel
theorem pa_107_29 : pz_at 107 29 = some (29, .iload_n 1, 1, 0, 0, 0) := by decide +kernel
theorem pa_107_30 : pz_at 107 30 = some (30, .iaload, 1, 0, 0, 0) := by decide +kernel
theorem pa_107_31 : pz_at 107 31 = some (31, .goto 4, 3, 35, 0, 0) := by decide +kernel
theorem pa_107_34 : pz_at 107 34 = some (34, .iconst 0, 1, 0, 0, 0) := by decide +kernel
theorem pa_107_35 : pz_at 107 35 = some (35, .ireturn, 1, 0, 0, 0) := by decide +kernel
theorem pa_107_4 : pz_at 107 4 = some (4, .iload_n 1, 1, 0, 0, 0) := by decide +kernel
theorem pa_107_5 : pz_at 107 5 = some (5, .sipush 200, 3, 0, 0, 0) := by decide +kernel
theorem pa_107_8 : pz_at 107 8 = some (8, .if_icmp .ge 26, 3, 34, 0, 0) := by decide +kernel
theorem pr_107 : (pz_mi 107).2.2 = (some .int) := by decide +kernel
theorem pa_108_0 : pz_at 108 0 = some (0, .iload_n 1, 1, 0, 0, 0) := by decide +kernel
theorem pa_108_1 : pz_at 108 1 = some (1, .tableswitch 104 0 6 #[43, 51, 59, 67, 75, 83, 91], 43, 0, 0, 0) := by decide +kernel
theorem pa_108_100 : pz_at 108 100 = some (100, .goto 4, 3, 104, 0, 0) := by decide +kernel
theorem pa_108_103 : pz_at 108 103 = some (103, .iconst 0, 1, 0, 0, 0) := by decide +kernel
theorem pa_108_104 : pz_at 108 104 = some (104, .ireturn, 1, 0, 0, 0) := by decide +kernel
theorem pa_108_105 : pz_at 108 105 = some (105, .bipush (-2), 2, 0, 0, 0) := by decide +kernel
theorem pa_108_107 : pz_at 108 107 = some (107, .ireturn, 1, 0, 0, 0) := by decide +kernel
theorem pa_108_44 : pz_at 108 44 = some (44, .aload_n 0, 1, 0, 0, 0) := by decide +kernel
theorem pa_108_45 : pz_at 108 45 = some (45, .getfield 10, 3, 6, 0, 412) := by decide +kernel
theorem pa_108_48 : pz_at 108 48 = some (48, .getfield 74, 3, 4, 0, 117) := by decide +kernel
theorem pa_108_51 : pz_at 108 51 = some (51, .ireturn, 1, 0, 0, 0) := by decide +kernel
theorem pa_108_52 : pz_at 108 52 = some (52, .aload_n 0, 1, 0, 0, 0) := by decide +kernel
theorem pa_108_53 : pz_at 108 53 = some (53, .getfield 10, 3, 6, 0, 412) := by decide +kernel
theorem pa_108_56 : pz_at 108 56 = some (56, .getfield 86, 3, 4, 1, 118) := by decide +kernel
theorem pa_108_59 : pz_at 108 59 = some (59, .ireturn, 1, 0, 0, 0) := by decide +kernel
theorem pa_108_60 : pz_at 108 60 = some (60, .aload_n 0, 1, 0, 0, 0) := by decide +kernel
theorem pa_108_61 : pz_at 108 61 = some (61, .getfield 10, 3, 6, 0, 412) := by decide +kernel
theorem pa_108_64 : pz_at 108 64 = some (64, .getfield 97, 3, 4, 2, 122) := by decide +kernel
theorem pa_108_67 : pz_at 108 67 = some (67, .ireturn, 1, 0, 0, 0) := by decide +kernel
theorem pa_108_68 : pz_at 108 68 = some (68, .aload_n 0, 1, 0, 0, 0) := by decide +kernel
theorem pa_108_69 : pz_at 108 69 = some (69, .getfield 10, 3, 6, 0, 412) := by decide +kernel
theorem pa_108_72 : pz_at 108 72 = some (72, .getfield 106, 3, 4, 3, 125) := by decide +kernel
theorem pa_108_75 : pz_at 108 75 = some (75, .ireturn, 1, 0, 0, 0) := by decide +kernel
theorem pa_108_76 : pz_at 108 76 = some (76, .aload_n 0, 1, 0, 0, 0) := by decide +kernel
theorem pa_108_77 : pz_at 108 77 = some (77, .getfield 19, 3, 6, 1, 413) := by decide +kernel
theorem pa_108_80 : pz_at 108 80 = some (80, .getfield 133, 3, 5, 0, 210) := by decide +kernel
theorem pa_108_83 : pz_at 108 83 = some (83, .ireturn, 1, 0, 0, 0) := by decide +kernel
theorem pa_108_84 : pz_at 108 84 = some (84, .aload_n 0, 1, 0, 0, 0) := by decide +kernel
theorem pa_108_85 : pz_at 108 85 = some (85, .getfield 19, 3, 6, 1, 413) := by decide +kernel
theorem pa_108_88 : pz_at 108 88 = some (88, .getfield 232, 3, 5, 1, 213) := by decide +kernel
theorem pa_108_91 : pz_at 108 91 = some (91, .ireturn, 1, 0, 0, 0) := by decide +kernel
theorem pa_108_92 : pz_at 108 92 = some (92, .aload_n 0, 1, 0, 0, 0) := by decide +kernel
theorem pa_108_93 : pz_at 108 93 = some (93, .getfield 78, 3, 6, 10, 422) := by decide +kernel
theorem pa_108_96 : pz_at 108 96 = some (96, .ifCond .eq 7, 3, 103, 0, 0) := by decide +kernel
theorem pa_108_99 : pz_at 108 99 = some (99, .iconst 1, 1, 0, 0, 0) := by decide +kernel
theorem pr_108 : (pz_mi 108).2.2 = (some .int) := by decide +kernel
theorem pa_109_0 : pz_at 109 0 = some (0, .lload_n 0, 1, 0, 0, 0) := by decide +kernel
theorem pa_109_1 : pz_at 109 1 = some (1, .lload_n 2, 1, 0, 0, 0) := by decide +kernel
theorem pa_109_10 : pz_at 109 10 = some (10, .ifCond .le 7, 3, 17, 0, 0) := by decide +kernel
theorem pa_109_13 : pz_at 109 13 = some (13, .iconst 1, 1, 0, 0, 0) := by decide +kernel
theorem pa_109_14 : pz_at 109 14 = some (14, .goto 4, 3, 18, 0, 0) := by decide +kernel
theorem pa_109_17 : pz_at 109 17 = some (17, .iconst 0, 1, 0, 0, 0) := by decide +kernel
theorem pa_109_18 : pz_at 109 18 = some (18, .ireturn, 1, 0, 0, 0) := by decide +kernel
theorem pa_109_2 : pz_at 109 2 = some (2, .lcmp, 1, 0, 0, 0) := by decide +kernel
theorem pa_109_3 : pz_at 109 3 = some (3, .ifCond .lt 10, 3, 13, 0, 0) := by decide +kernel
theorem pa_109_6 : pz_at 109 6 = some (6, .lload_n 0, 1, 0, 0, 0) := by decide +kernel
theorem pa_109_7 : pz_at 109 7 = some (7, .lload 4, 2, 0, 0, 0) := by decide +kernel
theorem pa_109_9 : pz_at 109 9 = some (9, .lcmp, 1, 0, 0, 0) := by decide +kernel
theorem pr_109 : (pz_mi 109).2.2 = (some .boolean) := by decide +kernel
theorem pa_110_0 : pz_at 110 0 = some (0, .iload_n 1, 1, 0, 0, 0) := by decide +kernel
theorem pa_110_1 : pz_at 110 1 = some (1, .iconst (-1), 1, 0, 0, 0) := by decide +kernel
theorem pa_110_12 : pz_at 110 12 = some (12, .iconst 1, 1, 0, 0, 0) := by decide +kernel
theorem pa_110_13 : pz_at 110 13 = some (13, .isub, 1, 0, 0, 0) := by decide +kernel
theorem pa_110_14 : pz_at 110 14 = some (14, .i2l, 1, 0, 0, 0) := by decide +kernel
theorem pa_110_15 : pz_at 110 15 = some (15, .invokestatic 160, 3, 109, 3, 1129) := by decide +kernel
theorem pa_110_18 : pz_at 110 18 = some (18, .ifCond .eq 5, 3, 23, 0, 0) := by decide +kernel
theorem pa_110_2 : pz_at 110 2 = some (2, .if_icmp .eq 21, 3, 23, 0, 0) := by decide +kernel
theorem pa_110_21 : pz_at 110 21 = some (21, .iconst (-1), 1, 0, 0, 0) := by decide +kernel
theorem pa_110_22 : pz_at 110 22 = some (22, .ireturn, 1, 0, 0, 0) := by decide +kernel
theorem pa_110_23 : pz_at 110 23 = some (23, .aload_n 0, 1, 0, 0, 0) := by decide +kernel
theorem pa_110_24 : pz_at 110 24 = some (24, .getfield 156, 3, 7, 0, 911) := by decide +kernel
theorem pa_110_27 : pz_at 110 27 = some (27, .bipush 8, 2, 0, 0, 0) := by decide +kernel
theorem pa_110_29 : pz_at 110 29 = some (29, .if_icmp .ne 6, 3, 35, 0, 0) := by decide +kernel
theorem pa_110_32 : pz_at 110 32 = some (32, .bipush (-3), 2, 0, 0, 0) := by decide +kernel
theorem pa_110_34 : pz_at 110 34 = some (34, .ireturn, 1, 0, 0, 0) := by decide +kernel
theorem pa_110_35 : pz_at 110 35 = some (35, .aload_n 0, 1, 0, 0, 0) := by decide +kernel
theorem pa_110_36 : pz_at 110 36 = some (36, .iconst 0, 1, 0, 0, 0) := by decide +kernel
theorem pa_110_37 : pz_at 110 37 = some (37, .putfield 164, 3, 7, 21, 932) := by decide +kernel
theorem pa_110_40 : pz_at 110 40 = some (40, .aload_n 0, 1, 0, 0, 0) := by decide +kernel
theorem pa_110_41 : pz_at 110 41 = some (41, .getfield 7, 3, 7, 1, 912) := by decide +kernel
theorem pa_110_44 : pz_at 110 44 = some (44, .aload_n 0, 1, 0, 0, 0) := by decide +kernel
theorem pa_110_45 : pz_at 110 45 = some (45, .getfield 156, 3, 7, 0, 911) := by decide +kernel
theorem pa_110_48 : pz_at 110 48 = some (48, .iload_n 1, 1, 0, 0, 0) := by decide +kernel
theorem pa_110_49 : pz_at 110 49 = some (49, .iastore, 1, 0, 0, 0) := by decide +kernel
theorem pa_110_5 : pz_at 110 5 = some (5, .iload_n 1, 1, 0, 0, 0) := by decide +kernel
theorem pa_110_50 : pz_at 110 50 = some (50, .aload_n 0, 1, 0, 0, 0) := by decide +kernel
theorem pa_110_51 : pz_at 110 51 = some (51, .dup, 1, 0, 0, 0) := by decide +kernel
theorem pa_110_52 : pz_at 110 52 = some (52, .getfield 156, 3, 7, 0, 911) := by decide +kernel
theorem pa_110_55 : pz_at 110 55 = some (55, .iconst 1, 1, 0, 0, 0) := by decide +kernel
theorem pa_110_56 : pz_at 110 56 = some (56, .iadd, 1, 0, 0, 0) := by decide +kernel
theorem pa_110_57 : pz_at 110 57 = some (57, .putfield 156, 3, 7, 0, 911) := by decide +kernel
theorem pa_110_6 : pz_at 110 6 = some (6, .i2l, 1, 0, 0, 0) := by decide +kernel
theorem pa_110_60 : pz_at 110 60 = some (60, .aload_n 0, 1, 0, 0, 0) := by decide +kernel
theorem pa_110_61 : pz_at 110 61 = some (61, .getfield 156, 3, 7, 0, 911) := by decide +kernel
theorem pa_110_64 : pz_at 110 64 = some (64, .iconst 1, 1, 0, 0, 0) := by decide +kernel
theorem pa_110_65 : pz_at 110 65 = some (65, .isub, 1, 0, 0, 0) := by decide +kernel
theorem pa_110_66 : pz_at 110 66 = some (66, .ireturn, 1, 0, 0, 0) := by decide +kernel
theorem pa_110_7 : pz_at 110 7 = some (7, .lconst 0, 1, 0, 0, 0) := by decide +kernel
theorem pa_110_8 : pz_at 110 8 = some (8, .aload_n 0, 1, 0, 0, 0) := by decide +kernel
theorem pa_110_9 : pz_at 110 9 = some (9, .getfield 156, 3, 7, 0, 911) := by decide +kernel
theorem pf_55_7_0 : pz_gf 55 7 0 = some none := by decide +kernel
theorem pf_55_7_1 : pz_gf 55 7 1 = some (some 56) := by decide +kernel
theorem pf_55_7_21 : pz_gf 55 7 21 = some none := by decide +kernel
theorem pg_56 : pz_ga 56 = some (.int, 8) := by decide +kernel
theorem pm_109 : pz_mi 109 = (7, 6, (some .boolean)) := by decide +kernel
theorem pr_110 : (pz_mi 110).2.2 = (some .int) := by decide +kernel
theorem pa_111_0 : pz_at 111 0 = some (0, .iload_n 1, 1, 0, 0, 0) := by decide +kernel
theorem pa_111_1 : pz_at 111 1 = some (1, .istore_n 3, 1, 0, 0, 0) := by decide +kernel
theorem pa_111_11 : pz_at 111 11 = some (11, .aload_n 0, 1, 0, 0, 0) := by decide +kernel
theorem pa_111_12 : pz_at 111 12 = some (12, .getfield 7, 3, 7, 1, 912) := by decide +kernel
theorem pa_111_15 : pz_at 111 15 = some (15, .iload_n 3, 1, 0, 0, 0) := by decide +kernel
theorem pa_111_16 : pz_at 111 16 = some (16, .iaload, 1, 0, 0, 0) := by decide +kernel
theorem pa_111_17 : pz_at 111 17 = some (17, .istore_n 3, 1, 0, 0, 0) := by decide +kernel
theorem pa_111_18 : pz_at 111 18 = some (18, .goto (-16), 3, 2, 0, 0) := by decide +kernel
theorem pa_111_2 : pz_at 111 2 = some (2, .iload_n 3, 1, 0, 0, 0) := by decide +kernel
theorem pa_111_21 : pz_at 111 21 = some (21, .iload_n 3, 1, 0, 0, 0) := by decide +kernel
theorem pa_111_22 : pz_at 111 22 = some (22, .iload_n 2, 1, 0, 0, 0) := by decide +kernel
theorem pa_111_23 : pz_at 111 23 = some (23, .if_icmp .ne 11, 3, 34, 0, 0) := by decide +kernel
theorem pa_111_26 : pz_at 111 26 = some (26, .iload_n 3, 1, 0, 0, 0) := by decide +kernel
theorem pa_111_27 : pz_at 111 27 = some (27, .ifCond .lt 7, 3, 34, 0, 0) := by decide +kernel
theorem pa_111_3 : pz_at 111 3 = some (3, .ifCond .lt 18, 3, 21, 0, 0) := by decide +kernel
theorem pa_111_30 : pz_at 111 30 = some (30, .iconst 1, 1, 0, 0, 0) := by decide +kernel
theorem pa_111_31 : pz_at 111 31 = some (31, .goto 4, 3, 35, 0, 0) := by decide +kernel
theorem pa_111_34 : pz_at 111 34 = some (34, .iconst 0, 1, 0, 0, 0) := by decide +kernel
theorem pa_111_35 : pz_at 111 35 = some (35, .ireturn, 1, 0, 0, 0) := by decide +kernel
theorem pa_111_6 : pz_at 111 6 = some (6, .iload_n 3, 1, 0, 0, 0) := by decide +kernel
theorem pa_111_7 : pz_at 111 7 = some (7, .iload_n 2, 1, 0, 0, 0) := by decide +kernel
theorem pa_111_8 : pz_at 111 8 = some (8, .if_icmp .eq 13, 3, 21, 0, 0) := by decide +kernel
theorem pr_111 : (pz_mi 111).2.2 = (some .boolean) := by decide +kernel
theorem pa_112_0 : pz_at 112 0 = some (0, .iload_n 1, 1, 0, 0, 0) := by decide +kernel
theorem pa_112_1 : pz_at 112 1 = some (1, .i2l, 1, 0, 0, 0) := by decide +kernel
theorem pa_112_10 : pz_at 112 10 = some (10, .invokestatic 160, 3, 109, 3, 1129) := by decide +kernel
theorem pa_112_102 : pz_at 112 102 = some (102, .iconst 1, 1, 0, 0, 0) := by decide +kernel
theorem pa_112_103 : pz_at 112 103 = some (103, .iadd, 1, 0, 0, 0) := by decide +kernel
theorem pa_112_104 : pz_at 112 104 = some (104, .putfield 167, 3, 7, 2, 913) := by decide +kernel
theorem pa_112_107 : pz_at 112 107 = some (107, .aload_n 0, 1, 0, 0, 0) := by decide +kernel
theorem pa_112_108 : pz_at 112 108 = some (108, .getfield 167, 3, 7, 2, 913) := by decide +kernel
theorem pa_112_111 : pz_at 112 111 = some (111, .iconst 1, 1, 0, 0, 0) := by decide +kernel
theorem pa_112_112 : pz_at 112 112 = some (112, .isub, 1, 0, 0, 0) := by decide +kernel
theorem pa_112_113 : pz_at 112 113 = some (113, .ireturn, 1, 0, 0, 0) := by decide +kernel
theorem pa_112_13 : pz_at 112 13 = some (13, .ifCond .eq 5, 3, 18, 0, 0) := by decide +kernel
theorem pa_112_16 : pz_at 112 16 = some (16, .iconst (-1), 1, 0, 0, 0) := by decide +kernel
theorem pa_112_17 : pz_at 112 17 = some (17, .ireturn, 1, 0, 0, 0) := by decide +kernel
theorem pa_112_18 : pz_at 112 18 = some (18, .aload_n 0, 1, 0, 0, 0) := by decide +kernel
theorem pa_112_19 : pz_at 112 19 = some (19, .getfield 167, 3, 7, 2, 913) := by decide +kernel
theorem pa_112_2 : pz_at 112 2 = some (2, .lconst 0, 1, 0, 0, 0) := by decide +kernel
theorem pa_112_22 : pz_at 112 22 = some (22, .bipush 16, 2, 0, 0, 0) := by decide +kernel
theorem pa_112_24 : pz_at 112 24 = some (24, .if_icmp .ne 6, 3, 30, 0, 0) := by decide +kernel
theorem pa_112_27 : pz_at 112 27 = some (27, .bipush (-3), 2, 0, 0, 0) := by decide +kernel
theorem pa_112_29 : pz_at 112 29 = some (29, .ireturn, 1, 0, 0, 0) := by decide +kernel
theorem pa_112_3 : pz_at 112 3 = some (3, .aload_n 0, 1, 0, 0, 0) := by decide +kernel
theorem pa_112_30 : pz_at 112 30 = some (30, .iconst 0, 1, 0, 0, 0) := by decide +kernel
theorem pa_112_31 : pz_at 112 31 = some (31, .istore_n 3, 1, 0, 0, 0) := by decide +kernel
theorem pa_112_32 : pz_at 112 32 = some (32, .iload_n 3, 1, 0, 0, 0) := by decide +kernel
theorem pa_112_33 : pz_at 112 33 = some (33, .aload_n 0, 1, 0, 0, 0) := by decide +kernel
theorem pa_112_34 : pz_at 112 34 = some (34, .getfield 170, 3, 7, 22, 933) := by decide +kernel
theorem pa_112_37 : pz_at 112 37 = some (37, .if_icmp .ge 35, 3, 72, 0, 0) := by decide +kernel
theorem pa_112_4 : pz_at 112 4 = some (4, .getfield 156, 3, 7, 0, 911) := by decide +kernel
theorem pa_112_40 : pz_at 112 40 = some (40, .aload_n 0, 1, 0, 0, 0) := by decide +kernel
theorem pa_112_41 : pz_at 112 41 = some (41, .getfield 62, 3, 7, 23, 934) := by decide +kernel
theorem pa_112_44 : pz_at 112 44 = some (44, .iload_n 3, 1, 0, 0, 0) := by decide +kernel
theorem pa_112_45 : pz_at 112 45 = some (45, .iaload, 1, 0, 0, 0) := by decide +kernel
theorem pa_112_46 : pz_at 112 46 = some (46, .ifCond .lt 20, 3, 66, 0, 0) := by decide +kernel
theorem pa_112_49 : pz_at 112 49 = some (49, .aload_n 0, 1, 0, 0, 0) := by decide +kernel
theorem pa_112_50 : pz_at 112 50 = some (50, .aload_n 0, 1, 0, 0, 0) := by decide +kernel
theorem pa_112_51 : pz_at 112 51 = some (51, .getfield 62, 3, 7, 23, 934) := by decide +kernel
theorem pa_112_54 : pz_at 112 54 = some (54, .iload_n 3, 1, 0, 0, 0) := by decide +kernel
theorem pa_112_55 : pz_at 112 55 = some (55, .iaload, 1, 0, 0, 0) := by decide +kernel
theorem pa_112_56 : pz_at 112 56 = some (56, .iload_n 1, 1, 0, 0, 0) := by decide +kernel
theorem pa_112_57 : pz_at 112 57 = some (57, .invokevirtual 173, 3, 111, 2, 1136) := by decide +kernel
theorem pa_112_60 : pz_at 112 60 = some (60, .ifCond .eq 6, 3, 66, 0, 0) := by decide +kernel
theorem pa_112_63 : pz_at 112 63 = some (63, .bipush (-2), 2, 0, 0, 0) := by decide +kernel
theorem pa_112_65 : pz_at 112 65 = some (65, .ireturn, 1, 0, 0, 0) := by decide +kernel
theorem pa_112_66 : pz_at 112 66 = some (66, .iinc 3 1, 3, 0, 0, 0) := by decide +kernel
theorem pa_112_69 : pz_at 112 69 = some (69, .goto (-37), 3, 32, 0, 0) := by decide +kernel
theorem pa_112_7 : pz_at 112 7 = some (7, .iconst 1, 1, 0, 0, 0) := by decide +kernel
theorem pa_112_72 : pz_at 112 72 = some (72, .aload_n 0, 1, 0, 0, 0) := by decide +kernel
theorem pa_112_73 : pz_at 112 73 = some (73, .iconst 0, 1, 0, 0, 0) := by decide +kernel
theorem pa_112_74 : pz_at 112 74 = some (74, .putfield 164, 3, 7, 21, 932) := by decide +kernel
theorem pa_112_77 : pz_at 112 77 = some (77, .aload_n 0, 1, 0, 0, 0) := by decide +kernel
theorem pa_112_78 : pz_at 112 78 = some (78, .getfield 13, 3, 7, 3, 914) := by decide +kernel
theorem pa_112_8 : pz_at 112 8 = some (8, .isub, 1, 0, 0, 0) := by decide +kernel
theorem pa_112_81 : pz_at 112 81 = some (81, .aload_n 0, 1, 0, 0, 0) := by decide +kernel
theorem pa_112_82 : pz_at 112 82 = some (82, .getfield 167, 3, 7, 2, 913) := by decide +kernel
theorem pa_112_85 : pz_at 112 85 = some (85, .iload_n 1, 1, 0, 0, 0) := by decide +kernel
theorem pa_112_86 : pz_at 112 86 = some (86, .iastore, 1, 0, 0, 0) := by decide +kernel
theorem pa_112_87 : pz_at 112 87 = some (87, .aload_n 0, 1, 0, 0, 0) := by decide +kernel
theorem pa_112_88 : pz_at 112 88 = some (88, .getfield 16, 3, 7, 4, 915) := by decide +kernel
theorem pa_112_9 : pz_at 112 9 = some (9, .i2l, 1, 0, 0, 0) := by decide +kernel
theorem pa_112_91 : pz_at 112 91 = some (91, .aload_n 0, 1, 0, 0, 0) := by decide +kernel
theorem pa_112_92 : pz_at 112 92 = some (92, .getfield 167, 3, 7, 2, 913) := by decide +kernel
theorem pa_112_95 : pz_at 112 95 = some (95, .iload_n 2, 1, 0, 0, 0) := by decide +kernel
theorem pa_112_96 : pz_at 112 96 = some (96, .bastore, 1, 0, 0, 0) := by decide +kernel
theorem pa_112_97 : pz_at 112 97 = some (97, .aload_n 0, 1, 0, 0, 0) := by decide +kernel
theorem pa_112_98 : pz_at 112 98 = some (98, .dup, 1, 0, 0, 0) := by decide +kernel
theorem pa_112_99 : pz_at 112 99 = some (99, .getfield 167, 3, 7, 2, 913) := by decide +kernel
theorem pc_55 : pz_gc 55 = some 7 := by decide +kernel
theorem pf_55_7_2 : pz_gf 55 7 2 = some none := by decide +kernel
theorem pf_55_7_22 : pz_gf 55 7 22 = some none := by decide +kernel
theorem pf_55_7_23 : pz_gf 55 7 23 = some (some 73) := by decide +kernel
theorem pf_55_7_3 : pz_gf 55 7 3 = some (some 57) := by decide +kernel
theorem pf_55_7_4 : pz_gf 55 7 4 = some (some 58) := by decide +kernel
theorem pg_57 : pz_ga 57 = some (.int, 16) := by decide +kernel
theorem pg_58 : pz_ga 58 = some (.boolean, 16) := by decide +kernel
theorem pg_73 : pz_ga 73 = some (.int, 60) := by decide +kernel
theorem pm_111 : pz_mi 111 = (7, 4, (some .boolean)) := by decide +kernel
theorem pr_112 : (pz_mi 112).2.2 = (some .int) := by decide +kernel
theorem pa_113_0 : pz_at 113 0 = some (0, .aload_n 0, 1, 0, 0, 0) := by decide +kernel
theorem pa_113_1 : pz_at 113 1 = some (1, .getfield 177, 3, 7, 5, 916) := by decide +kernel
theorem pa_113_11 : pz_at 113 11 = some (11, .ireturn, 1, 0, 0, 0) := by decide +kernel
theorem pa_113_12 : pz_at 113 12 = some (12, .aload_n 0, 1, 0, 0, 0) := by decide +kernel
theorem pa_113_13 : pz_at 113 13 = some (13, .iconst 0, 1, 0, 0, 0) := by decide +kernel
theorem pa_113_14 : pz_at 113 14 = some (14, .putfield 164, 3, 7, 21, 932) := by decide +kernel
theorem pa_113_17 : pz_at 113 17 = some (17, .aload_n 0, 1, 0, 0, 0) := by decide +kernel
theorem pa_113_18 : pz_at 113 18 = some (18, .getfield 20, 3, 7, 6, 917) := by decide +kernel
theorem pa_113_21 : pz_at 113 21 = some (21, .aload_n 0, 1, 0, 0, 0) := by decide +kernel
theorem pa_113_22 : pz_at 113 22 = some (22, .getfield 177, 3, 7, 5, 916) := by decide +kernel
theorem pa_113_25 : pz_at 113 25 = some (25, .iload_n 1, 1, 0, 0, 0) := by decide +kernel
theorem pa_113_26 : pz_at 113 26 = some (26, .bastore, 1, 0, 0, 0) := by decide +kernel
theorem pa_113_27 : pz_at 113 27 = some (27, .aload_n 0, 1, 0, 0, 0) := by decide +kernel
theorem pa_113_28 : pz_at 113 28 = some (28, .getfield 71, 3, 7, 26, 937) := by decide +kernel
theorem pa_113_31 : pz_at 113 31 = some (31, .aload_n 0, 1, 0, 0, 0) := by decide +kernel
theorem pa_113_32 : pz_at 113 32 = some (32, .getfield 177, 3, 7, 5, 916) := by decide +kernel
theorem pa_113_35 : pz_at 113 35 = some (35, .iload_n 1, 1, 0, 0, 0) := by decide +kernel
theorem pa_113_36 : pz_at 113 36 = some (36, .ifCond .eq 7, 3, 43, 0, 0) := by decide +kernel
theorem pa_113_39 : pz_at 113 39 = some (39, .iconst (-1), 1, 0, 0, 0) := by decide +kernel
theorem pa_113_4 : pz_at 113 4 = some (4, .bipush 8, 2, 0, 0, 0) := by decide +kernel
theorem pa_113_40 : pz_at 113 40 = some (40, .goto 4, 3, 44, 0, 0) := by decide +kernel
theorem pa_113_43 : pz_at 113 43 = some (43, .iconst 0, 1, 0, 0, 0) := by decide +kernel
theorem pa_113_44 : pz_at 113 44 = some (44, .iastore, 1, 0, 0, 0) := by decide +kernel
theorem pa_113_45 : pz_at 113 45 = some (45, .aload_n 0, 1, 0, 0, 0) := by decide +kernel
theorem pa_113_46 : pz_at 113 46 = some (46, .dup, 1, 0, 0, 0) := by decide +kernel
theorem pa_113_47 : pz_at 113 47 = some (47, .getfield 177, 3, 7, 5, 916) := by decide +kernel
theorem pa_113_50 : pz_at 113 50 = some (50, .iconst 1, 1, 0, 0, 0) := by decide +kernel
theorem pa_113_51 : pz_at 113 51 = some (51, .iadd, 1, 0, 0, 0) := by decide +kernel
theorem pa_113_52 : pz_at 113 52 = some (52, .putfield 177, 3, 7, 5, 916) := by decide +kernel
theorem pa_113_55 : pz_at 113 55 = some (55, .aload_n 0, 1, 0, 0, 0) := by decide +kernel
theorem pa_113_56 : pz_at 113 56 = some (56, .getfield 177, 3, 7, 5, 916) := by decide +kernel
theorem pa_113_59 : pz_at 113 59 = some (59, .iconst 1, 1, 0, 0, 0) := by decide +kernel
theorem pa_113_6 : pz_at 113 6 = some (6, .if_icmp .ne 6, 3, 12, 0, 0) := by decide +kernel
theorem pa_113_60 : pz_at 113 60 = some (60, .isub, 1, 0, 0, 0) := by decide +kernel
theorem pa_113_61 : pz_at 113 61 = some (61, .ireturn, 1, 0, 0, 0) := by decide +kernel
theorem pa_113_9 : pz_at 113 9 = some (9, .bipush (-3), 2, 0, 0, 0) := by decide +kernel
theorem pf_55_7_26 : pz_gf 55 7 26 = some (some 76) := by decide +kernel
theorem pf_55_7_5 : pz_gf 55 7 5 = some none := by decide +kernel
theorem pf_55_7_6 : pz_gf 55 7 6 = some (some 59) := by decide +kernel
theorem pg_59 : pz_ga 59 = some (.boolean, 8) := by decide +kernel
theorem pg_76 : pz_ga 76 = some (.int, 8) := by decide +kernel
theorem pr_113 : (pz_mi 113).2.2 = (some .int) := by decide +kernel
theorem pa_114_0 : pz_at 114 0 = some (0, .iload_n 1, 1, 0, 0, 0) := by decide +kernel
theorem pa_114_1 : pz_at 114 1 = some (1, .i2l, 1, 0, 0, 0) := by decide +kernel
theorem pa_114_100 : pz_at 114 100 = some (100, .aload_n 0, 1, 0, 0, 0) := by decide +kernel
theorem pa_114_101 : pz_at 114 101 = some (101, .getfield 184, 3, 7, 7, 918) := by decide +kernel
theorem pa_114_104 : pz_at 114 104 = some (104, .iconst 0, 1, 0, 0, 0) := by decide +kernel
theorem pa_114_105 : pz_at 114 105 = some (105, .iastore, 1, 0, 0, 0) := by decide +kernel
theorem pa_114_106 : pz_at 114 106 = some (106, .aload_n 0, 1, 0, 0, 0) := by decide +kernel
theorem pa_114_107 : pz_at 114 107 = some (107, .dup, 1, 0, 0, 0) := by decide +kernel
theorem pa_114_108 : pz_at 114 108 = some (108, .getfield 184, 3, 7, 7, 918) := by decide +kernel
theorem pa_114_111 : pz_at 114 111 = some (111, .iconst 1, 1, 0, 0, 0) := by decide +kernel
theorem pa_114_112 : pz_at 114 112 = some (112, .iadd, 1, 0, 0, 0) := by decide +kernel
theorem pa_114_113 : pz_at 114 113 = some (113, .putfield 184, 3, 7, 7, 918) := by decide +kernel
theorem pa_114_116 : pz_at 114 116 = some (116, .aload_n 0, 1, 0, 0, 0) := by decide +kernel
theorem pa_114_117 : pz_at 114 117 = some (117, .getfield 184, 3, 7, 7, 918) := by decide +kernel
theorem pa_114_12 : pz_at 114 12 = some (12, .iload_n 2, 1, 0, 0, 0) := by decide +kernel
theorem pa_114_120 : pz_at 114 120 = some (120, .iconst 1, 1, 0, 0, 0) := by decide +kernel
theorem pa_114_121 : pz_at 114 121 = some (121, .isub, 1, 0, 0, 0) := by decide +kernel
theorem pa_114_122 : pz_at 114 122 = some (122, .ireturn, 1, 0, 0, 0) := by decide +kernel
theorem pa_114_13 : pz_at 114 13 = some (13, .i2l, 1, 0, 0, 0) := by decide +kernel
theorem pa_114_14 : pz_at 114 14 = some (14, .lconst 0, 1, 0, 0, 0) := by decide +kernel
theorem pa_114_15 : pz_at 114 15 = some (15, .ldc2_w 180, 3, 3, 0, 1148) := by decide +kernel
theorem pa_114_18 : pz_at 114 18 = some (18, .invokestatic 160, 3, 109, 3, 1129) := by decide +kernel
theorem pa_114_2 : pz_at 114 2 = some (2, .lconst 0, 1, 0, 0, 0) := by decide +kernel
theorem pa_114_21 : pz_at 114 21 = some (21, .ifCond .ne 15, 3, 36, 0, 0) := by decide +kernel
theorem pa_114_24 : pz_at 114 24 = some (24, .iload_n 3, 1, 0, 0, 0) := by decide +kernel
theorem pa_114_25 : pz_at 114 25 = some (25, .i2l, 1, 0, 0, 0) := by decide +kernel
theorem pa_114_26 : pz_at 114 26 = some (26, .lconst 0, 1, 0, 0, 0) := by decide +kernel
theorem pa_114_27 : pz_at 114 27 = some (27, .ldc2_w 182, 3, 2, 0, 1149) := by decide +kernel
theorem pa_114_3 : pz_at 114 3 = some (3, .ldc2_w 180, 3, 3, 0, 1148) := by decide +kernel
theorem pa_114_30 : pz_at 114 30 = some (30, .invokestatic 160, 3, 109, 3, 1129) := by decide +kernel
theorem pa_114_33 : pz_at 114 33 = some (33, .ifCond .eq 6, 3, 39, 0, 0) := by decide +kernel
theorem pa_114_36 : pz_at 114 36 = some (36, .bipush (-2), 2, 0, 0, 0) := by decide +kernel
theorem pa_114_38 : pz_at 114 38 = some (38, .ireturn, 1, 0, 0, 0) := by decide +kernel
theorem pa_114_39 : pz_at 114 39 = some (39, .aload_n 0, 1, 0, 0, 0) := by decide +kernel
theorem pa_114_40 : pz_at 114 40 = some (40, .getfield 184, 3, 7, 7, 918) := by decide +kernel
theorem pa_114_43 : pz_at 114 43 = some (43, .bipush 10, 2, 0, 0, 0) := by decide +kernel
theorem pa_114_45 : pz_at 114 45 = some (45, .if_icmp .ne 6, 3, 51, 0, 0) := by decide +kernel
theorem pa_114_48 : pz_at 114 48 = some (48, .bipush (-3), 2, 0, 0, 0) := by decide +kernel
theorem pa_114_50 : pz_at 114 50 = some (50, .ireturn, 1, 0, 0, 0) := by decide +kernel
theorem pa_114_51 : pz_at 114 51 = some (51, .aload_n 0, 1, 0, 0, 0) := by decide +kernel
theorem pa_114_52 : pz_at 114 52 = some (52, .iconst 0, 1, 0, 0, 0) := by decide +kernel
theorem pa_114_53 : pz_at 114 53 = some (53, .putfield 164, 3, 7, 21, 932) := by decide +kernel
theorem pa_114_56 : pz_at 114 56 = some (56, .aload_n 0, 1, 0, 0, 0) := by decide +kernel
theorem pa_114_57 : pz_at 114 57 = some (57, .getfield 23, 3, 7, 8, 919) := by decide +kernel
theorem pa_114_6 : pz_at 114 6 = some (6, .invokestatic 160, 3, 109, 3, 1129) := by decide +kernel
theorem pa_114_60 : pz_at 114 60 = some (60, .aload_n 0, 1, 0, 0, 0) := by decide +kernel
theorem pa_114_61 : pz_at 114 61 = some (61, .getfield 184, 3, 7, 7, 918) := by decide +kernel
theorem pa_114_64 : pz_at 114 64 = some (64, .iload_n 1, 1, 0, 0, 0) := by decide +kernel
theorem pa_114_65 : pz_at 114 65 = some (65, .iastore, 1, 0, 0, 0) := by decide +kernel
theorem pa_114_66 : pz_at 114 66 = some (66, .aload_n 0, 1, 0, 0, 0) := by decide +kernel
theorem pa_114_67 : pz_at 114 67 = some (67, .getfield 26, 3, 7, 9, 920) := by decide +kernel
theorem pa_114_70 : pz_at 114 70 = some (70, .aload_n 0, 1, 0, 0, 0) := by decide +kernel
theorem pa_114_71 : pz_at 114 71 = some (71, .getfield 184, 3, 7, 7, 918) := by decide +kernel
theorem pa_114_74 : pz_at 114 74 = some (74, .iload_n 2, 1, 0, 0, 0) := by decide +kernel
theorem pa_114_75 : pz_at 114 75 = some (75, .iastore, 1, 0, 0, 0) := by decide +kernel
theorem pa_114_76 : pz_at 114 76 = some (76, .aload_n 0, 1, 0, 0, 0) := by decide +kernel
theorem pa_114_77 : pz_at 114 77 = some (77, .getfield 29, 3, 7, 10, 921) := by decide +kernel
theorem pa_114_80 : pz_at 114 80 = some (80, .aload_n 0, 1, 0, 0, 0) := by decide +kernel
theorem pa_114_81 : pz_at 114 81 = some (81, .getfield 184, 3, 7, 7, 918) := by decide +kernel
theorem pa_114_84 : pz_at 114 84 = some (84, .iload_n 3, 1, 0, 0, 0) := by decide +kernel
theorem pa_114_85 : pz_at 114 85 = some (85, .iastore, 1, 0, 0, 0) := by decide +kernel
theorem pa_114_86 : pz_at 114 86 = some (86, .aload_n 0, 1, 0, 0, 0) := by decide +kernel
theorem pa_114_87 : pz_at 114 87 = some (87, .getfield 32, 3, 7, 11, 922) := by decide +kernel
theorem pa_114_9 : pz_at 114 9 = some (9, .ifCond .ne 27, 3, 36, 0, 0) := by decide +kernel
theorem pa_114_90 : pz_at 114 90 = some (90, .aload_n 0, 1, 0, 0, 0) := by decide +kernel
theorem pa_114_91 : pz_at 114 91 = some (91, .getfield 184, 3, 7, 7, 918) := by decide +kernel
theorem pa_114_94 : pz_at 114 94 = some (94, .iconst 0, 1, 0, 0, 0) := by decide +kernel
theorem pa_114_95 : pz_at 114 95 = some (95, .iastore, 1, 0, 0, 0) := by decide +kernel
theorem pa_114_96 : pz_at 114 96 = some (96, .aload_n 0, 1, 0, 0, 0) := by decide +kernel
theorem pa_114_97 : pz_at 114 97 = some (97, .getfield 47, 3, 7, 16, 927) := by decide +kernel
theorem pf_55_7_10 : pz_gf 55 7 10 = some (some 62) := by decide +kernel
theorem pf_55_7_11 : pz_gf 55 7 11 = some (some 63) := by decide +kernel
theorem pf_55_7_16 : pz_gf 55 7 16 = some (some 68) := by decide +kernel
theorem pf_55_7_7 : pz_gf 55 7 7 = some none := by decide +kernel
theorem pf_55_7_8 : pz_gf 55 7 8 = some (some 60) := by decide +kernel
theorem pf_55_7_9 : pz_gf 55 7 9 = some (some 61) := by decide +kernel
theorem pg_60 : pz_ga 60 = some (.int, 10) := by decide +kernel
theorem pg_61 : pz_ga 61 = some (.int, 10) := by decide +kernel
theorem pg_62 : pz_ga 62 = some (.int, 10) := by decide +kernel
theorem pg_63 : pz_ga 63 = some (.int, 10) := by decide +kernel
theorem pg_68 : pz_ga 68 = some (.int, 10) := by decide +kernel
theorem pr_114 : (pz_mi 114).2.2 = (some .int) := by decide +kernel
theorem pa_115_0 : pz_at 115 0 = some (0, .iload_n 0, 1, 0, 0, 0) := by decide +kernel
theorem pa_115_1 : pz_at 115 1 = some (1, .i2l, 1, 0, 0, 0) := by decide +kernel
theorem pa_115_12 : pz_at 115 12 = some (12, .iconst 1, 1, 0, 0, 0) := by decide +kernel
theorem pa_115_13 : pz_at 115 13 = some (13, .goto 4, 3, 17, 0, 0) := by decide +kernel
theorem pa_115_16 : pz_at 115 16 = some (16, .iconst 0, 1, 0, 0, 0) := by decide +kernel
theorem pa_115_17 : pz_at 115 17 = some (17, .ireturn, 1, 0, 0, 0) := by decide +kernel
theorem pa_115_2 : pz_at 115 2 = some (2, .lconst 0, 1, 0, 0, 0) := by decide +kernel
theorem pa_115_3 : pz_at 115 3 = some (3, .ldc2_w 187, 3, 7, 0, 1162) := by decide +kernel
theorem pa_115_6 : pz_at 115 6 = some (6, .invokestatic 160, 3, 109, 3, 1129) := by decide +kernel
theorem pa_115_9 : pz_at 115 9 = some (9, .ifCond .ne 7, 3, 16, 0, 0) := by decide +kernel
theorem pr_115 : (pz_mi 115).2.2 = (some .boolean) := by decide +kernel
theorem pa_116_0 : pz_at 116 0 = some (0, .iload_n 1, 1, 0, 0, 0) := by decide +kernel
theorem pa_116_1 : pz_at 116 1 = some (1, .i2l, 1, 0, 0, 0) := by decide +kernel
theorem pa_116_10 : pz_at 116 10 = some (10, .invokestatic 160, 3, 109, 3, 1129) := by decide +kernel
theorem pa_116_13 : pz_at 116 13 = some (13, .ifCond .ne 17, 3, 30, 0, 0) := by decide +kernel
theorem pa_116_16 : pz_at 116 16 = some (16, .aload_n 0, 1, 0, 0, 0) := by decide +kernel
theorem pa_116_17 : pz_at 116 17 = some (17, .getfield 16, 3, 7, 4, 915) := by decide +kernel
theorem pa_116_2 : pz_at 116 2 = some (2, .lconst 0, 1, 0, 0, 0) := by decide +kernel
theorem pa_116_20 : pz_at 116 20 = some (20, .iload_n 1, 1, 0, 0, 0) := by decide +kernel
theorem pa_116_21 : pz_at 116 21 = some (21, .baload, 1, 0, 0, 0) := by decide +kernel
theorem pa_116_22 : pz_at 116 22 = some (22, .iload_n 2, 1, 0, 0, 0) := by decide +kernel
theorem pa_116_23 : pz_at 116 23 = some (23, .if_icmp .ne 7, 3, 30, 0, 0) := by decide +kernel
theorem pa_116_26 : pz_at 116 26 = some (26, .iconst 1, 1, 0, 0, 0) := by decide +kernel
theorem pa_116_27 : pz_at 116 27 = some (27, .goto 4, 3, 31, 0, 0) := by decide +kernel
theorem pa_116_3 : pz_at 116 3 = some (3, .aload_n 0, 1, 0, 0, 0) := by decide +kernel
theorem pa_116_30 : pz_at 116 30 = some (30, .iconst 0, 1, 0, 0, 0) := by decide +kernel
theorem pa_116_31 : pz_at 116 31 = some (31, .ireturn, 1, 0, 0, 0) := by decide +kernel
theorem pa_116_4 : pz_at 116 4 = some (4, .getfield 167, 3, 7, 2, 913) := by decide +kernel
theorem pa_116_7 : pz_at 116 7 = some (7, .iconst 1, 1, 0, 0, 0) := by decide +kernel
theorem pa_116_8 : pz_at 116 8 = some (8, .isub, 1, 0, 0, 0) := by decide +kernel
theorem pa_116_9 : pz_at 116 9 = some (9, .i2l, 1, 0, 0, 0) := by decide +kernel
theorem pr_116 : (pz_mi 116).2.2 = (some .boolean) := by decide +kernel
theorem pa_117_0 : pz_at 117 0 = some (0, .iload_n 1, 1, 0, 0, 0) := by decide +kernel
theorem pa_117_1 : pz_at 117 1 = some (1, .i2l, 1, 0, 0, 0) := by decide +kernel
theorem pa_117_10 : pz_at 117 10 = some (10, .invokestatic 160, 3, 109, 3, 1129) := by decide +kernel
theorem pa_117_13 : pz_at 117 13 = some (13, .ifCond .ne 17, 3, 30, 0, 0) := by decide +kernel
theorem pa_117_16 : pz_at 117 16 = some (16, .aload_n 0, 1, 0, 0, 0) := by decide +kernel
theorem pa_117_17 : pz_at 117 17 = some (17, .getfield 20, 3, 7, 6, 917) := by decide +kernel
theorem pa_117_2 : pz_at 117 2 = some (2, .lconst 0, 1, 0, 0, 0) := by decide +kernel
theorem pa_117_20 : pz_at 117 20 = some (20, .iload_n 1, 1, 0, 0, 0) := by decide +kernel
theorem pa_117_21 : pz_at 117 21 = some (21, .baload, 1, 0, 0, 0) := by decide +kernel
theorem pa_117_22 : pz_at 117 22 = some (22, .iload_n 2, 1, 0, 0, 0) := by decide +kernel
theorem pa_117_23 : pz_at 117 23 = some (23, .if_icmp .ne 7, 3, 30, 0, 0) := by decide +kernel
theorem pa_117_26 : pz_at 117 26 = some (26, .iconst 1, 1, 0, 0, 0) := by decide +kernel
theorem pa_117_27 : pz_at 117 27 = some (27, .goto 4, 3, 31, 0, 0) := by decide +kernel
theorem pa_117_3 : pz_at 117 3 = some (3, .aload_n 0, 1, 0, 0, 0) := by decide +kernel
theorem pa_117_30 : pz_at 117 30 = some (30, .iconst 0, 1, 0, 0, 0) := by decide +kernel
theorem pa_117_31 : pz_at 117 31 = some (31, .ireturn, 1, 0, 0, 0) := by decide +kernel
theorem pa_117_4 : pz_at 117 4 = some (4, .getfield 177, 3, 7, 5, 916) := by decide +kernel
theorem pa_117_7 : pz_at 117 7 = some (7, .iconst 1, 1, 0, 0, 0) := by decide +kernel
theorem pa_117_8 : pz_at 117 8 = some (8, .isub, 1, 0, 0, 0) := by decide +kernel
theorem pa_117_9 : pz_at 117 9 = some (9, .i2l, 1, 0, 0, 0) := by decide +kernel
theorem pr_117 : (pz_mi 117).2.2 = (some .boolean) := by decide +kernel
theorem pa_118_0 : pz_at 118 0 = some (0, .iload_n 2, 1, 0, 0, 0) := by decide +kernel
theorem pa_118_1 : pz_at 118 1 = some (1, .tableswitch 585 0 30 #[139, 144, 144, 144, 144, 144, 139, 173, 194, 173, 224, 224, 255, 255, 144, 144, 286, 332, 309, 355, 173, 378, 139, 445, 445, 479, 445, 505, 548, 194, 567], 139, 0, 0, 0) := by decide +kernel
theorem pa_118_140 : pz_at 118 140 = some (140, .iload_n 3, 1, 0, 0, 0) := by decide +kernel
theorem pa_118_141 : pz_at 118 141 = some (141, .invokestatic 189, 3, 115, 1, 1159) := by decide +kernel
theorem pa_118_144 : pz_at 118 144 = some (144, .ireturn, 1, 0, 0, 0) := by decide +kernel
theorem pa_118_145 : pz_at 118 145 = some (145, .iload_n 3, 1, 0, 0, 0) := by decide +kernel
theorem pa_118_146 : pz_at 118 146 = some (146, .invokestatic 189, 3, 115, 1, 1159) := by decide +kernel
theorem pa_118_149 : pz_at 118 149 = some (149, .ifCond .eq 23, 3, 172, 0, 0) := by decide +kernel
theorem pa_118_152 : pz_at 118 152 = some (152, .iload 4, 2, 0, 0, 0) := by decide +kernel
theorem pa_118_154 : pz_at 118 154 = some (154, .invokestatic 189, 3, 115, 1, 1159) := by decide +kernel
theorem pa_118_157 : pz_at 118 157 = some (157, .ifCond .eq 15, 3, 172, 0, 0) := by decide +kernel
theorem pa_118_160 : pz_at 118 160 = some (160, .iload 5, 2, 0, 0, 0) := by decide +kernel
theorem pa_118_162 : pz_at 118 162 = some (162, .invokestatic 189, 3, 115, 1, 1159) := by decide +kernel
theorem pa_118_165 : pz_at 118 165 = some (165, .ifCond .eq 7, 3, 172, 0, 0) := by decide +kernel
theorem pa_118_168 : pz_at 118 168 = some (168, .iconst 1, 1, 0, 0, 0) := by decide +kernel
theorem pa_118_169 : pz_at 118 169 = some (169, .goto 4, 3, 173, 0, 0) := by decide +kernel
theorem pa_118_172 : pz_at 118 172 = some (172, .iconst 0, 1, 0, 0, 0) := by decide +kernel
theorem pa_118_173 : pz_at 118 173 = some (173, .ireturn, 1, 0, 0, 0) := by decide +kernel
theorem pa_118_174 : pz_at 118 174 = some (174, .iload_n 3, 1, 0, 0, 0) := by decide +kernel
theorem pa_118_175 : pz_at 118 175 = some (175, .invokestatic 189, 3, 115, 1, 1159) := by decide +kernel
theorem pa_118_178 : pz_at 118 178 = some (178, .ifCond .eq 15, 3, 193, 0, 0) := by decide +kernel
theorem pa_118_181 : pz_at 118 181 = some (181, .iload 4, 2, 0, 0, 0) := by decide +kernel
theorem pa_118_183 : pz_at 118 183 = some (183, .invokestatic 189, 3, 115, 1, 1159) := by decide +kernel
theorem pa_118_186 : pz_at 118 186 = some (186, .ifCond .eq 7, 3, 193, 0, 0) := by decide +kernel
theorem pa_118_189 : pz_at 118 189 = some (189, .iconst 1, 1, 0, 0, 0) := by decide +kernel
theorem pa_118_190 : pz_at 118 190 = some (190, .goto 4, 3, 194, 0, 0) := by decide +kernel
theorem pa_118_193 : pz_at 118 193 = some (193, .iconst 0, 1, 0, 0, 0) := by decide +kernel
theorem pa_118_194 : pz_at 118 194 = some (194, .ireturn, 1, 0, 0, 0) := by decide +kernel
theorem pa_118_195 : pz_at 118 195 = some (195, .iload_n 3, 1, 0, 0, 0) := by decide +kernel
theorem pa_118_196 : pz_at 118 196 = some (196, .invokestatic 189, 3, 115, 1, 1159) := by decide +kernel
theorem pa_118_199 : pz_at 118 199 = some (199, .ifCond .eq 24, 3, 223, 0, 0) := by decide +kernel
theorem pa_118_202 : pz_at 118 202 = some (202, .iload 4, 2, 0, 0, 0) := by decide +kernel
theorem pa_118_204 : pz_at 118 204 = some (204, .i2l, 1, 0, 0, 0) := by decide +kernel
theorem pa_118_205 : pz_at 118 205 = some (205, .lconst 0, 1, 0, 0, 0) := by decide +kernel
theorem pa_118_206 : pz_at 118 206 = some (206, .aload_n 0, 1, 0, 0, 0) := by decide +kernel
theorem pa_118_207 : pz_at 118 207 = some (207, .getfield 156, 3, 7, 0, 911) := by decide +kernel
theorem pa_118_210 : pz_at 118 210 = some (210, .iconst 1, 1, 0, 0, 0) := by decide +kernel
theorem pa_118_211 : pz_at 118 211 = some (211, .isub, 1, 0, 0, 0) := by decide +kernel
theorem pa_118_212 : pz_at 118 212 = some (212, .i2l, 1, 0, 0, 0) := by decide +kernel
theorem pa_118_213 : pz_at 118 213 = some (213, .invokestatic 160, 3, 109, 3, 1129) := by decide +kernel
theorem pa_118_216 : pz_at 118 216 = some (216, .ifCond .ne 7, 3, 223, 0, 0) := by decide +kernel
theorem pa_118_219 : pz_at 118 219 = some (219, .iconst 1, 1, 0, 0, 0) := by decide +kernel
theorem pa_118_220 : pz_at 118 220 = some (220, .goto 4, 3, 224, 0, 0) := by decide +kernel
theorem pa_118_223 : pz_at 118 223 = some (223, .iconst 0, 1, 0, 0, 0) := by decide +kernel
theorem pa_118_224 : pz_at 118 224 = some (224, .ireturn, 1, 0, 0, 0) := by decide +kernel
theorem pa_118_225 : pz_at 118 225 = some (225, .iload_n 3, 1, 0, 0, 0) := by decide +kernel
theorem pa_118_226 : pz_at 118 226 = some (226, .invokestatic 189, 3, 115, 1, 1159) := by decide +kernel
theorem pa_118_229 : pz_at 118 229 = some (229, .ifCond .eq 25, 3, 254, 0, 0) := by decide +kernel
theorem pa_118_232 : pz_at 118 232 = some (232, .iload 4, 2, 0, 0, 0) := by decide +kernel
theorem pa_118_234 : pz_at 118 234 = some (234, .invokestatic 189, 3, 115, 1, 1159) := by decide +kernel
theorem pa_118_237 : pz_at 118 237 = some (237, .ifCond .eq 17, 3, 254, 0, 0) := by decide +kernel
theorem pa_118_240 : pz_at 118 240 = some (240, .aload_n 0, 1, 0, 0, 0) := by decide +kernel
theorem pa_118_241 : pz_at 118 241 = some (241, .iload 5, 2, 0, 0, 0) := by decide +kernel
theorem pa_118_243 : pz_at 118 243 = some (243, .iconst 0, 1, 0, 0, 0) := by decide +kernel
theorem pa_118_244 : pz_at 118 244 = some (244, .invokevirtual 193, 3, 116, 2, 1163) := by decide +kernel
theorem pa_118_247 : pz_at 118 247 = some (247, .ifCond .eq 7, 3, 254, 0, 0) := by decide +kernel
theorem pa_118_250 : pz_at 118 250 = some (250, .iconst 1, 1, 0, 0, 0) := by decide +kernel
theorem pa_118_251 : pz_at 118 251 = some (251, .goto 4, 3, 255, 0, 0) := by decide +kernel
theorem pa_118_254 : pz_at 118 254 = some (254, .iconst 0, 1, 0, 0, 0) := by decide +kernel
theorem pa_118_255 : pz_at 118 255 = some (255, .ireturn, 1, 0, 0, 0) := by decide +kernel
theorem pa_118_256 : pz_at 118 256 = some (256, .iload_n 3, 1, 0, 0, 0) := by decide +kernel
theorem pa_118_257 : pz_at 118 257 = some (257, .invokestatic 189, 3, 115, 1, 1159) := by decide +kernel
theorem pa_118_260 : pz_at 118 260 = some (260, .ifCond .eq 25, 3, 285, 0, 0) := by decide +kernel
theorem pa_118_263 : pz_at 118 263 = some (263, .iload 4, 2, 0, 0, 0) := by decide +kernel
theorem pa_118_265 : pz_at 118 265 = some (265, .invokestatic 189, 3, 115, 1, 1159) := by decide +kernel
theorem pa_118_268 : pz_at 118 268 = some (268, .ifCond .eq 17, 3, 285, 0, 0) := by decide +kernel
theorem pa_118_271 : pz_at 118 271 = some (271, .aload_n 0, 1, 0, 0, 0) := by decide +kernel
theorem pa_118_272 : pz_at 118 272 = some (272, .iload 5, 2, 0, 0, 0) := by decide +kernel
theorem pa_118_274 : pz_at 118 274 = some (274, .iconst 1, 1, 0, 0, 0) := by decide +kernel
theorem pa_118_275 : pz_at 118 275 = some (275, .invokevirtual 193, 3, 116, 2, 1163) := by decide +kernel
theorem pa_118_278 : pz_at 118 278 = some (278, .ifCond .eq 7, 3, 285, 0, 0) := by decide +kernel
theorem pa_118_281 : pz_at 118 281 = some (281, .iconst 1, 1, 0, 0, 0) := by decide +kernel
theorem pa_118_282 : pz_at 118 282 = some (282, .goto 4, 3, 286, 0, 0) := by decide +kernel
theorem pa_118_285 : pz_at 118 285 = some (285, .iconst 0, 1, 0, 0, 0) := by decide +kernel
theorem pa_118_286 : pz_at 118 286 = some (286, .ireturn, 1, 0, 0, 0) := by decide +kernel
theorem pa_118_287 : pz_at 118 287 = some (287, .iload_n 3, 1, 0, 0, 0) := by decide +kernel
theorem pa_118_288 : pz_at 118 288 = some (288, .invokestatic 189, 3, 115, 1, 1159) := by decide +kernel
theorem pa_118_291 : pz_at 118 291 = some (291, .ifCond .eq 17, 3, 308, 0, 0) := by decide +kernel
theorem pa_118_294 : pz_at 118 294 = some (294, .aload_n 0, 1, 0, 0, 0) := by decide +kernel
theorem pa_118_295 : pz_at 118 295 = some (295, .iload 4, 2, 0, 0, 0) := by decide +kernel
theorem pa_118_297 : pz_at 118 297 = some (297, .iconst 0, 1, 0, 0, 0) := by decide +kernel
theorem pa_118_298 : pz_at 118 298 = some (298, .invokevirtual 197, 3, 117, 2, 1167) := by decide +kernel
theorem pa_118_301 : pz_at 118 301 = some (301, .ifCond .eq 7, 3, 308, 0, 0) := by decide +kernel
theorem pa_118_304 : pz_at 118 304 = some (304, .iconst 1, 1, 0, 0, 0) := by decide +kernel
theorem pa_118_305 : pz_at 118 305 = some (305, .goto 4, 3, 309, 0, 0) := by decide +kernel
theorem pa_118_308 : pz_at 118 308 = some (308, .iconst 0, 1, 0, 0, 0) := by decide +kernel
theorem pa_118_309 : pz_at 118 309 = some (309, .ireturn, 1, 0, 0, 0) := by decide +kernel
theorem pa_118_310 : pz_at 118 310 = some (310, .iload_n 3, 1, 0, 0, 0) := by decide +kernel
theorem pa_118_311 : pz_at 118 311 = some (311, .invokestatic 189, 3, 115, 1, 1159) := by decide +kernel
theorem pa_118_314 : pz_at 118 314 = some (314, .ifCond .eq 17, 3, 331, 0, 0) := by decide +kernel
theorem pa_118_317 : pz_at 118 317 = some (317, .aload_n 0, 1, 0, 0, 0) := by decide +kernel
theorem pa_118_318 : pz_at 118 318 = some (318, .iload 4, 2, 0, 0, 0) := by decide +kernel
theorem pa_118_320 : pz_at 118 320 = some (320, .iconst 1, 1, 0, 0, 0) := by decide +kernel
theorem pa_118_321 : pz_at 118 321 = some (321, .invokevirtual 197, 3, 117, 2, 1167) := by decide +kernel
theorem pa_118_324 : pz_at 118 324 = some (324, .ifCond .eq 7, 3, 331, 0, 0) := by decide +kernel
theorem pa_118_327 : pz_at 118 327 = some (327, .iconst 1, 1, 0, 0, 0) := by decide +kernel
theorem pa_118_328 : pz_at 118 328 = some (328, .goto 4, 3, 332, 0, 0) := by decide +kernel
theorem pa_118_331 : pz_at 118 331 = some (331, .iconst 0, 1, 0, 0, 0) := by decide +kernel
theorem pa_118_332 : pz_at 118 332 = some (332, .ireturn, 1, 0, 0, 0) := by decide +kernel
theorem pa_118_333 : pz_at 118 333 = some (333, .iload 4, 2, 0, 0, 0) := by decide +kernel
theorem pa_118_335 : pz_at 118 335 = some (335, .invokestatic 189, 3, 115, 1, 1159) := by decide +kernel
theorem pa_118_338 : pz_at 118 338 = some (338, .ifCond .eq 16, 3, 354, 0, 0) := by decide +kernel
theorem pa_118_341 : pz_at 118 341 = some (341, .aload_n 0, 1, 0, 0, 0) := by decide +kernel
theorem pa_118_342 : pz_at 118 342 = some (342, .iload_n 3, 1, 0, 0, 0) := by decide +kernel
theorem pa_118_343 : pz_at 118 343 = some (343, .iconst 0, 1, 0, 0, 0) := by decide +kernel
theorem pa_118_344 : pz_at 118 344 = some (344, .invokevirtual 197, 3, 117, 2, 1167) := by decide +kernel
theorem pa_118_347 : pz_at 118 347 = some (347, .ifCond .eq 7, 3, 354, 0, 0) := by decide +kernel
theorem pa_118_350 : pz_at 118 350 = some (350, .iconst 1, 1, 0, 0, 0) := by decide +kernel
theorem pa_118_351 : pz_at 118 351 = some (351, .goto 4, 3, 355, 0, 0) := by decide +kernel
theorem pa_118_354 : pz_at 118 354 = some (354, .iconst 0, 1, 0, 0, 0) := by decide +kernel
theorem pa_118_355 : pz_at 118 355 = some (355, .ireturn, 1, 0, 0, 0) := by decide +kernel
theorem pa_118_356 : pz_at 118 356 = some (356, .iload 4, 2, 0, 0, 0) := by decide +kernel
theorem pa_118_358 : pz_at 118 358 = some (358, .invokestatic 189, 3, 115, 1, 1159) := by decide +kernel
theorem pa_118_361 : pz_at 118 361 = some (361, .ifCond .eq 16, 3, 377, 0, 0) := by decide +kernel
theorem pa_118_364 : pz_at 118 364 = some (364, .aload_n 0, 1, 0, 0, 0) := by decide +kernel
theorem pa_118_365 : pz_at 118 365 = some (365, .iload_n 3, 1, 0, 0, 0) := by decide +kernel
theorem pa_118_366 : pz_at 118 366 = some (366, .iconst 1, 1, 0, 0, 0) := by decide +kernel
theorem pa_118_367 : pz_at 118 367 = some (367, .invokevirtual 197, 3, 117, 2, 1167) := by decide +kernel
theorem pa_118_370 : pz_at 118 370 = some (370, .ifCond .eq 7, 3, 377, 0, 0) := by decide +kernel
theorem pa_118_373 : pz_at 118 373 = some (373, .iconst 1, 1, 0, 0, 0) := by decide +kernel
theorem pa_118_374 : pz_at 118 374 = some (374, .goto 4, 3, 378, 0, 0) := by decide +kernel
theorem pa_118_377 : pz_at 118 377 = some (377, .iconst 0, 1, 0, 0, 0) := by decide +kernel
theorem pa_118_378 : pz_at 118 378 = some (378, .ireturn, 1, 0, 0, 0) := by decide +kernel
theorem pa_118_379 : pz_at 118 379 = some (379, .iload_n 3, 1, 0, 0, 0) := by decide +kernel
theorem pa_118_380 : pz_at 118 380 = some (380, .invokestatic 189, 3, 115, 1, 1159) := by decide +kernel
theorem pa_118_383 : pz_at 118 383 = some (383, .ifCond .eq 61, 3, 444, 0, 0) := by decide +kernel
theorem pa_118_386 : pz_at 118 386 = some (386, .iload 5, 2, 0, 0, 0) := by decide +kernel
theorem pa_118_388 : pz_at 118 388 = some (388, .invokestatic 189, 3, 115, 1, 1159) := by decide +kernel
theorem pa_118_391 : pz_at 118 391 = some (391, .ifCond .eq 53, 3, 444, 0, 0) := by decide +kernel
theorem pa_118_394 : pz_at 118 394 = some (394, .iload 4, 2, 0, 0, 0) := by decide +kernel
theorem pa_118_396 : pz_at 118 396 = some (396, .i2l, 1, 0, 0, 0) := by decide +kernel
theorem pa_118_397 : pz_at 118 397 = some (397, .lconst 0, 1, 0, 0, 0) := by decide +kernel
theorem pa_118_398 : pz_at 118 398 = some (398, .aload_n 0, 1, 0, 0, 0) := by decide +kernel
theorem pa_118_399 : pz_at 118 399 = some (399, .getfield 184, 3, 7, 7, 918) := by decide +kernel
theorem pa_118_402 : pz_at 118 402 = some (402, .iconst 1, 1, 0, 0, 0) := by decide +kernel
theorem pa_118_403 : pz_at 118 403 = some (403, .isub, 1, 0, 0, 0) := by decide +kernel
theorem pa_118_404 : pz_at 118 404 = some (404, .i2l, 1, 0, 0, 0) := by decide +kernel
theorem pa_118_405 : pz_at 118 405 = some (405, .invokestatic 160, 3, 109, 3, 1129) := by decide +kernel
theorem pa_118_408 : pz_at 118 408 = some (408, .ifCond .ne 36, 3, 444, 0, 0) := by decide +kernel
theorem pa_118_411 : pz_at 118 411 = some (411, .iload_n 3, 1, 0, 0, 0) := by decide +kernel
theorem pa_118_412 : pz_at 118 412 = some (412, .aload_n 0, 1, 0, 0, 0) := by decide +kernel
theorem pa_118_413 : pz_at 118 413 = some (413, .getfield 23, 3, 7, 8, 919) := by decide +kernel
theorem pa_118_416 : pz_at 118 416 = some (416, .iload 4, 2, 0, 0, 0) := by decide +kernel
theorem pa_118_418 : pz_at 118 418 = some (418, .iaload, 1, 0, 0, 0) := by decide +kernel
theorem pa_118_419 : pz_at 118 419 = some (419, .iadd, 1, 0, 0, 0) := by decide +kernel
theorem pa_118_420 : pz_at 118 420 = some (420, .bipush 8, 2, 0, 0, 0) := by decide +kernel
theorem pa_118_422 : pz_at 118 422 = some (422, .if_icmp .gt 22, 3, 444, 0, 0) := by decide +kernel
theorem pa_118_425 : pz_at 118 425 = some (425, .iload 5, 2, 0, 0, 0) := by decide +kernel
theorem pa_118_427 : pz_at 118 427 = some (427, .aload_n 0, 1, 0, 0, 0) := by decide +kernel
theorem pa_118_428 : pz_at 118 428 = some (428, .getfield 26, 3, 7, 9, 920) := by decide +kernel
theorem pa_118_431 : pz_at 118 431 = some (431, .iload 4, 2, 0, 0, 0) := by decide +kernel
theorem pa_118_433 : pz_at 118 433 = some (433, .iaload, 1, 0, 0, 0) := by decide +kernel
theorem pa_118_434 : pz_at 118 434 = some (434, .iadd, 1, 0, 0, 0) := by decide +kernel
theorem pa_118_435 : pz_at 118 435 = some (435, .bipush 8, 2, 0, 0, 0) := by decide +kernel
theorem pa_118_437 : pz_at 118 437 = some (437, .if_icmp .gt 7, 3, 444, 0, 0) := by decide +kernel
theorem pa_118_440 : pz_at 118 440 = some (440, .iconst 1, 1, 0, 0, 0) := by decide +kernel
theorem pa_118_441 : pz_at 118 441 = some (441, .goto 4, 3, 445, 0, 0) := by decide +kernel
theorem pa_118_444 : pz_at 118 444 = some (444, .iconst 0, 1, 0, 0, 0) := by decide +kernel
theorem pa_118_445 : pz_at 118 445 = some (445, .ireturn, 1, 0, 0, 0) := by decide +kernel
theorem pa_118_446 : pz_at 118 446 = some (446, .iload_n 3, 1, 0, 0, 0) := by decide +kernel
theorem pa_118_447 : pz_at 118 447 = some (447, .invokestatic 189, 3, 115, 1, 1159) := by decide +kernel
theorem pa_118_450 : pz_at 118 450 = some (450, .ifCond .eq 28, 3, 478, 0, 0) := by decide +kernel
theorem pa_118_453 : pz_at 118 453 = some (453, .iload 4, 2, 0, 0, 0) := by decide +kernel
theorem pa_118_455 : pz_at 118 455 = some (455, .invokestatic 189, 3, 115, 1, 1159) := by decide +kernel
theorem pa_118_458 : pz_at 118 458 = some (458, .ifCond .eq 20, 3, 478, 0, 0) := by decide +kernel
theorem pa_118_461 : pz_at 118 461 = some (461, .iload 5, 2, 0, 0, 0) := by decide +kernel
theorem pa_118_463 : pz_at 118 463 = some (463, .i2l, 1, 0, 0, 0) := by decide +kernel
theorem pa_118_464 : pz_at 118 464 = some (464, .lconst 0, 1, 0, 0, 0) := by decide +kernel
theorem pa_118_465 : pz_at 118 465 = some (465, .ldc2_w 200, 3, 24, 0, 1171) := by decide +kernel
theorem pa_118_468 : pz_at 118 468 = some (468, .invokestatic 160, 3, 109, 3, 1129) := by decide +kernel
theorem pa_118_471 : pz_at 118 471 = some (471, .ifCond .ne 7, 3, 478, 0, 0) := by decide +kernel
theorem pa_118_474 : pz_at 118 474 = some (474, .iconst 1, 1, 0, 0, 0) := by decide +kernel
theorem pa_118_475 : pz_at 118 475 = some (475, .goto 4, 3, 479, 0, 0) := by decide +kernel
theorem pa_118_478 : pz_at 118 478 = some (478, .iconst 0, 1, 0, 0, 0) := by decide +kernel
theorem pa_118_479 : pz_at 118 479 = some (479, .ireturn, 1, 0, 0, 0) := by decide +kernel
theorem pa_118_480 : pz_at 118 480 = some (480, .iload_n 3, 1, 0, 0, 0) := by decide +kernel
theorem pa_118_481 : pz_at 118 481 = some (481, .invokestatic 189, 3, 115, 1, 1159) := by decide +kernel
theorem pa_118_484 : pz_at 118 484 = some (484, .ifCond .eq 20, 3, 504, 0, 0) := by decide +kernel
theorem pa_118_487 : pz_at 118 487 = some (487, .iload 5, 2, 0, 0, 0) := by decide +kernel
theorem pa_118_489 : pz_at 118 489 = some (489, .i2l, 1, 0, 0, 0) := by decide +kernel
theorem pa_118_490 : pz_at 118 490 = some (490, .lconst 0, 1, 0, 0, 0) := by decide +kernel
theorem pa_118_491 : pz_at 118 491 = some (491, .ldc2_w 200, 3, 24, 0, 1171) := by decide +kernel
theorem pa_118_494 : pz_at 118 494 = some (494, .invokestatic 160, 3, 109, 3, 1129) := by decide +kernel
theorem pa_118_497 : pz_at 118 497 = some (497, .ifCond .ne 7, 3, 504, 0, 0) := by decide +kernel
theorem pa_118_500 : pz_at 118 500 = some (500, .iconst 1, 1, 0, 0, 0) := by decide +kernel
theorem pa_118_501 : pz_at 118 501 = some (501, .goto 4, 3, 505, 0, 0) := by decide +kernel
theorem pa_118_504 : pz_at 118 504 = some (504, .iconst 0, 1, 0, 0, 0) := by decide +kernel
theorem pa_118_505 : pz_at 118 505 = some (505, .ireturn, 1, 0, 0, 0) := by decide +kernel
theorem pa_118_506 : pz_at 118 506 = some (506, .iload_n 3, 1, 0, 0, 0) := by decide +kernel
theorem pa_118_507 : pz_at 118 507 = some (507, .invokestatic 189, 3, 115, 1, 1159) := by decide +kernel
theorem pa_118_510 : pz_at 118 510 = some (510, .ifCond .eq 37, 3, 547, 0, 0) := by decide +kernel
theorem pa_118_513 : pz_at 118 513 = some (513, .iload 4, 2, 0, 0, 0) := by decide +kernel
theorem pa_118_515 : pz_at 118 515 = some (515, .i2l, 1, 0, 0, 0) := by decide +kernel
theorem pa_118_516 : pz_at 118 516 = some (516, .lconst 0, 1, 0, 0, 0) := by decide +kernel
theorem pa_118_517 : pz_at 118 517 = some (517, .aload_n 0, 1, 0, 0, 0) := by decide +kernel
theorem pa_118_518 : pz_at 118 518 = some (518, .getfield 156, 3, 7, 0, 911) := by decide +kernel
theorem pa_118_521 : pz_at 118 521 = some (521, .iconst 1, 1, 0, 0, 0) := by decide +kernel
theorem pa_118_522 : pz_at 118 522 = some (522, .isub, 1, 0, 0, 0) := by decide +kernel
theorem pa_118_523 : pz_at 118 523 = some (523, .i2l, 1, 0, 0, 0) := by decide +kernel
theorem pa_118_524 : pz_at 118 524 = some (524, .invokestatic 160, 3, 109, 3, 1129) := by decide +kernel
theorem pa_118_527 : pz_at 118 527 = some (527, .ifCond .ne 20, 3, 547, 0, 0) := by decide +kernel
theorem pa_118_530 : pz_at 118 530 = some (530, .iload 5, 2, 0, 0, 0) := by decide +kernel
theorem pa_118_532 : pz_at 118 532 = some (532, .i2l, 1, 0, 0, 0) := by decide +kernel
theorem pa_118_533 : pz_at 118 533 = some (533, .lconst 0, 1, 0, 0, 0) := by decide +kernel
theorem pa_118_534 : pz_at 118 534 = some (534, .ldc2_w 200, 3, 24, 0, 1171) := by decide +kernel
theorem pa_118_537 : pz_at 118 537 = some (537, .invokestatic 160, 3, 109, 3, 1129) := by decide +kernel
theorem pa_118_540 : pz_at 118 540 = some (540, .ifCond .ne 7, 3, 547, 0, 0) := by decide +kernel
theorem pa_118_543 : pz_at 118 543 = some (543, .iconst 1, 1, 0, 0, 0) := by decide +kernel
theorem pa_118_544 : pz_at 118 544 = some (544, .goto 4, 3, 548, 0, 0) := by decide +kernel
theorem pa_118_547 : pz_at 118 547 = some (547, .iconst 0, 1, 0, 0, 0) := by decide +kernel
theorem pa_118_548 : pz_at 118 548 = some (548, .ireturn, 1, 0, 0, 0) := by decide +kernel
theorem pa_118_549 : pz_at 118 549 = some (549, .iload 5, 2, 0, 0, 0) := by decide +kernel
theorem pa_118_551 : pz_at 118 551 = some (551, .i2l, 1, 0, 0, 0) := by decide +kernel
theorem pa_118_552 : pz_at 118 552 = some (552, .lconst 0, 1, 0, 0, 0) := by decide +kernel
theorem pa_118_553 : pz_at 118 553 = some (553, .ldc2_w 200, 3, 24, 0, 1171) := by decide +kernel
theorem pa_118_556 : pz_at 118 556 = some (556, .invokestatic 160, 3, 109, 3, 1129) := by decide +kernel
theorem pa_118_559 : pz_at 118 559 = some (559, .ifCond .ne 7, 3, 566, 0, 0) := by decide +kernel
theorem pa_118_562 : pz_at 118 562 = some (562, .iconst 1, 1, 0, 0, 0) := by decide +kernel
theorem pa_118_563 : pz_at 118 563 = some (563, .goto 4, 3, 567, 0, 0) := by decide +kernel
theorem pa_118_566 : pz_at 118 566 = some (566, .iconst 0, 1, 0, 0, 0) := by decide +kernel
theorem pa_118_567 : pz_at 118 567 = some (567, .ireturn, 1, 0, 0, 0) := by decide +kernel
theorem pa_118_568 : pz_at 118 568 = some (568, .iload_n 3, 1, 0, 0, 0) := by decide +kernel
theorem pa_118_569 : pz_at 118 569 = some (569, .i2l, 1, 0, 0, 0) := by decide +kernel
theorem pa_118_570 : pz_at 118 570 = some (570, .lconst 0, 1, 0, 0, 0) := by decide +kernel
theorem pa_118_571 : pz_at 118 571 = some (571, .ldc2_w 180, 3, 3, 0, 1148) := by decide +kernel
theorem pa_118_574 : pz_at 118 574 = some (574, .invokestatic 160, 3, 109, 3, 1129) := by decide +kernel
theorem pa_118_577 : pz_at 118 577 = some (577, .ifCond .ne 7, 3, 584, 0, 0) := by decide +kernel
theorem pa_118_580 : pz_at 118 580 = some (580, .iconst 1, 1, 0, 0, 0) := by decide +kernel
theorem pa_118_581 : pz_at 118 581 = some (581, .goto 4, 3, 585, 0, 0) := by decide +kernel
theorem pa_118_584 : pz_at 118 584 = some (584, .iconst 0, 1, 0, 0, 0) := by decide +kernel
theorem pa_118_585 : pz_at 118 585 = some (585, .ireturn, 1, 0, 0, 0) := by decide +kernel
theorem pa_118_586 : pz_at 118 586 = some (586, .aload_n 0, 1, 0, 0, 0) := by decide +kernel
theorem pa_118_587 : pz_at 118 587 = some (587, .getfield 29, 3, 7, 10, 921) := by decide +kernel
theorem pa_118_590 : pz_at 118 590 = some (590, .iload_n 1, 1, 0, 0, 0) := by decide +kernel
theorem pa_118_591 : pz_at 118 591 = some (591, .iaload, 1, 0, 0, 0) := by decide +kernel
theorem pa_118_592 : pz_at 118 592 = some (592, .ifCond .eq 10, 3, 602, 0, 0) := by decide +kernel
theorem pa_118_595 : pz_at 118 595 = some (595, .iload_n 3, 1, 0, 0, 0) := by decide +kernel
theorem pa_118_596 : pz_at 118 596 = some (596, .invokestatic 189, 3, 115, 1, 1159) := by decide +kernel
theorem pa_118_599 : pz_at 118 599 = some (599, .ifCond .eq 7, 3, 606, 0, 0) := by decide +kernel
theorem pa_118_602 : pz_at 118 602 = some (602, .iconst 1, 1, 0, 0, 0) := by decide +kernel
theorem pa_118_603 : pz_at 118 603 = some (603, .goto 4, 3, 607, 0, 0) := by decide +kernel
theorem pa_118_606 : pz_at 118 606 = some (606, .iconst 0, 1, 0, 0, 0) := by decide +kernel
theorem pa_118_607 : pz_at 118 607 = some (607, .ireturn, 1, 0, 0, 0) := by decide +kernel
theorem pm_115 : pz_mi 115 = (7, 1, (some .boolean)) := by decide +kernel
theorem pm_116 : pz_mi 116 = (7, 3, (some .boolean)) := by decide +kernel
theorem pm_117 : pz_mi 117 = (7, 3, (some .boolean)) := by decide +kernel
theorem pr_118 : (pz_mi 118).2.2 = (some .boolean) := by decide +kernel
theorem pa_119_0 : pz_at 119 0 = some (0, .iload_n 1, 1, 0, 0, 0) := by decide +kernel
theorem pa_119_1 : pz_at 119 1 = some (1, .i2l, 1, 0, 0, 0) := by decide +kernel
theorem pa_119_10 : pz_at 119 10 = some (10, .invokestatic 160, 3, 109, 3, 1129) := by decide +kernel
theorem pa_119_101 : pz_at 119 101 = some (101, .iload 4, 2, 0, 0, 0) := by decide +kernel
theorem pa_119_103 : pz_at 119 103 = some (103, .iastore, 1, 0, 0, 0) := by decide +kernel
theorem pa_119_104 : pz_at 119 104 = some (104, .aload_n 0, 1, 0, 0, 0) := by decide +kernel
theorem pa_119_105 : pz_at 119 105 = some (105, .getfield 44, 3, 7, 15, 926) := by decide +kernel
theorem pa_119_108 : pz_at 119 108 = some (108, .iload 6, 2, 0, 0, 0) := by decide +kernel
theorem pa_119_110 : pz_at 119 110 = some (110, .iload 5, 2, 0, 0, 0) := by decide +kernel
theorem pa_119_112 : pz_at 119 112 = some (112, .iastore, 1, 0, 0, 0) := by decide +kernel
theorem pa_119_113 : pz_at 119 113 = some (113, .aload_n 0, 1, 0, 0, 0) := by decide +kernel
theorem pa_119_114 : pz_at 119 114 = some (114, .getfield 32, 3, 7, 11, 922) := by decide +kernel
theorem pa_119_117 : pz_at 119 117 = some (117, .iload_n 1, 1, 0, 0, 0) := by decide +kernel
theorem pa_119_118 : pz_at 119 118 = some (118, .dup2, 1, 0, 0, 0) := by decide +kernel
theorem pa_119_119 : pz_at 119 119 = some (119, .iaload, 1, 0, 0, 0) := by decide +kernel
theorem pa_119_120 : pz_at 119 120 = some (120, .iconst 1, 1, 0, 0, 0) := by decide +kernel
theorem pa_119_121 : pz_at 119 121 = some (121, .iadd, 1, 0, 0, 0) := by decide +kernel
theorem pa_119_122 : pz_at 119 122 = some (122, .iastore, 1, 0, 0, 0) := by decide +kernel
theorem pa_119_123 : pz_at 119 123 = some (123, .aload_n 0, 1, 0, 0, 0) := by decide +kernel
theorem pa_119_124 : pz_at 119 124 = some (124, .getfield 32, 3, 7, 11, 922) := by decide +kernel
theorem pa_119_127 : pz_at 119 127 = some (127, .iload_n 1, 1, 0, 0, 0) := by decide +kernel
theorem pa_119_128 : pz_at 119 128 = some (128, .iaload, 1, 0, 0, 0) := by decide +kernel
theorem pa_119_129 : pz_at 119 129 = some (129, .iconst 1, 1, 0, 0, 0) := by decide +kernel
theorem pa_119_13 : pz_at 119 13 = some (13, .ifCond .eq 5, 3, 18, 0, 0) := by decide +kernel
theorem pa_119_130 : pz_at 119 130 = some (130, .isub, 1, 0, 0, 0) := by decide +kernel
theorem pa_119_131 : pz_at 119 131 = some (131, .ireturn, 1, 0, 0, 0) := by decide +kernel
theorem pa_119_16 : pz_at 119 16 = some (16, .iconst (-1), 1, 0, 0, 0) := by decide +kernel
theorem pa_119_17 : pz_at 119 17 = some (17, .ireturn, 1, 0, 0, 0) := by decide +kernel
theorem pa_119_18 : pz_at 119 18 = some (18, .iload_n 2, 1, 0, 0, 0) := by decide +kernel
theorem pa_119_19 : pz_at 119 19 = some (19, .i2l, 1, 0, 0, 0) := by decide +kernel
theorem pa_119_2 : pz_at 119 2 = some (2, .lconst 0, 1, 0, 0, 0) := by decide +kernel
theorem pa_119_20 : pz_at 119 20 = some (20, .lconst 0, 1, 0, 0, 0) := by decide +kernel
theorem pa_119_21 : pz_at 119 21 = some (21, .ldc2_w 202, 3, 31, 0, 1154) := by decide +kernel
theorem pa_119_24 : pz_at 119 24 = some (24, .invokestatic 160, 3, 109, 3, 1129) := by decide +kernel
theorem pa_119_27 : pz_at 119 27 = some (27, .ifCond .ne 17, 3, 44, 0, 0) := by decide +kernel
theorem pa_119_3 : pz_at 119 3 = some (3, .aload_n 0, 1, 0, 0, 0) := by decide +kernel
theorem pa_119_30 : pz_at 119 30 = some (30, .aload_n 0, 1, 0, 0, 0) := by decide +kernel
theorem pa_119_31 : pz_at 119 31 = some (31, .iload_n 1, 1, 0, 0, 0) := by decide +kernel
theorem pa_119_32 : pz_at 119 32 = some (32, .iload_n 2, 1, 0, 0, 0) := by decide +kernel
theorem pa_119_33 : pz_at 119 33 = some (33, .iload_n 3, 1, 0, 0, 0) := by decide +kernel
theorem pa_119_34 : pz_at 119 34 = some (34, .iload 4, 2, 0, 0, 0) := by decide +kernel
theorem pa_119_36 : pz_at 119 36 = some (36, .iload 5, 2, 0, 0, 0) := by decide +kernel
theorem pa_119_38 : pz_at 119 38 = some (38, .invokevirtual 204, 3, 118, 5, 1155) := by decide +kernel
theorem pa_119_4 : pz_at 119 4 = some (4, .getfield 184, 3, 7, 7, 918) := by decide +kernel
theorem pa_119_41 : pz_at 119 41 = some (41, .ifCond .ne 6, 3, 47, 0, 0) := by decide +kernel
theorem pa_119_44 : pz_at 119 44 = some (44, .bipush (-2), 2, 0, 0, 0) := by decide +kernel
theorem pa_119_46 : pz_at 119 46 = some (46, .ireturn, 1, 0, 0, 0) := by decide +kernel
theorem pa_119_47 : pz_at 119 47 = some (47, .aload_n 0, 1, 0, 0, 0) := by decide +kernel
theorem pa_119_48 : pz_at 119 48 = some (48, .getfield 32, 3, 7, 11, 922) := by decide +kernel
theorem pa_119_51 : pz_at 119 51 = some (51, .iload_n 1, 1, 0, 0, 0) := by decide +kernel
theorem pa_119_52 : pz_at 119 52 = some (52, .iaload, 1, 0, 0, 0) := by decide +kernel
theorem pa_119_53 : pz_at 119 53 = some (53, .bipush 24, 2, 0, 0, 0) := by decide +kernel
theorem pa_119_55 : pz_at 119 55 = some (55, .if_icmp .ne 6, 3, 61, 0, 0) := by decide +kernel
theorem pa_119_58 : pz_at 119 58 = some (58, .bipush (-3), 2, 0, 0, 0) := by decide +kernel
theorem pa_119_60 : pz_at 119 60 = some (60, .ireturn, 1, 0, 0, 0) := by decide +kernel
theorem pa_119_61 : pz_at 119 61 = some (61, .aload_n 0, 1, 0, 0, 0) := by decide +kernel
theorem pa_119_62 : pz_at 119 62 = some (62, .iconst 0, 1, 0, 0, 0) := by decide +kernel
theorem pa_119_63 : pz_at 119 63 = some (63, .putfield 164, 3, 7, 21, 932) := by decide +kernel
theorem pa_119_66 : pz_at 119 66 = some (66, .bipush 24, 2, 0, 0, 0) := by decide +kernel
theorem pa_119_68 : pz_at 119 68 = some (68, .iload_n 1, 1, 0, 0, 0) := by decide +kernel
theorem pa_119_69 : pz_at 119 69 = some (69, .imul, 1, 0, 0, 0) := by decide +kernel
theorem pa_119_7 : pz_at 119 7 = some (7, .iconst 1, 1, 0, 0, 0) := by decide +kernel
theorem pa_119_70 : pz_at 119 70 = some (70, .aload_n 0, 1, 0, 0, 0) := by decide +kernel
theorem pa_119_71 : pz_at 119 71 = some (71, .getfield 32, 3, 7, 11, 922) := by decide +kernel
theorem pa_119_74 : pz_at 119 74 = some (74, .iload_n 1, 1, 0, 0, 0) := by decide +kernel
theorem pa_119_75 : pz_at 119 75 = some (75, .iaload, 1, 0, 0, 0) := by decide +kernel
theorem pa_119_76 : pz_at 119 76 = some (76, .iadd, 1, 0, 0, 0) := by decide +kernel
theorem pa_119_77 : pz_at 119 77 = some (77, .istore 6, 2, 0, 0, 0) := by decide +kernel
theorem pa_119_79 : pz_at 119 79 = some (79, .aload_n 0, 1, 0, 0, 0) := by decide +kernel
theorem pa_119_8 : pz_at 119 8 = some (8, .isub, 1, 0, 0, 0) := by decide +kernel
theorem pa_119_80 : pz_at 119 80 = some (80, .getfield 35, 3, 7, 12, 923) := by decide +kernel
theorem pa_119_83 : pz_at 119 83 = some (83, .iload 6, 2, 0, 0, 0) := by decide +kernel
theorem pa_119_85 : pz_at 119 85 = some (85, .iload_n 2, 1, 0, 0, 0) := by decide +kernel
theorem pa_119_86 : pz_at 119 86 = some (86, .iastore, 1, 0, 0, 0) := by decide +kernel
theorem pa_119_87 : pz_at 119 87 = some (87, .aload_n 0, 1, 0, 0, 0) := by decide +kernel
theorem pa_119_88 : pz_at 119 88 = some (88, .getfield 38, 3, 7, 13, 924) := by decide +kernel
theorem pa_119_9 : pz_at 119 9 = some (9, .i2l, 1, 0, 0, 0) := by decide +kernel
theorem pa_119_91 : pz_at 119 91 = some (91, .iload 6, 2, 0, 0, 0) := by decide +kernel
theorem pa_119_93 : pz_at 119 93 = some (93, .iload_n 3, 1, 0, 0, 0) := by decide +kernel
theorem pa_119_94 : pz_at 119 94 = some (94, .iastore, 1, 0, 0, 0) := by decide +kernel
theorem pa_119_95 : pz_at 119 95 = some (95, .aload_n 0, 1, 0, 0, 0) := by decide +kernel
theorem pa_119_96 : pz_at 119 96 = some (96, .getfield 41, 3, 7, 14, 925) := by decide +kernel
theorem pa_119_99 : pz_at 119 99 = some (99, .iload 6, 2, 0, 0, 0) := by decide +kernel
theorem pf_55_7_12 : pz_gf 55 7 12 = some (some 64) := by decide +kernel
theorem pf_55_7_13 : pz_gf 55 7 13 = some (some 65) := by decide +kernel
theorem pf_55_7_14 : pz_gf 55 7 14 = some (some 66) := by decide +kernel
theorem pf_55_7_15 : pz_gf 55 7 15 = some (some 67) := by decide +kernel
theorem pg_64 : pz_ga 64 = some (.int, 240) := by decide +kernel
theorem pg_65 : pz_ga 65 = some (.int, 240) := by decide +kernel
theorem pg_66 : pz_ga 66 = some (.int, 240) := by decide +kernel
theorem pg_67 : pz_ga 67 = some (.int, 240) := by decide +kernel
theorem pm_118 : pz_mi 118 = (7, 6, (some .boolean)) := by decide +kernel
theorem pr_119 : (pz_mi 119).2.2 = (some .int) := by decide +kernel
theorem pa_120_0 : pz_at 120 0 = some (0, .iload_n 1, 1, 0, 0, 0) := by decide +kernel
theorem pa_120_1 : pz_at 120 1 = some (1, .i2l, 1, 0, 0, 0) := by decide +kernel
theorem pa_120_10 : pz_at 120 10 = some (10, .invokestatic 160, 3, 109, 3, 1129) := by decide +kernel
theorem pa_120_101 : pz_at 120 101 = some (101, .iload_n 1, 1, 0, 0, 0) := by decide +kernel
theorem pa_120_102 : pz_at 120 102 = some (102, .iaload, 1, 0, 0, 0) := by decide +kernel
theorem pa_120_103 : pz_at 120 103 = some (103, .iadd, 1, 0, 0, 0) := by decide +kernel
theorem pa_120_104 : pz_at 120 104 = some (104, .istore 6, 2, 0, 0, 0) := by decide +kernel
theorem pa_120_106 : pz_at 120 106 = some (106, .aload_n 0, 1, 0, 0, 0) := by decide +kernel
theorem pa_120_107 : pz_at 120 107 = some (107, .getfield 50, 3, 7, 17, 928) := by decide +kernel
theorem pa_120_110 : pz_at 120 110 = some (110, .iload 6, 2, 0, 0, 0) := by decide +kernel
theorem pa_120_112 : pz_at 120 112 = some (112, .iload_n 2, 1, 0, 0, 0) := by decide +kernel
theorem pa_120_113 : pz_at 120 113 = some (113, .iastore, 1, 0, 0, 0) := by decide +kernel
theorem pa_120_114 : pz_at 120 114 = some (114, .aload_n 0, 1, 0, 0, 0) := by decide +kernel
theorem pa_120_115 : pz_at 120 115 = some (115, .getfield 53, 3, 7, 18, 929) := by decide +kernel
theorem pa_120_118 : pz_at 120 118 = some (118, .iload 6, 2, 0, 0, 0) := by decide +kernel
theorem pa_120_120 : pz_at 120 120 = some (120, .iload_n 3, 1, 0, 0, 0) := by decide +kernel
theorem pa_120_121 : pz_at 120 121 = some (121, .iastore, 1, 0, 0, 0) := by decide +kernel
theorem pa_120_122 : pz_at 120 122 = some (122, .aload_n 0, 1, 0, 0, 0) := by decide +kernel
theorem pa_120_123 : pz_at 120 123 = some (123, .getfield 56, 3, 7, 19, 930) := by decide +kernel
theorem pa_120_126 : pz_at 120 126 = some (126, .iload 6, 2, 0, 0, 0) := by decide +kernel
theorem pa_120_128 : pz_at 120 128 = some (128, .iload 4, 2, 0, 0, 0) := by decide +kernel
theorem pa_120_13 : pz_at 120 13 = some (13, .ifCond .eq 5, 3, 18, 0, 0) := by decide +kernel
theorem pa_120_130 : pz_at 120 130 = some (130, .iastore, 1, 0, 0, 0) := by decide +kernel
theorem pa_120_131 : pz_at 120 131 = some (131, .aload_n 0, 1, 0, 0, 0) := by decide +kernel
theorem pa_120_132 : pz_at 120 132 = some (132, .getfield 59, 3, 7, 20, 931) := by decide +kernel
theorem pa_120_135 : pz_at 120 135 = some (135, .iload 6, 2, 0, 0, 0) := by decide +kernel
theorem pa_120_137 : pz_at 120 137 = some (137, .iload 5, 2, 0, 0, 0) := by decide +kernel
theorem pa_120_139 : pz_at 120 139 = some (139, .iastore, 1, 0, 0, 0) := by decide +kernel
theorem pa_120_140 : pz_at 120 140 = some (140, .aload_n 0, 1, 0, 0, 0) := by decide +kernel
theorem pa_120_141 : pz_at 120 141 = some (141, .getfield 47, 3, 7, 16, 927) := by decide +kernel
theorem pa_120_144 : pz_at 120 144 = some (144, .iload_n 1, 1, 0, 0, 0) := by decide +kernel
theorem pa_120_145 : pz_at 120 145 = some (145, .dup2, 1, 0, 0, 0) := by decide +kernel
theorem pa_120_146 : pz_at 120 146 = some (146, .iaload, 1, 0, 0, 0) := by decide +kernel
theorem pa_120_147 : pz_at 120 147 = some (147, .iconst 1, 1, 0, 0, 0) := by decide +kernel
theorem pa_120_148 : pz_at 120 148 = some (148, .iadd, 1, 0, 0, 0) := by decide +kernel
theorem pa_120_149 : pz_at 120 149 = some (149, .iastore, 1, 0, 0, 0) := by decide +kernel
theorem pa_120_150 : pz_at 120 150 = some (150, .aload_n 0, 1, 0, 0, 0) := by decide +kernel
theorem pa_120_151 : pz_at 120 151 = some (151, .getfield 47, 3, 7, 16, 927) := by decide +kernel
theorem pa_120_154 : pz_at 120 154 = some (154, .iload_n 1, 1, 0, 0, 0) := by decide +kernel
theorem pa_120_155 : pz_at 120 155 = some (155, .iaload, 1, 0, 0, 0) := by decide +kernel
theorem pa_120_156 : pz_at 120 156 = some (156, .iconst 1, 1, 0, 0, 0) := by decide +kernel
theorem pa_120_157 : pz_at 120 157 = some (157, .isub, 1, 0, 0, 0) := by decide +kernel
theorem pa_120_158 : pz_at 120 158 = some (158, .ireturn, 1, 0, 0, 0) := by decide +kernel
theorem pa_120_16 : pz_at 120 16 = some (16, .iconst (-1), 1, 0, 0, 0) := by decide +kernel
theorem pa_120_17 : pz_at 120 17 = some (17, .ireturn, 1, 0, 0, 0) := by decide +kernel
theorem pa_120_18 : pz_at 120 18 = some (18, .iload_n 2, 1, 0, 0, 0) := by decide +kernel
theorem pa_120_19 : pz_at 120 19 = some (19, .i2l, 1, 0, 0, 0) := by decide +kernel
theorem pa_120_2 : pz_at 120 2 = some (2, .lconst 0, 1, 0, 0, 0) := by decide +kernel
theorem pa_120_20 : pz_at 120 20 = some (20, .lconst 0, 1, 0, 0, 0) := by decide +kernel
theorem pa_120_21 : pz_at 120 21 = some (21, .ldc2_w 200, 3, 24, 0, 1171) := by decide +kernel
theorem pa_120_24 : pz_at 120 24 = some (24, .invokestatic 160, 3, 109, 3, 1129) := by decide +kernel
theorem pa_120_27 : pz_at 120 27 = some (27, .ifCond .ne 46, 3, 73, 0, 0) := by decide +kernel
theorem pa_120_3 : pz_at 120 3 = some (3, .aload_n 0, 1, 0, 0, 0) := by decide +kernel
theorem pa_120_30 : pz_at 120 30 = some (30, .iload_n 3, 1, 0, 0, 0) := by decide +kernel
theorem pa_120_31 : pz_at 120 31 = some (31, .i2l, 1, 0, 0, 0) := by decide +kernel
theorem pa_120_32 : pz_at 120 32 = some (32, .lconst 0, 1, 0, 0, 0) := by decide +kernel
theorem pa_120_33 : pz_at 120 33 = some (33, .ldc2_w 200, 3, 24, 0, 1171) := by decide +kernel
theorem pa_120_36 : pz_at 120 36 = some (36, .invokestatic 160, 3, 109, 3, 1129) := by decide +kernel
theorem pa_120_39 : pz_at 120 39 = some (39, .ifCond .ne 34, 3, 73, 0, 0) := by decide +kernel
theorem pa_120_4 : pz_at 120 4 = some (4, .getfield 184, 3, 7, 7, 918) := by decide +kernel
theorem pa_120_42 : pz_at 120 42 = some (42, .iload_n 2, 1, 0, 0, 0) := by decide +kernel
theorem pa_120_43 : pz_at 120 43 = some (43, .iload_n 3, 1, 0, 0, 0) := by decide +kernel
theorem pa_120_44 : pz_at 120 44 = some (44, .if_icmp .ge 29, 3, 73, 0, 0) := by decide +kernel
theorem pa_120_47 : pz_at 120 47 = some (47, .iload 4, 2, 0, 0, 0) := by decide +kernel
theorem pa_120_49 : pz_at 120 49 = some (49, .i2l, 1, 0, 0, 0) := by decide +kernel
theorem pa_120_50 : pz_at 120 50 = some (50, .lconst 0, 1, 0, 0, 0) := by decide +kernel
theorem pa_120_51 : pz_at 120 51 = some (51, .ldc2_w 208, 3, 9, 0, 1176) := by decide +kernel
theorem pa_120_54 : pz_at 120 54 = some (54, .invokestatic 160, 3, 109, 3, 1129) := by decide +kernel
theorem pa_120_57 : pz_at 120 57 = some (57, .ifCond .ne 16, 3, 73, 0, 0) := by decide +kernel
theorem pa_120_60 : pz_at 120 60 = some (60, .iload 5, 2, 0, 0, 0) := by decide +kernel
theorem pa_120_62 : pz_at 120 62 = some (62, .i2l, 1, 0, 0, 0) := by decide +kernel
theorem pa_120_63 : pz_at 120 63 = some (63, .lconst 0, 1, 0, 0, 0) := by decide +kernel
theorem pa_120_64 : pz_at 120 64 = some (64, .ldc2_w 200, 3, 24, 0, 1171) := by decide +kernel
theorem pa_120_67 : pz_at 120 67 = some (67, .invokestatic 160, 3, 109, 3, 1129) := by decide +kernel
theorem pa_120_7 : pz_at 120 7 = some (7, .iconst 1, 1, 0, 0, 0) := by decide +kernel
theorem pa_120_70 : pz_at 120 70 = some (70, .ifCond .eq 6, 3, 76, 0, 0) := by decide +kernel
theorem pa_120_73 : pz_at 120 73 = some (73, .bipush (-2), 2, 0, 0, 0) := by decide +kernel
theorem pa_120_75 : pz_at 120 75 = some (75, .ireturn, 1, 0, 0, 0) := by decide +kernel
theorem pa_120_76 : pz_at 120 76 = some (76, .aload_n 0, 1, 0, 0, 0) := by decide +kernel
theorem pa_120_77 : pz_at 120 77 = some (77, .getfield 47, 3, 7, 16, 927) := by decide +kernel
theorem pa_120_8 : pz_at 120 8 = some (8, .isub, 1, 0, 0, 0) := by decide +kernel
theorem pa_120_80 : pz_at 120 80 = some (80, .iload_n 1, 1, 0, 0, 0) := by decide +kernel
theorem pa_120_81 : pz_at 120 81 = some (81, .iaload, 1, 0, 0, 0) := by decide +kernel
theorem pa_120_82 : pz_at 120 82 = some (82, .iconst 4, 1, 0, 0, 0) := by decide +kernel
theorem pa_120_83 : pz_at 120 83 = some (83, .if_icmp .ne 6, 3, 89, 0, 0) := by decide +kernel
theorem pa_120_86 : pz_at 120 86 = some (86, .bipush (-3), 2, 0, 0, 0) := by decide +kernel
theorem pa_120_88 : pz_at 120 88 = some (88, .ireturn, 1, 0, 0, 0) := by decide +kernel
theorem pa_120_89 : pz_at 120 89 = some (89, .aload_n 0, 1, 0, 0, 0) := by decide +kernel
theorem pa_120_9 : pz_at 120 9 = some (9, .i2l, 1, 0, 0, 0) := by decide +kernel
theorem pa_120_90 : pz_at 120 90 = some (90, .iconst 0, 1, 0, 0, 0) := by decide +kernel
theorem pa_120_91 : pz_at 120 91 = some (91, .putfield 164, 3, 7, 21, 932) := by decide +kernel
theorem pa_120_94 : pz_at 120 94 = some (94, .iconst 4, 1, 0, 0, 0) := by decide +kernel
theorem pa_120_95 : pz_at 120 95 = some (95, .iload_n 1, 1, 0, 0, 0) := by decide +kernel
theorem pa_120_96 : pz_at 120 96 = some (96, .imul, 1, 0, 0, 0) := by decide +kernel
theorem pa_120_97 : pz_at 120 97 = some (97, .aload_n 0, 1, 0, 0, 0) := by decide +kernel
