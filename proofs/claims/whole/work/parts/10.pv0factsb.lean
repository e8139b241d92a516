theorem pa_120_98 : pz_at 120 98 = some (98, .getfield 47, 3, 7, 16, 927) := by decide +kernel
theorem pf_55_7_17 : pz_gf 55 7 17 = some (some 69) := by decide +kernel
theorem pf_55_7_18 : pz_gf 55 7 18 = some (some 70) := by decide +kernel
theorem pf_55_7_19 : pz_gf 55 7 19 = some (some 71) := by decide +kernel
theorem pf_55_7_20 : pz_gf 55 7 20 = some (some 72) := by decide +kernel
theorem pg_69 : pz_ga 69 = some (.int, 40) := by decide +kernel
theorem pg_70 : pz_ga 70 = some (.int, 40) := by decide +kernel
theorem pg_71 : pz_ga 71 = some (.int, 40) := by decide +kernel
theorem pg_72 : pz_ga 72 = some (.int, 40) := by decide +kernel
theorem pr_120 : (pz_mi 120).2.2 = (some .int) := by decide +kernel
theorem pa_121_0 : pz_at 121 0 = some (0, .iconst 4, 1, 0, 0, 0) := by decide +kernel
theorem pa_121_1 : pz_at 121 1 = some (1, .iload_n 1, 1, 0, 0, 0) := by decide +kernel
theorem pa_121_10 : pz_at 121 10 = some (10, .aload_n 0, 1, 0, 0, 0) := by decide +kernel
theorem pa_121_102 : pz_at 121 102 = some (102, .iconst (-1), 1, 0, 0, 0) := by decide +kernel
theorem pa_121_103 : pz_at 121 103 = some (103, .ireturn, 1, 0, 0, 0) := by decide +kernel
theorem pa_121_11 : pz_at 121 11 = some (11, .getfield 47, 3, 7, 16, 927) := by decide +kernel
theorem pa_121_14 : pz_at 121 14 = some (14, .iload_n 1, 1, 0, 0, 0) := by decide +kernel
theorem pa_121_15 : pz_at 121 15 = some (15, .iaload, 1, 0, 0, 0) := by decide +kernel
theorem pa_121_16 : pz_at 121 16 = some (16, .iadd, 1, 0, 0, 0) := by decide +kernel
theorem pa_121_17 : pz_at 121 17 = some (17, .if_icmp .ge 85, 3, 102, 0, 0) := by decide +kernel
theorem pa_121_2 : pz_at 121 2 = some (2, .imul, 1, 0, 0, 0) := by decide +kernel
theorem pa_121_20 : pz_at 121 20 = some (20, .iload_n 2, 1, 0, 0, 0) := by decide +kernel
theorem pa_121_21 : pz_at 121 21 = some (21, .aload_n 0, 1, 0, 0, 0) := by decide +kernel
theorem pa_121_22 : pz_at 121 22 = some (22, .getfield 50, 3, 7, 17, 928) := by decide +kernel
theorem pa_121_25 : pz_at 121 25 = some (25, .iload 4, 2, 0, 0, 0) := by decide +kernel
theorem pa_121_27 : pz_at 121 27 = some (27, .iaload, 1, 0, 0, 0) := by decide +kernel
theorem pa_121_28 : pz_at 121 28 = some (28, .if_icmp .lt 68, 3, 96, 0, 0) := by decide +kernel
theorem pa_121_3 : pz_at 121 3 = some (3, .istore 4, 2, 0, 0, 0) := by decide +kernel
theorem pa_121_31 : pz_at 121 31 = some (31, .iload_n 2, 1, 0, 0, 0) := by decide +kernel
theorem pa_121_32 : pz_at 121 32 = some (32, .aload_n 0, 1, 0, 0, 0) := by decide +kernel
theorem pa_121_33 : pz_at 121 33 = some (33, .getfield 53, 3, 7, 18, 929) := by decide +kernel
theorem pa_121_36 : pz_at 121 36 = some (36, .iload 4, 2, 0, 0, 0) := by decide +kernel
theorem pa_121_38 : pz_at 121 38 = some (38, .iaload, 1, 0, 0, 0) := by decide +kernel
theorem pa_121_39 : pz_at 121 39 = some (39, .if_icmp .ge 57, 3, 96, 0, 0) := by decide +kernel
theorem pa_121_42 : pz_at 121 42 = some (42, .aload_n 0, 1, 0, 0, 0) := by decide +kernel
theorem pa_121_43 : pz_at 121 43 = some (43, .getfield 56, 3, 7, 19, 930) := by decide +kernel
theorem pa_121_46 : pz_at 121 46 = some (46, .iload 4, 2, 0, 0, 0) := by decide +kernel
theorem pa_121_48 : pz_at 121 48 = some (48, .iaload, 1, 0, 0, 0) := by decide +kernel
theorem pa_121_49 : pz_at 121 49 = some (49, .ifCond .eq 14, 3, 63, 0, 0) := by decide +kernel
theorem pa_121_5 : pz_at 121 5 = some (5, .iload 4, 2, 0, 0, 0) := by decide +kernel
theorem pa_121_52 : pz_at 121 52 = some (52, .aload_n 0, 1, 0, 0, 0) := by decide +kernel
theorem pa_121_53 : pz_at 121 53 = some (53, .getfield 56, 3, 7, 19, 930) := by decide +kernel
theorem pa_121_56 : pz_at 121 56 = some (56, .iload 4, 2, 0, 0, 0) := by decide +kernel
theorem pa_121_58 : pz_at 121 58 = some (58, .iaload, 1, 0, 0, 0) := by decide +kernel
theorem pa_121_59 : pz_at 121 59 = some (59, .iload_n 3, 1, 0, 0, 0) := by decide +kernel
theorem pa_121_60 : pz_at 121 60 = some (60, .if_icmp .ne 36, 3, 96, 0, 0) := by decide +kernel
theorem pa_121_63 : pz_at 121 63 = some (63, .aload_n 0, 1, 0, 0, 0) := by decide +kernel
theorem pa_121_64 : pz_at 121 64 = some (64, .getfield 59, 3, 7, 20, 931) := by decide +kernel
theorem pa_121_67 : pz_at 121 67 = some (67, .iload 4, 2, 0, 0, 0) := by decide +kernel
theorem pa_121_69 : pz_at 121 69 = some (69, .iaload, 1, 0, 0, 0) := by decide +kernel
theorem pa_121_7 : pz_at 121 7 = some (7, .iconst 4, 1, 0, 0, 0) := by decide +kernel
theorem pa_121_70 : pz_at 121 70 = some (70, .aload_n 0, 1, 0, 0, 0) := by decide +kernel
theorem pa_121_71 : pz_at 121 71 = some (71, .getfield 32, 3, 7, 11, 922) := by decide +kernel
theorem pa_121_74 : pz_at 121 74 = some (74, .iload_n 1, 1, 0, 0, 0) := by decide +kernel
theorem pa_121_75 : pz_at 121 75 = some (75, .iaload, 1, 0, 0, 0) := by decide +kernel
theorem pa_121_76 : pz_at 121 76 = some (76, .if_icmp .ge 13, 3, 89, 0, 0) := by decide +kernel
theorem pa_121_79 : pz_at 121 79 = some (79, .aload_n 0, 1, 0, 0, 0) := by decide +kernel
theorem pa_121_8 : pz_at 121 8 = some (8, .iload_n 1, 1, 0, 0, 0) := by decide +kernel
theorem pa_121_80 : pz_at 121 80 = some (80, .getfield 59, 3, 7, 20, 931) := by decide +kernel
theorem pa_121_83 : pz_at 121 83 = some (83, .iload 4, 2, 0, 0, 0) := by decide +kernel
theorem pa_121_85 : pz_at 121 85 = some (85, .iaload, 1, 0, 0, 0) := by decide +kernel
theorem pa_121_86 : pz_at 121 86 = some (86, .goto 9, 3, 95, 0, 0) := by decide +kernel
theorem pa_121_89 : pz_at 121 89 = some (89, .aload_n 0, 1, 0, 0, 0) := by decide +kernel
theorem pa_121_9 : pz_at 121 9 = some (9, .imul, 1, 0, 0, 0) := by decide +kernel
theorem pa_121_90 : pz_at 121 90 = some (90, .getfield 32, 3, 7, 11, 922) := by decide +kernel
theorem pa_121_93 : pz_at 121 93 = some (93, .iload_n 1, 1, 0, 0, 0) := by decide +kernel
theorem pa_121_94 : pz_at 121 94 = some (94, .iaload, 1, 0, 0, 0) := by decide +kernel
theorem pa_121_95 : pz_at 121 95 = some (95, .ireturn, 1, 0, 0, 0) := by decide +kernel
theorem pa_121_96 : pz_at 121 96 = some (96, .iinc 4 1, 3, 0, 0, 0) := by decide +kernel
theorem pa_121_99 : pz_at 121 99 = some (99, .goto (-94), 3, 5, 0, 0) := by decide +kernel
theorem pr_121 : (pz_mi 121).2.2 = (some .int) := by decide +kernel
theorem pa_122_0 : pz_at 122 0 = some (0, .iconst 0, 1, 0, 0, 0) := by decide +kernel
theorem pa_122_1 : pz_at 122 1 = some (1, .istore_n 2, 1, 0, 0, 0) := by decide +kernel
theorem pa_122_12 : pz_at 122 12 = some (12, .bipush 16, 2, 0, 0, 0) := by decide +kernel
theorem pa_122_14 : pz_at 122 14 = some (14, .iload_n 1, 1, 0, 0, 0) := by decide +kernel
theorem pa_122_15 : pz_at 122 15 = some (15, .imul, 1, 0, 0, 0) := by decide +kernel
theorem pa_122_16 : pz_at 122 16 = some (16, .iload_n 2, 1, 0, 0, 0) := by decide +kernel
theorem pa_122_17 : pz_at 122 17 = some (17, .iadd, 1, 0, 0, 0) := by decide +kernel
theorem pa_122_18 : pz_at 122 18 = some (18, .aload_n 0, 1, 0, 0, 0) := by decide +kernel
theorem pa_122_19 : pz_at 122 19 = some (19, .getfield 62, 3, 7, 23, 934) := by decide +kernel
theorem pa_122_2 : pz_at 122 2 = some (2, .iload_n 2, 1, 0, 0, 0) := by decide +kernel
theorem pa_122_22 : pz_at 122 22 = some (22, .iload_n 1, 1, 0, 0, 0) := by decide +kernel
theorem pa_122_23 : pz_at 122 23 = some (23, .iaload, 1, 0, 0, 0) := by decide +kernel
theorem pa_122_24 : pz_at 122 24 = some (24, .ifCond .lt 24, 3, 48, 0, 0) := by decide +kernel
theorem pa_122_27 : pz_at 122 27 = some (27, .iload_n 2, 1, 0, 0, 0) := by decide +kernel
theorem pa_122_28 : pz_at 122 28 = some (28, .aload_n 0, 1, 0, 0, 0) := by decide +kernel
theorem pa_122_29 : pz_at 122 29 = some (29, .getfield 167, 3, 7, 2, 913) := by decide +kernel
theorem pa_122_3 : pz_at 122 3 = some (3, .bipush 16, 2, 0, 0, 0) := by decide +kernel
theorem pa_122_32 : pz_at 122 32 = some (32, .if_icmp .ge 16, 3, 48, 0, 0) := by decide +kernel
theorem pa_122_35 : pz_at 122 35 = some (35, .aload_n 0, 1, 0, 0, 0) := by decide +kernel
theorem pa_122_36 : pz_at 122 36 = some (36, .getfield 16, 3, 7, 4, 915) := by decide +kernel
theorem pa_122_39 : pz_at 122 39 = some (39, .iload_n 2, 1, 0, 0, 0) := by decide +kernel
theorem pa_122_40 : pz_at 122 40 = some (40, .baload, 1, 0, 0, 0) := by decide +kernel
theorem pa_122_41 : pz_at 122 41 = some (41, .ifCond .eq 7, 3, 48, 0, 0) := by decide +kernel
theorem pa_122_44 : pz_at 122 44 = some (44, .iconst (-1), 1, 0, 0, 0) := by decide +kernel
theorem pa_122_45 : pz_at 122 45 = some (45, .goto 4, 3, 49, 0, 0) := by decide +kernel
theorem pa_122_48 : pz_at 122 48 = some (48, .iconst 0, 1, 0, 0, 0) := by decide +kernel
theorem pa_122_49 : pz_at 122 49 = some (49, .iastore, 1, 0, 0, 0) := by decide +kernel
theorem pa_122_5 : pz_at 122 5 = some (5, .if_icmp .ge 51, 3, 56, 0, 0) := by decide +kernel
theorem pa_122_50 : pz_at 122 50 = some (50, .iinc 2 1, 3, 0, 0, 0) := by decide +kernel
theorem pa_122_53 : pz_at 122 53 = some (53, .goto (-51), 3, 2, 0, 0) := by decide +kernel
theorem pa_122_56 : pz_at 122 56 = some (56, .return_, 1, 0, 0, 0) := by decide +kernel
theorem pa_122_8 : pz_at 122 8 = some (8, .aload_n 0, 1, 0, 0, 0) := by decide +kernel
theorem pa_122_9 : pz_at 122 9 = some (9, .getfield 68, 3, 7, 25, 936) := by decide +kernel
theorem pf_55_7_25 : pz_gf 55 7 25 = some (some 75) := by decide +kernel
theorem pg_75 : pz_ga 75 = some (.int, 960) := by decide +kernel
theorem pr_122 : (pz_mi 122).2.2 = none := by decide +kernel
theorem pa_123_0 : pz_at 123 0 = some (0, .iload_n 1, 1, 0, 0, 0) := by decide +kernel
theorem pa_123_1 : pz_at 123 1 = some (1, .i2l, 1, 0, 0, 0) := by decide +kernel
theorem pa_123_10 : pz_at 123 10 = some (10, .invokestatic 160, 3, 109, 3, 1129) := by decide +kernel
theorem pa_123_13 : pz_at 123 13 = some (13, .ifCond .eq 5, 3, 18, 0, 0) := by decide +kernel
theorem pa_123_16 : pz_at 123 16 = some (16, .iconst (-1), 1, 0, 0, 0) := by decide +kernel
theorem pa_123_17 : pz_at 123 17 = some (17, .ireturn, 1, 0, 0, 0) := by decide +kernel
theorem pa_123_18 : pz_at 123 18 = some (18, .aload_n 0, 1, 0, 0, 0) := by decide +kernel
theorem pa_123_19 : pz_at 123 19 = some (19, .getfield 170, 3, 7, 22, 933) := by decide +kernel
theorem pa_123_2 : pz_at 123 2 = some (2, .lconst 0, 1, 0, 0, 0) := by decide +kernel
theorem pa_123_22 : pz_at 123 22 = some (22, .bipush 60, 2, 0, 0, 0) := by decide +kernel
theorem pa_123_24 : pz_at 123 24 = some (24, .if_icmp .ne 6, 3, 30, 0, 0) := by decide +kernel
theorem pa_123_27 : pz_at 123 27 = some (27, .bipush (-3), 2, 0, 0, 0) := by decide +kernel
theorem pa_123_29 : pz_at 123 29 = some (29, .ireturn, 1, 0, 0, 0) := by decide +kernel
theorem pa_123_3 : pz_at 123 3 = some (3, .aload_n 0, 1, 0, 0, 0) := by decide +kernel
theorem pa_123_30 : pz_at 123 30 = some (30, .aload_n 0, 1, 0, 0, 0) := by decide +kernel
theorem pa_123_31 : pz_at 123 31 = some (31, .getfield 62, 3, 7, 23, 934) := by decide +kernel
theorem pa_123_34 : pz_at 123 34 = some (34, .aload_n 0, 1, 0, 0, 0) := by decide +kernel
theorem pa_123_35 : pz_at 123 35 = some (35, .getfield 170, 3, 7, 22, 933) := by decide +kernel
theorem pa_123_38 : pz_at 123 38 = some (38, .iload_n 1, 1, 0, 0, 0) := by decide +kernel
theorem pa_123_39 : pz_at 123 39 = some (39, .iastore, 1, 0, 0, 0) := by decide +kernel
theorem pa_123_4 : pz_at 123 4 = some (4, .getfield 156, 3, 7, 0, 911) := by decide +kernel
theorem pa_123_40 : pz_at 123 40 = some (40, .aload_n 0, 1, 0, 0, 0) := by decide +kernel
theorem pa_123_41 : pz_at 123 41 = some (41, .getfield 65, 3, 7, 24, 935) := by decide +kernel
theorem pa_123_44 : pz_at 123 44 = some (44, .aload_n 0, 1, 0, 0, 0) := by decide +kernel
theorem pa_123_45 : pz_at 123 45 = some (45, .getfield 170, 3, 7, 22, 933) := by decide +kernel
theorem pa_123_48 : pz_at 123 48 = some (48, .iconst 0, 1, 0, 0, 0) := by decide +kernel
theorem pa_123_49 : pz_at 123 49 = some (49, .iastore, 1, 0, 0, 0) := by decide +kernel
theorem pa_123_50 : pz_at 123 50 = some (50, .aload_n 0, 1, 0, 0, 0) := by decide +kernel
theorem pa_123_51 : pz_at 123 51 = some (51, .aload_n 0, 1, 0, 0, 0) := by decide +kernel
theorem pa_123_52 : pz_at 123 52 = some (52, .getfield 170, 3, 7, 22, 933) := by decide +kernel
theorem pa_123_55 : pz_at 123 55 = some (55, .invokevirtual 210, 3, 122, 1, 1181) := by decide +kernel
theorem pa_123_58 : pz_at 123 58 = some (58, .aload_n 0, 1, 0, 0, 0) := by decide +kernel
theorem pa_123_59 : pz_at 123 59 = some (59, .dup, 1, 0, 0, 0) := by decide +kernel
theorem pa_123_60 : pz_at 123 60 = some (60, .getfield 170, 3, 7, 22, 933) := by decide +kernel
theorem pa_123_63 : pz_at 123 63 = some (63, .iconst 1, 1, 0, 0, 0) := by decide +kernel
theorem pa_123_64 : pz_at 123 64 = some (64, .iadd, 1, 0, 0, 0) := by decide +kernel
theorem pa_123_65 : pz_at 123 65 = some (65, .putfield 170, 3, 7, 22, 933) := by decide +kernel
theorem pa_123_68 : pz_at 123 68 = some (68, .aload_n 0, 1, 0, 0, 0) := by decide +kernel
theorem pa_123_69 : pz_at 123 69 = some (69, .getfield 170, 3, 7, 22, 933) := by decide +kernel
theorem pa_123_7 : pz_at 123 7 = some (7, .iconst 1, 1, 0, 0, 0) := by decide +kernel
theorem pa_123_72 : pz_at 123 72 = some (72, .iconst 1, 1, 0, 0, 0) := by decide +kernel
theorem pa_123_73 : pz_at 123 73 = some (73, .isub, 1, 0, 0, 0) := by decide +kernel
theorem pa_123_74 : pz_at 123 74 = some (74, .ireturn, 1, 0, 0, 0) := by decide +kernel
theorem pa_123_8 : pz_at 123 8 = some (8, .isub, 1, 0, 0, 0) := by decide +kernel
theorem pa_123_9 : pz_at 123 9 = some (9, .i2l, 1, 0, 0, 0) := by decide +kernel
theorem pf_55_7_24 : pz_gf 55 7 24 = some (some 74) := by decide +kernel
theorem pg_74 : pz_ga 74 = some (.int, 60) := by decide +kernel
theorem pm_122 : pz_mi 122 = (7, 3, none) := by decide +kernel
theorem pr_123 : (pz_mi 123).2.2 = (some .int) := by decide +kernel
theorem pa_124_0 : pz_at 124 0 = some (0, .iload_n 1, 1, 0, 0, 0) := by decide +kernel
theorem pa_124_1 : pz_at 124 1 = some (1, .i2l, 1, 0, 0, 0) := by decide +kernel
theorem pa_124_12 : pz_at 124 12 = some (12, .bipush (-2), 2, 0, 0, 0) := by decide +kernel
theorem pa_124_14 : pz_at 124 14 = some (14, .ireturn, 1, 0, 0, 0) := by decide +kernel
theorem pa_124_15 : pz_at 124 15 = some (15, .aload_n 0, 1, 0, 0, 0) := by decide +kernel
theorem pa_124_16 : pz_at 124 16 = some (16, .getfield 170, 3, 7, 22, 933) := by decide +kernel
theorem pa_124_19 : pz_at 124 19 = some (19, .bipush 60, 2, 0, 0, 0) := by decide +kernel
theorem pa_124_2 : pz_at 124 2 = some (2, .lconst 0, 1, 0, 0, 0) := by decide +kernel
theorem pa_124_21 : pz_at 124 21 = some (21, .if_icmp .ne 6, 3, 27, 0, 0) := by decide +kernel
theorem pa_124_24 : pz_at 124 24 = some (24, .bipush (-3), 2, 0, 0, 0) := by decide +kernel
theorem pa_124_26 : pz_at 124 26 = some (26, .ireturn, 1, 0, 0, 0) := by decide +kernel
theorem pa_124_27 : pz_at 124 27 = some (27, .aload_n 0, 1, 0, 0, 0) := by decide +kernel
theorem pa_124_28 : pz_at 124 28 = some (28, .getfield 62, 3, 7, 23, 934) := by decide +kernel
theorem pa_124_3 : pz_at 124 3 = some (3, .ldc2_w 214, 3, 16, 0, 1189) := by decide +kernel
theorem pa_124_31 : pz_at 124 31 = some (31, .aload_n 0, 1, 0, 0, 0) := by decide +kernel
theorem pa_124_32 : pz_at 124 32 = some (32, .getfield 170, 3, 7, 22, 933) := by decide +kernel
theorem pa_124_35 : pz_at 124 35 = some (35, .iconst (-1), 1, 0, 0, 0) := by decide +kernel
theorem pa_124_36 : pz_at 124 36 = some (36, .iastore, 1, 0, 0, 0) := by decide +kernel
theorem pa_124_37 : pz_at 124 37 = some (37, .aload_n 0, 1, 0, 0, 0) := by decide +kernel
theorem pa_124_38 : pz_at 124 38 = some (38, .getfield 65, 3, 7, 24, 935) := by decide +kernel
theorem pa_124_41 : pz_at 124 41 = some (41, .aload_n 0, 1, 0, 0, 0) := by decide +kernel
theorem pa_124_42 : pz_at 124 42 = some (42, .getfield 170, 3, 7, 22, 933) := by decide +kernel
theorem pa_124_45 : pz_at 124 45 = some (45, .iload_n 1, 1, 0, 0, 0) := by decide +kernel
theorem pa_124_46 : pz_at 124 46 = some (46, .iastore, 1, 0, 0, 0) := by decide +kernel
theorem pa_124_47 : pz_at 124 47 = some (47, .aload_n 0, 1, 0, 0, 0) := by decide +kernel
theorem pa_124_48 : pz_at 124 48 = some (48, .aload_n 0, 1, 0, 0, 0) := by decide +kernel
theorem pa_124_49 : pz_at 124 49 = some (49, .getfield 170, 3, 7, 22, 933) := by decide +kernel
theorem pa_124_52 : pz_at 124 52 = some (52, .invokevirtual 210, 3, 122, 1, 1181) := by decide +kernel
theorem pa_124_55 : pz_at 124 55 = some (55, .aload_n 0, 1, 0, 0, 0) := by decide +kernel
theorem pa_124_56 : pz_at 124 56 = some (56, .dup, 1, 0, 0, 0) := by decide +kernel
theorem pa_124_57 : pz_at 124 57 = some (57, .getfield 170, 3, 7, 22, 933) := by decide +kernel
theorem pa_124_6 : pz_at 124 6 = some (6, .invokestatic 160, 3, 109, 3, 1129) := by decide +kernel
theorem pa_124_60 : pz_at 124 60 = some (60, .iconst 1, 1, 0, 0, 0) := by decide +kernel
theorem pa_124_61 : pz_at 124 61 = some (61, .iadd, 1, 0, 0, 0) := by decide +kernel
theorem pa_124_62 : pz_at 124 62 = some (62, .putfield 170, 3, 7, 22, 933) := by decide +kernel
theorem pa_124_65 : pz_at 124 65 = some (65, .aload_n 0, 1, 0, 0, 0) := by decide +kernel
theorem pa_124_66 : pz_at 124 66 = some (66, .getfield 170, 3, 7, 22, 933) := by decide +kernel
theorem pa_124_69 : pz_at 124 69 = some (69, .iconst 1, 1, 0, 0, 0) := by decide +kernel
theorem pa_124_70 : pz_at 124 70 = some (70, .isub, 1, 0, 0, 0) := by decide +kernel
theorem pa_124_71 : pz_at 124 71 = some (71, .ireturn, 1, 0, 0, 0) := by decide +kernel
theorem pa_124_9 : pz_at 124 9 = some (9, .ifCond .eq 6, 3, 15, 0, 0) := by decide +kernel
theorem pr_124 : (pz_mi 124).2.2 = (some .int) := by decide +kernel
theorem pa_125_0 : pz_at 125 0 = some (0, .iload_n 1, 1, 0, 0, 0) := by decide +kernel
theorem pa_125_1 : pz_at 125 1 = some (1, .ifCond .lt 11, 3, 12, 0, 0) := by decide +kernel
theorem pa_125_12 : pz_at 125 12 = some (12, .iconst 1, 1, 0, 0, 0) := by decide +kernel
theorem pa_125_13 : pz_at 125 13 = some (13, .goto 4, 3, 17, 0, 0) := by decide +kernel
theorem pa_125_16 : pz_at 125 16 = some (16, .iconst 0, 1, 0, 0, 0) := by decide +kernel
theorem pa_125_17 : pz_at 125 17 = some (17, .ireturn, 1, 0, 0, 0) := by decide +kernel
theorem pa_125_4 : pz_at 125 4 = some (4, .iload_n 1, 1, 0, 0, 0) := by decide +kernel
theorem pa_125_5 : pz_at 125 5 = some (5, .aload_n 0, 1, 0, 0, 0) := by decide +kernel
theorem pa_125_6 : pz_at 125 6 = some (6, .getfield 170, 3, 7, 22, 933) := by decide +kernel
theorem pa_125_9 : pz_at 125 9 = some (9, .if_icmp .lt 7, 3, 16, 0, 0) := by decide +kernel
theorem pr_125 : (pz_mi 125).2.2 = (some .boolean) := by decide +kernel
theorem pa_126_0 : pz_at 126 0 = some (0, .aload_n 0, 1, 0, 0, 0) := by decide +kernel
theorem pa_126_1 : pz_at 126 1 = some (1, .getfield 62, 3, 7, 23, 934) := by decide +kernel
theorem pa_126_10 : pz_at 126 10 = some (10, .i2l, 1, 0, 0, 0) := by decide +kernel
theorem pa_126_11 : pz_at 126 11 = some (11, .lconst 0, 1, 0, 0, 0) := by decide +kernel
theorem pa_126_12 : pz_at 126 12 = some (12, .aload_n 0, 1, 0, 0, 0) := by decide +kernel
theorem pa_126_13 : pz_at 126 13 = some (13, .getfield 65, 3, 7, 24, 935) := by decide +kernel
theorem pa_126_16 : pz_at 126 16 = some (16, .iload_n 1, 1, 0, 0, 0) := by decide +kernel
theorem pa_126_17 : pz_at 126 17 = some (17, .iaload, 1, 0, 0, 0) := by decide +kernel
theorem pa_126_18 : pz_at 126 18 = some (18, .iconst 1, 1, 0, 0, 0) := by decide +kernel
theorem pa_126_19 : pz_at 126 19 = some (19, .isub, 1, 0, 0, 0) := by decide +kernel
theorem pa_126_20 : pz_at 126 20 = some (20, .i2l, 1, 0, 0, 0) := by decide +kernel
theorem pa_126_21 : pz_at 126 21 = some (21, .invokestatic 160, 3, 109, 3, 1129) := by decide +kernel
theorem pa_126_24 : pz_at 126 24 = some (24, .ifCond .ne 7, 3, 31, 0, 0) := by decide +kernel
theorem pa_126_27 : pz_at 126 27 = some (27, .iconst 1, 1, 0, 0, 0) := by decide +kernel
theorem pa_126_28 : pz_at 126 28 = some (28, .goto 47, 3, 75, 0, 0) := by decide +kernel
theorem pa_126_31 : pz_at 126 31 = some (31, .iconst 0, 1, 0, 0, 0) := by decide +kernel
theorem pa_126_32 : pz_at 126 32 = some (32, .goto 43, 3, 75, 0, 0) := by decide +kernel
theorem pa_126_35 : pz_at 126 35 = some (35, .iload_n 2, 1, 0, 0, 0) := by decide +kernel
theorem pa_126_36 : pz_at 126 36 = some (36, .i2l, 1, 0, 0, 0) := by decide +kernel
theorem pa_126_37 : pz_at 126 37 = some (37, .lconst 0, 1, 0, 0, 0) := by decide +kernel
theorem pa_126_38 : pz_at 126 38 = some (38, .aload_n 0, 1, 0, 0, 0) := by decide +kernel
theorem pa_126_39 : pz_at 126 39 = some (39, .getfield 167, 3, 7, 2, 913) := by decide +kernel
theorem pa_126_4 : pz_at 126 4 = some (4, .iload_n 1, 1, 0, 0, 0) := by decide +kernel
theorem pa_126_42 : pz_at 126 42 = some (42, .iconst 1, 1, 0, 0, 0) := by decide +kernel
theorem pa_126_43 : pz_at 126 43 = some (43, .isub, 1, 0, 0, 0) := by decide +kernel
theorem pa_126_44 : pz_at 126 44 = some (44, .i2l, 1, 0, 0, 0) := by decide +kernel
theorem pa_126_45 : pz_at 126 45 = some (45, .invokestatic 160, 3, 109, 3, 1129) := by decide +kernel
theorem pa_126_48 : pz_at 126 48 = some (48, .ifCond .ne 26, 3, 74, 0, 0) := by decide +kernel
theorem pa_126_5 : pz_at 126 5 = some (5, .iaload, 1, 0, 0, 0) := by decide +kernel
theorem pa_126_51 : pz_at 126 51 = some (51, .aload_n 0, 1, 0, 0, 0) := by decide +kernel
theorem pa_126_52 : pz_at 126 52 = some (52, .aload_n 0, 1, 0, 0, 0) := by decide +kernel
theorem pa_126_53 : pz_at 126 53 = some (53, .getfield 62, 3, 7, 23, 934) := by decide +kernel
theorem pa_126_56 : pz_at 126 56 = some (56, .iload_n 1, 1, 0, 0, 0) := by decide +kernel
theorem pa_126_57 : pz_at 126 57 = some (57, .iaload, 1, 0, 0, 0) := by decide +kernel
theorem pa_126_58 : pz_at 126 58 = some (58, .aload_n 0, 1, 0, 0, 0) := by decide +kernel
theorem pa_126_59 : pz_at 126 59 = some (59, .getfield 13, 3, 7, 3, 914) := by decide +kernel
theorem pa_126_6 : pz_at 126 6 = some (6, .ifCond .ge 29, 3, 35, 0, 0) := by decide +kernel
theorem pa_126_62 : pz_at 126 62 = some (62, .iload_n 2, 1, 0, 0, 0) := by decide +kernel
theorem pa_126_63 : pz_at 126 63 = some (63, .iaload, 1, 0, 0, 0) := by decide +kernel
theorem pa_126_64 : pz_at 126 64 = some (64, .invokevirtual 173, 3, 111, 2, 1136) := by decide +kernel
theorem pa_126_67 : pz_at 126 67 = some (67, .ifCond .eq 7, 3, 74, 0, 0) := by decide +kernel
theorem pa_126_70 : pz_at 126 70 = some (70, .iconst 1, 1, 0, 0, 0) := by decide +kernel
theorem pa_126_71 : pz_at 126 71 = some (71, .goto 4, 3, 75, 0, 0) := by decide +kernel
theorem pa_126_74 : pz_at 126 74 = some (74, .iconst 0, 1, 0, 0, 0) := by decide +kernel
theorem pa_126_75 : pz_at 126 75 = some (75, .ireturn, 1, 0, 0, 0) := by decide +kernel
theorem pa_126_9 : pz_at 126 9 = some (9, .iload_n 2, 1, 0, 0, 0) := by decide +kernel
theorem pr_126 : (pz_mi 126).2.2 = (some .boolean) := by decide +kernel
theorem pa_127_0 : pz_at 127 0 = some (0, .aload_n 0, 1, 0, 0, 0) := by decide +kernel
theorem pa_127_1 : pz_at 127 1 = some (1, .iload_n 1, 1, 0, 0, 0) := by decide +kernel
theorem pa_127_10 : pz_at 127 10 = some (10, .iload_n 2, 1, 0, 0, 0) := by decide +kernel
theorem pa_127_11 : pz_at 127 11 = some (11, .invokevirtual 219, 3, 126, 2, 1198) := by decide +kernel
theorem pa_127_14 : pz_at 127 14 = some (14, .ifCond .eq 34, 3, 48, 0, 0) := by decide +kernel
theorem pa_127_17 : pz_at 127 17 = some (17, .aload_n 0, 1, 0, 0, 0) := by decide +kernel
theorem pa_127_18 : pz_at 127 18 = some (18, .getfield 62, 3, 7, 23, 934) := by decide +kernel
theorem pa_127_2 : pz_at 127 2 = some (2, .invokevirtual 216, 3, 125, 1, 1194) := by decide +kernel
theorem pa_127_21 : pz_at 127 21 = some (21, .iload_n 1, 1, 0, 0, 0) := by decide +kernel
theorem pa_127_22 : pz_at 127 22 = some (22, .iaload, 1, 0, 0, 0) := by decide +kernel
theorem pa_127_23 : pz_at 127 23 = some (23, .ifCond .lt 27, 3, 50, 0, 0) := by decide +kernel
theorem pa_127_26 : pz_at 127 26 = some (26, .aload_n 0, 1, 0, 0, 0) := by decide +kernel
theorem pa_127_27 : pz_at 127 27 = some (27, .getfield 16, 3, 7, 4, 915) := by decide +kernel
theorem pa_127_30 : pz_at 127 30 = some (30, .iload_n 2, 1, 0, 0, 0) := by decide +kernel
theorem pa_127_31 : pz_at 127 31 = some (31, .baload, 1, 0, 0, 0) := by decide +kernel
theorem pa_127_32 : pz_at 127 32 = some (32, .ifCond .eq 18, 3, 50, 0, 0) := by decide +kernel
theorem pa_127_35 : pz_at 127 35 = some (35, .iload_n 3, 1, 0, 0, 0) := by decide +kernel
theorem pa_127_36 : pz_at 127 36 = some (36, .iconst (-1), 1, 0, 0, 0) := by decide +kernel
theorem pa_127_37 : pz_at 127 37 = some (37, .if_icmp .eq 13, 3, 50, 0, 0) := by decide +kernel
theorem pa_127_40 : pz_at 127 40 = some (40, .aload_n 0, 1, 0, 0, 0) := by decide +kernel
theorem pa_127_41 : pz_at 127 41 = some (41, .iload_n 3, 1, 0, 0, 0) := by decide +kernel
theorem pa_127_42 : pz_at 127 42 = some (42, .invokevirtual 216, 3, 125, 1, 1194) := by decide +kernel
theorem pa_127_45 : pz_at 127 45 = some (45, .ifCond .eq 5, 3, 50, 0, 0) := by decide +kernel
theorem pa_127_48 : pz_at 127 48 = some (48, .iconst (-1), 1, 0, 0, 0) := by decide +kernel
theorem pa_127_49 : pz_at 127 49 = some (49, .ireturn, 1, 0, 0, 0) := by decide +kernel
theorem pa_127_5 : pz_at 127 5 = some (5, .ifCond .ne 43, 3, 48, 0, 0) := by decide +kernel
theorem pa_127_50 : pz_at 127 50 = some (50, .aload_n 0, 1, 0, 0, 0) := by decide +kernel
theorem pa_127_51 : pz_at 127 51 = some (51, .getfield 68, 3, 7, 25, 936) := by decide +kernel
theorem pa_127_54 : pz_at 127 54 = some (54, .bipush 16, 2, 0, 0, 0) := by decide +kernel
theorem pa_127_56 : pz_at 127 56 = some (56, .iload_n 1, 1, 0, 0, 0) := by decide +kernel
theorem pa_127_57 : pz_at 127 57 = some (57, .imul, 1, 0, 0, 0) := by decide +kernel
theorem pa_127_58 : pz_at 127 58 = some (58, .iload_n 2, 1, 0, 0, 0) := by decide +kernel
theorem pa_127_59 : pz_at 127 59 = some (59, .iadd, 1, 0, 0, 0) := by decide +kernel
theorem pa_127_60 : pz_at 127 60 = some (60, .iload_n 3, 1, 0, 0, 0) := by decide +kernel
theorem pa_127_61 : pz_at 127 61 = some (61, .iastore, 1, 0, 0, 0) := by decide +kernel
theorem pa_127_62 : pz_at 127 62 = some (62, .iconst 1, 1, 0, 0, 0) := by decide +kernel
theorem pa_127_63 : pz_at 127 63 = some (63, .ireturn, 1, 0, 0, 0) := by decide +kernel
theorem pa_127_8 : pz_at 127 8 = some (8, .aload_n 0, 1, 0, 0, 0) := by decide +kernel
theorem pa_127_9 : pz_at 127 9 = some (9, .iload_n 1, 1, 0, 0, 0) := by decide +kernel
theorem pm_125 : pz_mi 125 = (7, 2, (some .boolean)) := by decide +kernel
theorem pm_126 : pz_mi 126 = (7, 3, (some .boolean)) := by decide +kernel
theorem pr_127 : (pz_mi 127).2.2 = (some .int) := by decide +kernel
theorem pa_128_0 : pz_at 128 0 = some (0, .iload_n 1, 1, 0, 0, 0) := by decide +kernel
theorem pa_128_1 : pz_at 128 1 = some (1, .i2l, 1, 0, 0, 0) := by decide +kernel
theorem pa_128_10 : pz_at 128 10 = some (10, .invokestatic 160, 3, 109, 3, 1129) := by decide +kernel
theorem pa_128_13 : pz_at 128 13 = some (13, .ifCond .ne 25, 3, 38, 0, 0) := by decide +kernel
theorem pa_128_16 : pz_at 128 16 = some (16, .aload_n 0, 1, 0, 0, 0) := by decide +kernel
theorem pa_128_17 : pz_at 128 17 = some (17, .getfield 20, 3, 7, 6, 917) := by decide +kernel
theorem pa_128_2 : pz_at 128 2 = some (2, .lconst 0, 1, 0, 0, 0) := by decide +kernel
theorem pa_128_20 : pz_at 128 20 = some (20, .iload_n 1, 1, 0, 0, 0) := by decide +kernel
theorem pa_128_21 : pz_at 128 21 = some (21, .baload, 1, 0, 0, 0) := by decide +kernel
theorem pa_128_22 : pz_at 128 22 = some (22, .ifCond .eq 18, 3, 40, 0, 0) := by decide +kernel
theorem pa_128_25 : pz_at 128 25 = some (25, .iload_n 2, 1, 0, 0, 0) := by decide +kernel
theorem pa_128_26 : pz_at 128 26 = some (26, .iconst (-1), 1, 0, 0, 0) := by decide +kernel
theorem pa_128_27 : pz_at 128 27 = some (27, .if_icmp .eq 13, 3, 40, 0, 0) := by decide +kernel
theorem pa_128_3 : pz_at 128 3 = some (3, .aload_n 0, 1, 0, 0, 0) := by decide +kernel
theorem pa_128_30 : pz_at 128 30 = some (30, .aload_n 0, 1, 0, 0, 0) := by decide +kernel
theorem pa_128_31 : pz_at 128 31 = some (31, .iload_n 2, 1, 0, 0, 0) := by decide +kernel
theorem pa_128_32 : pz_at 128 32 = some (32, .invokevirtual 216, 3, 125, 1, 1194) := by decide +kernel
theorem pa_128_35 : pz_at 128 35 = some (35, .ifCond .eq 5, 3, 40, 0, 0) := by decide +kernel
theorem pa_128_38 : pz_at 128 38 = some (38, .iconst (-1), 1, 0, 0, 0) := by decide +kernel
theorem pa_128_39 : pz_at 128 39 = some (39, .ireturn, 1, 0, 0, 0) := by decide +kernel
theorem pa_128_4 : pz_at 128 4 = some (4, .getfield 177, 3, 7, 5, 916) := by decide +kernel
theorem pa_128_40 : pz_at 128 40 = some (40, .aload_n 0, 1, 0, 0, 0) := by decide +kernel
theorem pa_128_41 : pz_at 128 41 = some (41, .getfield 71, 3, 7, 26, 937) := by decide +kernel
theorem pa_128_44 : pz_at 128 44 = some (44, .iload_n 1, 1, 0, 0, 0) := by decide +kernel
theorem pa_128_45 : pz_at 128 45 = some (45, .iload_n 2, 1, 0, 0, 0) := by decide +kernel
theorem pa_128_46 : pz_at 128 46 = some (46, .iastore, 1, 0, 0, 0) := by decide +kernel
theorem pa_128_47 : pz_at 128 47 = some (47, .iconst 1, 1, 0, 0, 0) := by decide +kernel
theorem pa_128_48 : pz_at 128 48 = some (48, .ireturn, 1, 0, 0, 0) := by decide +kernel
theorem pa_128_7 : pz_at 128 7 = some (7, .iconst 1, 1, 0, 0, 0) := by decide +kernel
theorem pa_128_8 : pz_at 128 8 = some (8, .isub, 1, 0, 0, 0) := by decide +kernel
theorem pa_128_9 : pz_at 128 9 = some (9, .i2l, 1, 0, 0, 0) := by decide +kernel
theorem pr_128 : (pz_mi 128).2.2 = (some .int) := by decide +kernel
theorem pa_129_0 : pz_at 129 0 = some (0, .aload_n 0, 1, 0, 0, 0) := by decide +kernel
theorem pa_129_1 : pz_at 129 1 = some (1, .iload_n 1, 1, 0, 0, 0) := by decide +kernel
theorem pa_129_10 : pz_at 129 10 = some (10, .iload_n 2, 1, 0, 0, 0) := by decide +kernel
theorem pa_129_11 : pz_at 129 11 = some (11, .invokevirtual 219, 3, 126, 2, 1198) := by decide +kernel
theorem pa_129_14 : pz_at 129 14 = some (14, .ifCond .ne 7, 3, 21, 0, 0) := by decide +kernel
theorem pa_129_17 : pz_at 129 17 = some (17, .iconst 0, 1, 0, 0, 0) := by decide +kernel
theorem pa_129_18 : pz_at 129 18 = some (18, .goto 14, 3, 32, 0, 0) := by decide +kernel
theorem pa_129_2 : pz_at 129 2 = some (2, .invokevirtual 216, 3, 125, 1, 1194) := by decide +kernel
theorem pa_129_21 : pz_at 129 21 = some (21, .aload_n 0, 1, 0, 0, 0) := by decide +kernel
theorem pa_129_22 : pz_at 129 22 = some (22, .getfield 68, 3, 7, 25, 936) := by decide +kernel
theorem pa_129_25 : pz_at 129 25 = some (25, .bipush 16, 2, 0, 0, 0) := by decide +kernel
theorem pa_129_27 : pz_at 129 27 = some (27, .iload_n 1, 1, 0, 0, 0) := by decide +kernel
theorem pa_129_28 : pz_at 129 28 = some (28, .imul, 1, 0, 0, 0) := by decide +kernel
theorem pa_129_29 : pz_at 129 29 = some (29, .iload_n 2, 1, 0, 0, 0) := by decide +kernel
theorem pa_129_30 : pz_at 129 30 = some (30, .iadd, 1, 0, 0, 0) := by decide +kernel
theorem pa_129_31 : pz_at 129 31 = some (31, .iaload, 1, 0, 0, 0) := by decide +kernel
theorem pa_129_32 : pz_at 129 32 = some (32, .ireturn, 1, 0, 0, 0) := by decide +kernel
theorem pa_129_5 : pz_at 129 5 = some (5, .ifCond .ne 12, 3, 17, 0, 0) := by decide +kernel
theorem pa_129_8 : pz_at 129 8 = some (8, .aload_n 0, 1, 0, 0, 0) := by decide +kernel
theorem pa_129_9 : pz_at 129 9 = some (9, .iload_n 1, 1, 0, 0, 0) := by decide +kernel
theorem pr_129 : (pz_mi 129).2.2 = (some .int) := by decide +kernel
theorem pa_130_0 : pz_at 130 0 = some (0, .iload_n 1, 1, 0, 0, 0) := by decide +kernel
theorem pa_130_1 : pz_at 130 1 = some (1, .i2l, 1, 0, 0, 0) := by decide +kernel
theorem pa_130_10 : pz_at 130 10 = some (10, .invokestatic 160, 3, 109, 3, 1129) := by decide +kernel
theorem pa_130_13 : pz_at 130 13 = some (13, .ifCond .eq 7, 3, 20, 0, 0) := by decide +kernel
theorem pa_130_16 : pz_at 130 16 = some (16, .iconst 0, 1, 0, 0, 0) := by decide +kernel
theorem pa_130_17 : pz_at 130 17 = some (17, .goto 9, 3, 26, 0, 0) := by decide +kernel
theorem pa_130_2 : pz_at 130 2 = some (2, .lconst 0, 1, 0, 0, 0) := by decide +kernel
theorem pa_130_20 : pz_at 130 20 = some (20, .aload_n 0, 1, 0, 0, 0) := by decide +kernel
theorem pa_130_21 : pz_at 130 21 = some (21, .getfield 71, 3, 7, 26, 937) := by decide +kernel
theorem pa_130_24 : pz_at 130 24 = some (24, .iload_n 1, 1, 0, 0, 0) := by decide +kernel
theorem pa_130_25 : pz_at 130 25 = some (25, .iaload, 1, 0, 0, 0) := by decide +kernel
theorem pa_130_26 : pz_at 130 26 = some (26, .ireturn, 1, 0, 0, 0) := by decide +kernel
theorem pa_130_3 : pz_at 130 3 = some (3, .aload_n 0, 1, 0, 0, 0) := by decide +kernel
theorem pa_130_4 : pz_at 130 4 = some (4, .getfield 177, 3, 7, 5, 916) := by decide +kernel
theorem pa_130_7 : pz_at 130 7 = some (7, .iconst 1, 1, 0, 0, 0) := by decide +kernel
theorem pa_130_8 : pz_at 130 8 = some (8, .isub, 1, 0, 0, 0) := by decide +kernel
theorem pa_130_9 : pz_at 130 9 = some (9, .i2l, 1, 0, 0, 0) := by decide +kernel
theorem pr_130 : (pz_mi 130).2.2 = (some .int) := by decide +kernel
theorem pa_131_0 : pz_at 131 0 = some (0, .aload_n 0, 1, 0, 0, 0) := by decide +kernel
theorem pa_131_1 : pz_at 131 1 = some (1, .iload_n 1, 1, 0, 0, 0) := by decide +kernel
theorem pa_131_12 : pz_at 131 12 = some (12, .aload_n 0, 1, 0, 0, 0) := by decide +kernel
theorem pa_131_13 : pz_at 131 13 = some (13, .getfield 62, 3, 7, 23, 934) := by decide +kernel
theorem pa_131_16 : pz_at 131 16 = some (16, .iload_n 1, 1, 0, 0, 0) := by decide +kernel
theorem pa_131_17 : pz_at 131 17 = some (17, .iaload, 1, 0, 0, 0) := by decide +kernel
theorem pa_131_18 : pz_at 131 18 = some (18, .ifCond .lt 12, 3, 30, 0, 0) := by decide +kernel
theorem pa_131_2 : pz_at 131 2 = some (2, .invokevirtual 216, 3, 125, 1, 1194) := by decide +kernel
theorem pa_131_21 : pz_at 131 21 = some (21, .aload_n 0, 1, 0, 0, 0) := by decide +kernel
theorem pa_131_22 : pz_at 131 22 = some (22, .getfield 62, 3, 7, 23, 934) := by decide +kernel
theorem pa_131_25 : pz_at 131 25 = some (25, .iload_n 1, 1, 0, 0, 0) := by decide +kernel
theorem pa_131_26 : pz_at 131 26 = some (26, .iaload, 1, 0, 0, 0) := by decide +kernel
theorem pa_131_27 : pz_at 131 27 = some (27, .goto 12, 3, 39, 0, 0) := by decide +kernel
theorem pa_131_30 : pz_at 131 30 = some (30, .bipush (-10), 2, 0, 0, 0) := by decide +kernel
theorem pa_131_32 : pz_at 131 32 = some (32, .aload_n 0, 1, 0, 0, 0) := by decide +kernel
theorem pa_131_33 : pz_at 131 33 = some (33, .getfield 65, 3, 7, 24, 935) := by decide +kernel
theorem pa_131_36 : pz_at 131 36 = some (36, .iload_n 1, 1, 0, 0, 0) := by decide +kernel
theorem pa_131_37 : pz_at 131 37 = some (37, .iaload, 1, 0, 0, 0) := by decide +kernel
theorem pa_131_38 : pz_at 131 38 = some (38, .isub, 1, 0, 0, 0) := by decide +kernel
theorem pa_131_39 : pz_at 131 39 = some (39, .ireturn, 1, 0, 0, 0) := by decide +kernel
theorem pa_131_5 : pz_at 131 5 = some (5, .ifCond .eq 7, 3, 12, 0, 0) := by decide +kernel
theorem pa_131_8 : pz_at 131 8 = some (8, .iconst (-1), 1, 0, 0, 0) := by decide +kernel
theorem pa_131_9 : pz_at 131 9 = some (9, .goto 30, 3, 39, 0, 0) := by decide +kernel
theorem pr_131 : (pz_mi 131).2.2 = (some .int) := by decide +kernel
theorem pa_132_0 : pz_at 132 0 = some (0, .iload_n 1, 1, 0, 0, 0) := by decide +kernel
theorem pa_132_1 : pz_at 132 1 = some (1, .i2l, 1, 0, 0, 0) := by decide +kernel
theorem pa_132_10 : pz_at 132 10 = some (10, .iload_n 3, 1, 0, 0, 0) := by decide +kernel
theorem pa_132_11 : pz_at 132 11 = some (11, .i2l, 1, 0, 0, 0) := by decide +kernel
theorem pa_132_12 : pz_at 132 12 = some (12, .lconst 0, 1, 0, 0, 0) := by decide +kernel
theorem pa_132_13 : pz_at 132 13 = some (13, .ldc2_w 182, 3, 2, 0, 1149) := by decide +kernel
theorem pa_132_16 : pz_at 132 16 = some (16, .invokestatic 160, 3, 109, 3, 1129) := by decide +kernel
theorem pa_132_19 : pz_at 132 19 = some (19, .ifCond .eq 6, 3, 25, 0, 0) := by decide +kernel
theorem pa_132_2 : pz_at 132 2 = some (2, .lconst 0, 1, 0, 0, 0) := by decide +kernel
theorem pa_132_22 : pz_at 132 22 = some (22, .bipush (-2), 2, 0, 0, 0) := by decide +kernel
theorem pa_132_24 : pz_at 132 24 = some (24, .ireturn, 1, 0, 0, 0) := by decide +kernel
theorem pa_132_25 : pz_at 132 25 = some (25, .iconst 3, 1, 0, 0, 0) := by decide +kernel
theorem pa_132_26 : pz_at 132 26 = some (26, .iload_n 1, 1, 0, 0, 0) := by decide +kernel
theorem pa_132_27 : pz_at 132 27 = some (27, .imul, 1, 0, 0, 0) := by decide +kernel
theorem pa_132_28 : pz_at 132 28 = some (28, .iload_n 3, 1, 0, 0, 0) := by decide +kernel
theorem pa_132_29 : pz_at 132 29 = some (29, .iadd, 1, 0, 0, 0) := by decide +kernel
theorem pa_132_3 : pz_at 132 3 = some (3, .lconst 1, 1, 0, 0, 0) := by decide +kernel
theorem pa_132_30 : pz_at 132 30 = some (30, .istore 5, 2, 0, 0, 0) := by decide +kernel
theorem pa_132_32 : pz_at 132 32 = some (32, .iload_n 2, 1, 0, 0, 0) := by decide +kernel
theorem pa_132_33 : pz_at 132 33 = some (33, .ifCond .eq 45, 3, 78, 0, 0) := by decide +kernel
theorem pa_132_36 : pz_at 132 36 = some (36, .iload 4, 2, 0, 0, 0) := by decide +kernel
theorem pa_132_38 : pz_at 132 38 = some (38, .iconst (-1), 1, 0, 0, 0) := by decide +kernel
theorem pa_132_39 : pz_at 132 39 = some (39, .if_icmp .eq 14, 3, 53, 0, 0) := by decide +kernel
theorem pa_132_4 : pz_at 132 4 = some (4, .invokestatic 160, 3, 109, 3, 1129) := by decide +kernel
theorem pa_132_42 : pz_at 132 42 = some (42, .aload_n 0, 1, 0, 0, 0) := by decide +kernel
theorem pa_132_43 : pz_at 132 43 = some (43, .iload 4, 2, 0, 0, 0) := by decide +kernel
theorem pa_132_45 : pz_at 132 45 = some (45, .invokevirtual 216, 3, 125, 1, 1194) := by decide +kernel
theorem pa_132_48 : pz_at 132 48 = some (48, .ifCond .eq 5, 3, 53, 0, 0) := by decide +kernel
theorem pa_132_51 : pz_at 132 51 = some (51, .iconst (-1), 1, 0, 0, 0) := by decide +kernel
theorem pa_132_52 : pz_at 132 52 = some (52, .ireturn, 1, 0, 0, 0) := by decide +kernel
theorem pa_132_53 : pz_at 132 53 = some (53, .aload_n 0, 1, 0, 0, 0) := by decide +kernel
theorem pa_132_54 : pz_at 132 54 = some (54, .getfield 80, 3, 7, 30, 941) := by decide +kernel
theorem pa_132_57 : pz_at 132 57 = some (57, .iload 5, 2, 0, 0, 0) := by decide +kernel
theorem pa_132_59 : pz_at 132 59 = some (59, .iaload, 1, 0, 0, 0) := by decide +kernel
theorem pa_132_60 : pz_at 132 60 = some (60, .iconst 1, 1, 0, 0, 0) := by decide +kernel
theorem pa_132_61 : pz_at 132 61 = some (61, .isub, 1, 0, 0, 0) := by decide +kernel
theorem pa_132_62 : pz_at 132 62 = some (62, .istore 6, 2, 0, 0, 0) := by decide +kernel
theorem pa_132_64 : pz_at 132 64 = some (64, .aload_n 0, 1, 0, 0, 0) := by decide +kernel
theorem pa_132_65 : pz_at 132 65 = some (65, .getfield 80, 3, 7, 30, 941) := by decide +kernel
theorem pa_132_68 : pz_at 132 68 = some (68, .iload 5, 2, 0, 0, 0) := by decide +kernel
theorem pa_132_7 : pz_at 132 7 = some (7, .ifCond .ne 15, 3, 22, 0, 0) := by decide +kernel
theorem pa_132_70 : pz_at 132 70 = some (70, .iload 4, 2, 0, 0, 0) := by decide +kernel
theorem pa_132_72 : pz_at 132 72 = some (72, .iconst 1, 1, 0, 0, 0) := by decide +kernel
theorem pa_132_73 : pz_at 132 73 = some (73, .iadd, 1, 0, 0, 0) := by decide +kernel
theorem pa_132_74 : pz_at 132 74 = some (74, .iastore, 1, 0, 0, 0) := by decide +kernel
theorem pa_132_75 : pz_at 132 75 = some (75, .iload 6, 2, 0, 0, 0) := by decide +kernel
theorem pa_132_77 : pz_at 132 77 = some (77, .ireturn, 1, 0, 0, 0) := by decide +kernel
theorem pa_132_78 : pz_at 132 78 = some (78, .aload_n 0, 1, 0, 0, 0) := by decide +kernel
theorem pa_132_79 : pz_at 132 79 = some (79, .getfield 77, 3, 7, 29, 940) := by decide +kernel
theorem pa_132_82 : pz_at 132 82 = some (82, .iload 5, 2, 0, 0, 0) := by decide +kernel
theorem pa_132_84 : pz_at 132 84 = some (84, .iaload, 1, 0, 0, 0) := by decide +kernel
theorem pa_132_85 : pz_at 132 85 = some (85, .istore 6, 2, 0, 0, 0) := by decide +kernel
theorem pa_132_87 : pz_at 132 87 = some (87, .aload_n 0, 1, 0, 0, 0) := by decide +kernel
theorem pa_132_88 : pz_at 132 88 = some (88, .getfield 77, 3, 7, 29, 940) := by decide +kernel
theorem pa_132_91 : pz_at 132 91 = some (91, .iload 5, 2, 0, 0, 0) := by decide +kernel
theorem pa_132_93 : pz_at 132 93 = some (93, .iload 4, 2, 0, 0, 0) := by decide +kernel
theorem pa_132_95 : pz_at 132 95 = some (95, .iastore, 1, 0, 0, 0) := by decide +kernel
theorem pa_132_96 : pz_at 132 96 = some (96, .iload 6, 2, 0, 0, 0) := by decide +kernel
theorem pa_132_98 : pz_at 132 98 = some (98, .ireturn, 1, 0, 0, 0) := by decide +kernel
theorem pf_55_7_29 : pz_gf 55 7 29 = some (some 78) := by decide +kernel
theorem pf_55_7_30 : pz_gf 55 7 30 = some (some 79) := by decide +kernel
theorem pg_78 : pz_ga 78 = some (.int, 6) := by decide +kernel
theorem pg_79 : pz_ga 79 = some (.int, 6) := by decide +kernel
theorem pr_132 : (pz_mi 132).2.2 = (some .int) := by decide +kernel
theorem pa_133_0 : pz_at 133 0 = some (0, .bipush 25, 2, 0, 0, 0) := by decide +kernel
theorem pa_133_10 : pz_at 133 10 = some (10, .iaload, 1, 0, 0, 0) := by decide +kernel
theorem pa_133_100 : pz_at 133 100 = some (100, .iaload, 1, 0, 0, 0) := by decide +kernel
theorem pa_133_101 : pz_at 133 101 = some (101, .if_icmp .eq 7, 3, 108, 0, 0) := by decide +kernel
theorem pa_133_104 : pz_at 133 104 = some (104, .iconst 1, 1, 0, 0, 0) := by decide +kernel
theorem pa_133_105 : pz_at 133 105 = some (105, .goto 4, 3, 109, 0, 0) := by decide +kernel
theorem pa_133_108 : pz_at 133 108 = some (108, .iconst 0, 1, 0, 0, 0) := by decide +kernel
theorem pa_133_109 : pz_at 133 109 = some (109, .putfield 222, 3, 7, 39, 950) := by decide +kernel
theorem pa_133_11 : pz_at 133 11 = some (11, .if_icmp .ge 7, 3, 18, 0, 0) := by decide +kernel
theorem pa_133_112 : pz_at 133 112 = some (112, .aload_n 0, 1, 0, 0, 0) := by decide +kernel
theorem pa_133_113 : pz_at 133 113 = some (113, .getfield 83, 3, 7, 31, 942) := by decide +kernel
theorem pa_133_116 : pz_at 133 116 = some (116, .bipush 8, 2, 0, 0, 0) := by decide +kernel
theorem pa_133_118 : pz_at 133 118 = some (118, .iload_n 3, 1, 0, 0, 0) := by decide +kernel
theorem pa_133_119 : pz_at 133 119 = some (119, .imul, 1, 0, 0, 0) := by decide +kernel
theorem pa_133_120 : pz_at 133 120 = some (120, .iload 4, 2, 0, 0, 0) := by decide +kernel
theorem pa_133_122 : pz_at 133 122 = some (122, .iadd, 1, 0, 0, 0) := by decide +kernel
theorem pa_133_123 : pz_at 133 123 = some (123, .iload 5, 2, 0, 0, 0) := by decide +kernel
theorem pa_133_125 : pz_at 133 125 = some (125, .iastore, 1, 0, 0, 0) := by decide +kernel
theorem pa_133_126 : pz_at 133 126 = some (126, .iinc 4 1, 3, 0, 0, 0) := by decide +kernel
theorem pa_133_129 : pz_at 133 129 = some (129, .goto (-79), 3, 50, 0, 0) := by decide +kernel
theorem pa_133_132 : pz_at 133 132 = some (132, .return_, 1, 0, 0, 0) := by decide +kernel
theorem pa_133_14 : pz_at 133 14 = some (14, .iload_n 2, 1, 0, 0, 0) := by decide +kernel
theorem pa_133_15 : pz_at 133 15 = some (15, .goto 9, 3, 24, 0, 0) := by decide +kernel
theorem pa_133_18 : pz_at 133 18 = some (18, .aload_n 0, 1, 0, 0, 0) := by decide +kernel
theorem pa_133_19 : pz_at 133 19 = some (19, .getfield 32, 3, 7, 11, 922) := by decide +kernel
theorem pa_133_2 : pz_at 133 2 = some (2, .iload_n 1, 1, 0, 0, 0) := by decide +kernel
theorem pa_133_22 : pz_at 133 22 = some (22, .iload_n 1, 1, 0, 0, 0) := by decide +kernel
theorem pa_133_23 : pz_at 133 23 = some (23, .iaload, 1, 0, 0, 0) := by decide +kernel
theorem pa_133_24 : pz_at 133 24 = some (24, .iadd, 1, 0, 0, 0) := by decide +kernel
theorem pa_133_25 : pz_at 133 25 = some (25, .istore_n 3, 1, 0, 0, 0) := by decide +kernel
theorem pa_133_26 : pz_at 133 26 = some (26, .aload_n 0, 1, 0, 0, 0) := by decide +kernel
theorem pa_133_27 : pz_at 133 27 = some (27, .getfield 86, 3, 7, 32, 943) := by decide +kernel
theorem pa_133_3 : pz_at 133 3 = some (3, .imul, 1, 0, 0, 0) := by decide +kernel
theorem pa_133_30 : pz_at 133 30 = some (30, .iload_n 3, 1, 0, 0, 0) := by decide +kernel
theorem pa_133_31 : pz_at 133 31 = some (31, .baload, 1, 0, 0, 0) := by decide +kernel
theorem pa_133_32 : pz_at 133 32 = some (32, .ifCond .ne 15, 3, 47, 0, 0) := by decide +kernel
theorem pa_133_35 : pz_at 133 35 = some (35, .aload_n 0, 1, 0, 0, 0) := by decide +kernel
theorem pa_133_36 : pz_at 133 36 = some (36, .getfield 86, 3, 7, 32, 943) := by decide +kernel
theorem pa_133_39 : pz_at 133 39 = some (39, .iload_n 3, 1, 0, 0, 0) := by decide +kernel
theorem pa_133_4 : pz_at 133 4 = some (4, .iload_n 2, 1, 0, 0, 0) := by decide +kernel
theorem pa_133_40 : pz_at 133 40 = some (40, .iconst 1, 1, 0, 0, 0) := by decide +kernel
theorem pa_133_41 : pz_at 133 41 = some (41, .bastore, 1, 0, 0, 0) := by decide +kernel
theorem pa_133_42 : pz_at 133 42 = some (42, .aload_n 0, 1, 0, 0, 0) := by decide +kernel
theorem pa_133_43 : pz_at 133 43 = some (43, .iconst 1, 1, 0, 0, 0) := by decide +kernel
theorem pa_133_44 : pz_at 133 44 = some (44, .putfield 222, 3, 7, 39, 950) := by decide +kernel
theorem pa_133_47 : pz_at 133 47 = some (47, .iconst 0, 1, 0, 0, 0) := by decide +kernel
theorem pa_133_48 : pz_at 133 48 = some (48, .istore 4, 2, 0, 0, 0) := by decide +kernel
theorem pa_133_5 : pz_at 133 5 = some (5, .aload_n 0, 1, 0, 0, 0) := by decide +kernel
theorem pa_133_50 : pz_at 133 50 = some (50, .iload 4, 2, 0, 0, 0) := by decide +kernel
theorem pa_133_52 : pz_at 133 52 = some (52, .bipush 8, 2, 0, 0, 0) := by decide +kernel
theorem pa_133_54 : pz_at 133 54 = some (54, .if_icmp .ge 78, 3, 132, 0, 0) := by decide +kernel
theorem pa_133_57 : pz_at 133 57 = some (57, .aload_n 0, 1, 0, 0, 0) := by decide +kernel
theorem pa_133_58 : pz_at 133 58 = some (58, .getfield 83, 3, 7, 31, 942) := by decide +kernel
theorem pa_133_6 : pz_at 133 6 = some (6, .getfield 32, 3, 7, 11, 922) := by decide +kernel
theorem pa_133_61 : pz_at 133 61 = some (61, .bipush 8, 2, 0, 0, 0) := by decide +kernel
theorem pa_133_63 : pz_at 133 63 = some (63, .iload_n 3, 1, 0, 0, 0) := by decide +kernel
theorem pa_133_64 : pz_at 133 64 = some (64, .imul, 1, 0, 0, 0) := by decide +kernel
theorem pa_133_65 : pz_at 133 65 = some (65, .iload 4, 2, 0, 0, 0) := by decide +kernel
theorem pa_133_67 : pz_at 133 67 = some (67, .iadd, 1, 0, 0, 0) := by decide +kernel
theorem pa_133_68 : pz_at 133 68 = some (68, .iaload, 1, 0, 0, 0) := by decide +kernel
theorem pa_133_69 : pz_at 133 69 = some (69, .aload_n 0, 1, 0, 0, 0) := by decide +kernel
theorem pa_133_70 : pz_at 133 70 = some (70, .getfield 107, 3, 7, 40, 951) := by decide +kernel
theorem pa_133_73 : pz_at 133 73 = some (73, .iload 4, 2, 0, 0, 0) := by decide +kernel
theorem pa_133_75 : pz_at 133 75 = some (75, .iaload, 1, 0, 0, 0) := by decide +kernel
theorem pa_133_76 : pz_at 133 76 = some (76, .ior, 1, 0, 0, 0) := by decide +kernel
theorem pa_133_77 : pz_at 133 77 = some (77, .istore 5, 2, 0, 0, 0) := by decide +kernel
theorem pa_133_79 : pz_at 133 79 = some (79, .aload_n 0, 1, 0, 0, 0) := by decide +kernel
theorem pa_133_80 : pz_at 133 80 = some (80, .aload_n 0, 1, 0, 0, 0) := by decide +kernel
theorem pa_133_81 : pz_at 133 81 = some (81, .getfield 222, 3, 7, 39, 950) := by decide +kernel
theorem pa_133_84 : pz_at 133 84 = some (84, .ifCond .ne 20, 3, 104, 0, 0) := by decide +kernel
theorem pa_133_87 : pz_at 133 87 = some (87, .iload 5, 2, 0, 0, 0) := by decide +kernel
theorem pa_133_89 : pz_at 133 89 = some (89, .aload_n 0, 1, 0, 0, 0) := by decide +kernel
theorem pa_133_9 : pz_at 133 9 = some (9, .iload_n 1, 1, 0, 0, 0) := by decide +kernel
theorem pa_133_90 : pz_at 133 90 = some (90, .getfield 83, 3, 7, 31, 942) := by decide +kernel
theorem pa_133_93 : pz_at 133 93 = some (93, .bipush 8, 2, 0, 0, 0) := by decide +kernel
theorem pa_133_95 : pz_at 133 95 = some (95, .iload_n 3, 1, 0, 0, 0) := by decide +kernel
theorem pa_133_96 : pz_at 133 96 = some (96, .imul, 1, 0, 0, 0) := by decide +kernel
theorem pa_133_97 : pz_at 133 97 = some (97, .iload 4, 2, 0, 0, 0) := by decide +kernel
theorem pa_133_99 : pz_at 133 99 = some (99, .iadd, 1, 0, 0, 0) := by decide +kernel
theorem pf_55_7_31 : pz_gf 55 7 31 = some (some 80) := by decide +kernel
theorem pf_55_7_32 : pz_gf 55 7 32 = some (some 81) := by decide +kernel
theorem pf_55_7_39 : pz_gf 55 7 39 = some none := by decide +kernel
theorem pf_55_7_40 : pz_gf 55 7 40 = some (some 88) := by decide +kernel
theorem pg_80 : pz_ga 80 = some (.int, 2000) := by decide +kernel
theorem pg_81 : pz_ga 81 = some (.boolean, 250) := by decide +kernel
theorem pg_88 : pz_ga 88 = some (.int, 8) := by decide +kernel
theorem pr_133 : (pz_mi 133).2.2 = none := by decide +kernel
theorem pa_134_0 : pz_at 134 0 = some (0, .aload_n 0, 1, 0, 0, 0) := by decide +kernel
theorem pa_134_1 : pz_at 134 1 = some (1, .iload_n 1, 1, 0, 0, 0) := by decide +kernel
theorem pa_134_11 : pz_at 134 11 = some (11, .ifCond .lt 13, 3, 24, 0, 0) := by decide +kernel
theorem pa_134_14 : pz_at 134 14 = some (14, .aload_n 0, 1, 0, 0, 0) := by decide +kernel
theorem pa_134_15 : pz_at 134 15 = some (15, .iload_n 1, 1, 0, 0, 0) := by decide +kernel
theorem pa_134_16 : pz_at 134 16 = some (16, .iload 4, 2, 0, 0, 0) := by decide +kernel
theorem pa_134_18 : pz_at 134 18 = some (18, .invokevirtual 229, 3, 133, 2, 1226) := by decide +kernel
theorem pa_134_2 : pz_at 134 2 = some (2, .iload_n 2, 1, 0, 0, 0) := by decide +kernel
theorem pa_134_21 : pz_at 134 21 = some (21, .goto 33, 3, 54, 0, 0) := by decide +kernel
theorem pa_134_24 : pz_at 134 24 = some (24, .aload_n 0, 1, 0, 0, 0) := by decide +kernel
theorem pa_134_25 : pz_at 134 25 = some (25, .getfield 95, 3, 7, 35, 946) := by decide +kernel
theorem pa_134_28 : pz_at 134 28 = some (28, .iload_n 1, 1, 0, 0, 0) := by decide +kernel
theorem pa_134_29 : pz_at 134 29 = some (29, .iaload, 1, 0, 0, 0) := by decide +kernel
theorem pa_134_3 : pz_at 134 3 = some (3, .iload_n 3, 1, 0, 0, 0) := by decide +kernel
theorem pa_134_30 : pz_at 134 30 = some (30, .iload_n 3, 1, 0, 0, 0) := by decide +kernel
theorem pa_134_31 : pz_at 134 31 = some (31, .ishr, 1, 0, 0, 0) := by decide +kernel
theorem pa_134_32 : pz_at 134 32 = some (32, .iconst 1, 1, 0, 0, 0) := by decide +kernel
theorem pa_134_33 : pz_at 134 33 = some (33, .iand, 1, 0, 0, 0) := by decide +kernel
theorem pa_134_34 : pz_at 134 34 = some (34, .ifCond .ne 20, 3, 54, 0, 0) := by decide +kernel
theorem pa_134_37 : pz_at 134 37 = some (37, .aload_n 0, 1, 0, 0, 0) := by decide +kernel
theorem pa_134_38 : pz_at 134 38 = some (38, .getfield 95, 3, 7, 35, 946) := by decide +kernel
theorem pa_134_4 : pz_at 134 4 = some (4, .invokevirtual 225, 3, 121, 3, 1238) := by decide +kernel
theorem pa_134_41 : pz_at 134 41 = some (41, .iload_n 1, 1, 0, 0, 0) := by decide +kernel
theorem pa_134_42 : pz_at 134 42 = some (42, .dup2, 1, 0, 0, 0) := by decide +kernel
theorem pa_134_43 : pz_at 134 43 = some (43, .iaload, 1, 0, 0, 0) := by decide +kernel
theorem pa_134_44 : pz_at 134 44 = some (44, .iconst 1, 1, 0, 0, 0) := by decide +kernel
theorem pa_134_45 : pz_at 134 45 = some (45, .iload_n 3, 1, 0, 0, 0) := by decide +kernel
theorem pa_134_46 : pz_at 134 46 = some (46, .ishl, 1, 0, 0, 0) := by decide +kernel
theorem pa_134_47 : pz_at 134 47 = some (47, .ior, 1, 0, 0, 0) := by decide +kernel
theorem pa_134_48 : pz_at 134 48 = some (48, .iastore, 1, 0, 0, 0) := by decide +kernel
theorem pa_134_49 : pz_at 134 49 = some (49, .aload_n 0, 1, 0, 0, 0) := by decide +kernel
theorem pa_134_50 : pz_at 134 50 = some (50, .iconst 1, 1, 0, 0, 0) := by decide +kernel
theorem pa_134_51 : pz_at 134 51 = some (51, .putfield 222, 3, 7, 39, 950) := by decide +kernel
theorem pa_134_54 : pz_at 134 54 = some (54, .return_, 1, 0, 0, 0) := by decide +kernel
theorem pa_134_7 : pz_at 134 7 = some (7, .istore 4, 2, 0, 0, 0) := by decide +kernel
theorem pa_134_9 : pz_at 134 9 = some (9, .iload 4, 2, 0, 0, 0) := by decide +kernel
theorem pf_55_7_35 : pz_gf 55 7 35 = some (some 84) := by decide +kernel
theorem pg_84 : pz_ga 84 = some (.int, 10) := by decide +kernel
theorem pm_121 : pz_mi 121 = (7, 5, (some .int)) := by decide +kernel
theorem pm_133 : pz_mi 133 = (7, 6, none) := by decide +kernel
theorem pr_134 : (pz_mi 134).2.2 = none := by decide +kernel
theorem pa_135_0 : pz_at 135 0 = some (0, .iconst 0, 1, 0, 0, 0) := by decide +kernel
theorem pa_135_1 : pz_at 135 1 = some (1, .istore 5, 2, 0, 0, 0) := by decide +kernel
theorem pa_135_100 : pz_at 135 100 = some (100, .iload 6, 2, 0, 0, 0) := by decide +kernel
theorem pa_135_102 : pz_at 135 102 = some (102, .iload 7, 2, 0, 0, 0) := by decide +kernel
theorem pa_135_104 : pz_at 135 104 = some (104, .iload_n 3, 1, 0, 0, 0) := by decide +kernel
theorem pa_135_105 : pz_at 135 105 = some (105, .ior, 1, 0, 0, 0) := by decide +kernel
theorem pa_135_106 : pz_at 135 106 = some (106, .iastore, 1, 0, 0, 0) := by decide +kernel
theorem pa_135_107 : pz_at 135 107 = some (107, .iinc 5 1, 3, 0, 0, 0) := by decide +kernel
theorem pa_135_11 : pz_at 135 11 = some (11, .iload 5, 2, 0, 0, 0) := by decide +kernel
theorem pa_135_110 : pz_at 135 110 = some (110, .goto (-107), 3, 3, 0, 0) := by decide +kernel
theorem pa_135_113 : pz_at 135 113 = some (113, .return_, 1, 0, 0, 0) := by decide +kernel
theorem pa_135_13 : pz_at 135 13 = some (13, .iconst 2, 1, 0, 0, 0) := by decide +kernel
theorem pa_135_14 : pz_at 135 14 = some (14, .iadd, 1, 0, 0, 0) := by decide +kernel
theorem pa_135_15 : pz_at 135 15 = some (15, .ishr, 1, 0, 0, 0) := by decide +kernel
theorem pa_135_16 : pz_at 135 16 = some (16, .iconst 1, 1, 0, 0, 0) := by decide +kernel
theorem pa_135_17 : pz_at 135 17 = some (17, .iand, 1, 0, 0, 0) := by decide +kernel
theorem pa_135_18 : pz_at 135 18 = some (18, .iconst 1, 1, 0, 0, 0) := by decide +kernel
theorem pa_135_19 : pz_at 135 19 = some (19, .if_icmp .ne 88, 3, 107, 0, 0) := by decide +kernel
theorem pa_135_22 : pz_at 135 22 = some (22, .iconst 4, 1, 0, 0, 0) := by decide +kernel
theorem pa_135_23 : pz_at 135 23 = some (23, .iload_n 1, 1, 0, 0, 0) := by decide +kernel
theorem pa_135_24 : pz_at 135 24 = some (24, .imul, 1, 0, 0, 0) := by decide +kernel
theorem pa_135_25 : pz_at 135 25 = some (25, .iload 5, 2, 0, 0, 0) := by decide +kernel
theorem pa_135_27 : pz_at 135 27 = some (27, .iadd, 1, 0, 0, 0) := by decide +kernel
theorem pa_135_28 : pz_at 135 28 = some (28, .istore 6, 2, 0, 0, 0) := by decide +kernel
theorem pa_135_3 : pz_at 135 3 = some (3, .iload 5, 2, 0, 0, 0) := by decide +kernel
theorem pa_135_30 : pz_at 135 30 = some (30, .iload_n 2, 1, 0, 0, 0) := by decide +kernel
theorem pa_135_31 : pz_at 135 31 = some (31, .ifCond .eq 13, 3, 44, 0, 0) := by decide +kernel
theorem pa_135_34 : pz_at 135 34 = some (34, .aload_n 0, 1, 0, 0, 0) := by decide +kernel
theorem pa_135_35 : pz_at 135 35 = some (35, .getfield 104, 3, 7, 38, 949) := by decide +kernel
theorem pa_135_38 : pz_at 135 38 = some (38, .iload 6, 2, 0, 0, 0) := by decide +kernel
theorem pa_135_40 : pz_at 135 40 = some (40, .iaload, 1, 0, 0, 0) := by decide +kernel
theorem pa_135_41 : pz_at 135 41 = some (41, .goto 10, 3, 51, 0, 0) := by decide +kernel
theorem pa_135_44 : pz_at 135 44 = some (44, .aload_n 0, 1, 0, 0, 0) := by decide +kernel
theorem pa_135_45 : pz_at 135 45 = some (45, .getfield 101, 3, 7, 37, 948) := by decide +kernel
theorem pa_135_48 : pz_at 135 48 = some (48, .iload 6, 2, 0, 0, 0) := by decide +kernel
theorem pa_135_5 : pz_at 135 5 = some (5, .iconst 4, 1, 0, 0, 0) := by decide +kernel
theorem pa_135_50 : pz_at 135 50 = some (50, .iaload, 1, 0, 0, 0) := by decide +kernel
theorem pa_135_51 : pz_at 135 51 = some (51, .istore 7, 2, 0, 0, 0) := by decide +kernel
theorem pa_135_53 : pz_at 135 53 = some (53, .aload_n 0, 1, 0, 0, 0) := by decide +kernel
theorem pa_135_54 : pz_at 135 54 = some (54, .aload_n 0, 1, 0, 0, 0) := by decide +kernel
theorem pa_135_55 : pz_at 135 55 = some (55, .getfield 222, 3, 7, 39, 950) := by decide +kernel
theorem pa_135_58 : pz_at 135 58 = some (58, .ifCond .ne 12, 3, 70, 0, 0) := by decide +kernel
theorem pa_135_6 : pz_at 135 6 = some (6, .if_icmp .ge 107, 3, 113, 0, 0) := by decide +kernel
theorem pa_135_61 : pz_at 135 61 = some (61, .iload 7, 2, 0, 0, 0) := by decide +kernel
theorem pa_135_63 : pz_at 135 63 = some (63, .iload_n 3, 1, 0, 0, 0) := by decide +kernel
theorem pa_135_64 : pz_at 135 64 = some (64, .ior, 1, 0, 0, 0) := by decide +kernel
theorem pa_135_65 : pz_at 135 65 = some (65, .iload 7, 2, 0, 0, 0) := by decide +kernel
theorem pa_135_67 : pz_at 135 67 = some (67, .if_icmp .eq 7, 3, 74, 0, 0) := by decide +kernel
theorem pa_135_70 : pz_at 135 70 = some (70, .iconst 1, 1, 0, 0, 0) := by decide +kernel
theorem pa_135_71 : pz_at 135 71 = some (71, .goto 4, 3, 75, 0, 0) := by decide +kernel
theorem pa_135_74 : pz_at 135 74 = some (74, .iconst 0, 1, 0, 0, 0) := by decide +kernel
theorem pa_135_75 : pz_at 135 75 = some (75, .putfield 222, 3, 7, 39, 950) := by decide +kernel
theorem pa_135_78 : pz_at 135 78 = some (78, .iload_n 2, 1, 0, 0, 0) := by decide +kernel
theorem pa_135_79 : pz_at 135 79 = some (79, .ifCond .eq 17, 3, 96, 0, 0) := by decide +kernel
theorem pa_135_82 : pz_at 135 82 = some (82, .aload_n 0, 1, 0, 0, 0) := by decide +kernel
theorem pa_135_83 : pz_at 135 83 = some (83, .getfield 104, 3, 7, 38, 949) := by decide +kernel
theorem pa_135_86 : pz_at 135 86 = some (86, .iload 6, 2, 0, 0, 0) := by decide +kernel
theorem pa_135_88 : pz_at 135 88 = some (88, .iload 7, 2, 0, 0, 0) := by decide +kernel
theorem pa_135_9 : pz_at 135 9 = some (9, .iload 4, 2, 0, 0, 0) := by decide +kernel
theorem pa_135_90 : pz_at 135 90 = some (90, .iload_n 3, 1, 0, 0, 0) := by decide +kernel
theorem pa_135_91 : pz_at 135 91 = some (91, .ior, 1, 0, 0, 0) := by decide +kernel
theorem pa_135_92 : pz_at 135 92 = some (92, .iastore, 1, 0, 0, 0) := by decide +kernel
theorem pa_135_93 : pz_at 135 93 = some (93, .goto 14, 3, 107, 0, 0) := by decide +kernel
theorem pa_135_96 : pz_at 135 96 = some (96, .aload_n 0, 1, 0, 0, 0) := by decide +kernel
theorem pa_135_97 : pz_at 135 97 = some (97, .getfield 101, 3, 7, 37, 948) := by decide +kernel
theorem pf_55_7_37 : pz_gf 55 7 37 = some (some 86) := by decide +kernel
theorem pf_55_7_38 : pz_gf 55 7 38 = some (some 87) := by decide +kernel
theorem pg_86 : pz_ga 86 = some (.int, 40) := by decide +kernel
theorem pg_87 : pz_ga 87 = some (.int, 40) := by decide +kernel
theorem pr_135 : (pz_mi 135).2.2 = none := by decide +kernel
theorem pa_136_0 : pz_at 136 0 = some (0, .aload_n 0, 1, 0, 0, 0) := by decide +kernel
theorem pa_136_1 : pz_at 136 1 = some (1, .aload_n 0, 1, 0, 0, 0) := by decide +kernel
theorem pa_136_12 : pz_at 136 12 = some (12, .iload_n 1, 1, 0, 0, 0) := by decide +kernel
theorem pa_136_13 : pz_at 136 13 = some (13, .baload, 1, 0, 0, 0) := by decide +kernel
theorem pa_136_14 : pz_at 136 14 = some (14, .ifCond .ne 7, 3, 21, 0, 0) := by decide +kernel
theorem pa_136_17 : pz_at 136 17 = some (17, .iconst 1, 1, 0, 0, 0) := by decide +kernel
theorem pa_136_18 : pz_at 136 18 = some (18, .goto 4, 3, 22, 0, 0) := by decide +kernel
theorem pa_136_2 : pz_at 136 2 = some (2, .getfield 222, 3, 7, 39, 950) := by decide +kernel
theorem pa_136_21 : pz_at 136 21 = some (21, .iconst 0, 1, 0, 0, 0) := by decide +kernel
theorem pa_136_22 : pz_at 136 22 = some (22, .putfield 222, 3, 7, 39, 950) := by decide +kernel
theorem pa_136_25 : pz_at 136 25 = some (25, .aload_n 0, 1, 0, 0, 0) := by decide +kernel
theorem pa_136_26 : pz_at 136 26 = some (26, .getfield 92, 3, 7, 34, 945) := by decide +kernel
theorem pa_136_29 : pz_at 136 29 = some (29, .iload_n 1, 1, 0, 0, 0) := by decide +kernel
theorem pa_136_30 : pz_at 136 30 = some (30, .iconst 1, 1, 0, 0, 0) := by decide +kernel
theorem pa_136_31 : pz_at 136 31 = some (31, .bastore, 1, 0, 0, 0) := by decide +kernel
theorem pa_136_32 : pz_at 136 32 = some (32, .return_, 1, 0, 0, 0) := by decide +kernel
theorem pa_136_5 : pz_at 136 5 = some (5, .ifCond .ne 12, 3, 17, 0, 0) := by decide +kernel
theorem pa_136_8 : pz_at 136 8 = some (8, .aload_n 0, 1, 0, 0, 0) := by decide +kernel
theorem pa_136_9 : pz_at 136 9 = some (9, .getfield 92, 3, 7, 34, 945) := by decide +kernel
theorem pf_55_7_34 : pz_gf 55 7 34 = some (some 83) := by decide +kernel
theorem pg_83 : pz_ga 83 = some (.boolean, 10) := by decide +kernel
theorem pr_136 : (pz_mi 136).2.2 = none := by decide +kernel
theorem pa_137_0 : pz_at 137 0 = some (0, .aload_n 0, 1, 0, 0, 0) := by decide +kernel
theorem pa_137_1 : pz_at 137 1 = some (1, .aload_n 0, 1, 0, 0, 0) := by decide +kernel
theorem pa_137_12 : pz_at 137 12 = some (12, .iload_n 1, 1, 0, 0, 0) := by decide +kernel
theorem pa_137_13 : pz_at 137 13 = some (13, .baload, 1, 0, 0, 0) := by decide +kernel
theorem pa_137_14 : pz_at 137 14 = some (14, .ifCond .eq 20, 3, 34, 0, 0) := by decide +kernel
theorem pa_137_17 : pz_at 137 17 = some (17, .aload_n 0, 1, 0, 0, 0) := by decide +kernel
theorem pa_137_18 : pz_at 137 18 = some (18, .getfield 98, 3, 7, 36, 947) := by decide +kernel
theorem pa_137_2 : pz_at 137 2 = some (2, .getfield 222, 3, 7, 39, 950) := by decide +kernel
theorem pa_137_21 : pz_at 137 21 = some (21, .iload_n 1, 1, 0, 0, 0) := by decide +kernel
theorem pa_137_22 : pz_at 137 22 = some (22, .iaload, 1, 0, 0, 0) := by decide +kernel
theorem pa_137_23 : pz_at 137 23 = some (23, .iload_n 2, 1, 0, 0, 0) := by decide +kernel
theorem pa_137_24 : pz_at 137 24 = some (24, .ior, 1, 0, 0, 0) := by decide +kernel
theorem pa_137_25 : pz_at 137 25 = some (25, .aload_n 0, 1, 0, 0, 0) := by decide +kernel
theorem pa_137_26 : pz_at 137 26 = some (26, .getfield 98, 3, 7, 36, 947) := by decide +kernel
theorem pa_137_29 : pz_at 137 29 = some (29, .iload_n 1, 1, 0, 0, 0) := by decide +kernel
theorem pa_137_30 : pz_at 137 30 = some (30, .iaload, 1, 0, 0, 0) := by decide +kernel
theorem pa_137_31 : pz_at 137 31 = some (31, .if_icmp .eq 7, 3, 38, 0, 0) := by decide +kernel
theorem pa_137_34 : pz_at 137 34 = some (34, .iconst 1, 1, 0, 0, 0) := by decide +kernel
theorem pa_137_35 : pz_at 137 35 = some (35, .goto 4, 3, 39, 0, 0) := by decide +kernel
theorem pa_137_38 : pz_at 137 38 = some (38, .iconst 0, 1, 0, 0, 0) := by decide +kernel
theorem pa_137_39 : pz_at 137 39 = some (39, .putfield 222, 3, 7, 39, 950) := by decide +kernel
theorem pa_137_42 : pz_at 137 42 = some (42, .aload_n 0, 1, 0, 0, 0) := by decide +kernel
theorem pa_137_43 : pz_at 137 43 = some (43, .getfield 89, 3, 7, 33, 944) := by decide +kernel
theorem pa_137_46 : pz_at 137 46 = some (46, .iload_n 1, 1, 0, 0, 0) := by decide +kernel
theorem pa_137_47 : pz_at 137 47 = some (47, .iconst 1, 1, 0, 0, 0) := by decide +kernel
theorem pa_137_48 : pz_at 137 48 = some (48, .bastore, 1, 0, 0, 0) := by decide +kernel
theorem pa_137_49 : pz_at 137 49 = some (49, .aload_n 0, 1, 0, 0, 0) := by decide +kernel
theorem pa_137_5 : pz_at 137 5 = some (5, .ifCond .ne 29, 3, 34, 0, 0) := by decide +kernel
theorem pa_137_50 : pz_at 137 50 = some (50, .getfield 98, 3, 7, 36, 947) := by decide +kernel
theorem pa_137_53 : pz_at 137 53 = some (53, .iload_n 1, 1, 0, 0, 0) := by decide +kernel
theorem pa_137_54 : pz_at 137 54 = some (54, .dup2, 1, 0, 0, 0) := by decide +kernel
theorem pa_137_55 : pz_at 137 55 = some (55, .iaload, 1, 0, 0, 0) := by decide +kernel
theorem pa_137_56 : pz_at 137 56 = some (56, .iload_n 2, 1, 0, 0, 0) := by decide +kernel
theorem pa_137_57 : pz_at 137 57 = some (57, .ior, 1, 0, 0, 0) := by decide +kernel
theorem pa_137_58 : pz_at 137 58 = some (58, .iastore, 1, 0, 0, 0) := by decide +kernel
theorem pa_137_59 : pz_at 137 59 = some (59, .return_, 1, 0, 0, 0) := by decide +kernel
theorem pa_137_8 : pz_at 137 8 = some (8, .aload_n 0, 1, 0, 0, 0) := by decide +kernel
theorem pa_137_9 : pz_at 137 9 = some (9, .getfield 89, 3, 7, 33, 944) := by decide +kernel
theorem pf_55_7_33 : pz_gf 55 7 33 = some (some 82) := by decide +kernel
theorem pf_55_7_36 : pz_gf 55 7 36 = some (some 85) := by decide +kernel
theorem pg_82 : pz_ga 82 = some (.boolean, 10) := by decide +kernel
theorem pg_85 : pz_ga 85 = some (.int, 10) := by decide +kernel
theorem pr_137 : (pz_mi 137).2.2 = none := by decide +kernel
theorem pa_138_0 : pz_at 138 0 = some (0, .iload_n 1, 1, 0, 0, 0) := by decide +kernel
theorem pa_138_1 : pz_at 138 1 = some (1, .bipush 35, 2, 0, 0, 0) := by decide +kernel
theorem pa_138_11 : pz_at 138 11 = some (11, .aload_n 0, 1, 0, 0, 0) := by decide +kernel
theorem pa_138_12 : pz_at 138 12 = some (12, .getfield 26, 3, 7, 9, 920) := by decide +kernel
theorem pa_138_15 : pz_at 138 15 = some (15, .iload_n 2, 1, 0, 0, 0) := by decide +kernel
theorem pa_138_16 : pz_at 138 16 = some (16, .iaload, 1, 0, 0, 0) := by decide +kernel
theorem pa_138_17 : pz_at 138 17 = some (17, .if_icmp .ge 39, 3, 56, 0, 0) := by decide +kernel
theorem pa_138_20 : pz_at 138 20 = some (20, .iload 4, 2, 0, 0, 0) := by decide +kernel
theorem pa_138_22 : pz_at 138 22 = some (22, .iload_n 1, 1, 0, 0, 0) := by decide +kernel
theorem pa_138_23 : pz_at 138 23 = some (23, .iload 5, 2, 0, 0, 0) := by decide +kernel
theorem pa_138_25 : pz_at 138 25 = some (25, .iconst 2, 1, 0, 0, 0) := by decide +kernel
theorem pa_138_26 : pz_at 138 26 = some (26, .iadd, 1, 0, 0, 0) := by decide +kernel
theorem pa_138_27 : pz_at 138 27 = some (27, .ishr, 1, 0, 0, 0) := by decide +kernel
theorem pa_138_28 : pz_at 138 28 = some (28, .iconst 1, 1, 0, 0, 0) := by decide +kernel
theorem pa_138_29 : pz_at 138 29 = some (29, .iand, 1, 0, 0, 0) := by decide +kernel
theorem pa_138_3 : pz_at 138 3 = some (3, .iand, 1, 0, 0, 0) := by decide +kernel
theorem pa_138_30 : pz_at 138 30 = some (30, .iconst 1, 1, 0, 0, 0) := by decide +kernel
theorem pa_138_31 : pz_at 138 31 = some (31, .if_icmp .ne 15, 3, 46, 0, 0) := by decide +kernel
theorem pa_138_34 : pz_at 138 34 = some (34, .aload_n 0, 1, 0, 0, 0) := by decide +kernel
theorem pa_138_35 : pz_at 138 35 = some (35, .getfield 107, 3, 7, 40, 951) := by decide +kernel
theorem pa_138_38 : pz_at 138 38 = some (38, .iload_n 3, 1, 0, 0, 0) := by decide +kernel
theorem pa_138_39 : pz_at 138 39 = some (39, .iload 5, 2, 0, 0, 0) := by decide +kernel
theorem pa_138_4 : pz_at 138 4 = some (4, .istore 4, 2, 0, 0, 0) := by decide +kernel
theorem pa_138_41 : pz_at 138 41 = some (41, .iadd, 1, 0, 0, 0) := by decide +kernel
theorem pa_138_42 : pz_at 138 42 = some (42, .iaload, 1, 0, 0, 0) := by decide +kernel
theorem pa_138_43 : pz_at 138 43 = some (43, .goto 4, 3, 47, 0, 0) := by decide +kernel
theorem pa_138_46 : pz_at 138 46 = some (46, .iconst 0, 1, 0, 0, 0) := by decide +kernel
theorem pa_138_47 : pz_at 138 47 = some (47, .ior, 1, 0, 0, 0) := by decide +kernel
theorem pa_138_48 : pz_at 138 48 = some (48, .istore 4, 2, 0, 0, 0) := by decide +kernel
theorem pa_138_50 : pz_at 138 50 = some (50, .iinc 5 1, 3, 0, 0, 0) := by decide +kernel
theorem pa_138_53 : pz_at 138 53 = some (53, .goto (-44), 3, 9, 0, 0) := by decide +kernel
theorem pa_138_56 : pz_at 138 56 = some (56, .iload 4, 2, 0, 0, 0) := by decide +kernel
theorem pa_138_58 : pz_at 138 58 = some (58, .ireturn, 1, 0, 0, 0) := by decide +kernel
theorem pa_138_6 : pz_at 138 6 = some (6, .iconst 0, 1, 0, 0, 0) := by decide +kernel
theorem pa_138_7 : pz_at 138 7 = some (7, .istore 5, 2, 0, 0, 0) := by decide +kernel
theorem pa_138_9 : pz_at 138 9 = some (9, .iload 5, 2, 0, 0, 0) := by decide +kernel
theorem pr_138 : (pz_mi 138).2.2 = (some .int) := by decide +kernel
theorem pa_139_0 : pz_at 139 0 = some (0, .iconst 1, 1, 0, 0, 0) := by decide +kernel
theorem pa_139_1 : pz_at 139 1 = some (1, .istore 6, 2, 0, 0, 0) := by decide +kernel
theorem pa_139_10 : pz_at 139 10 = some (10, .aload_n 0, 1, 0, 0, 0) := by decide +kernel
theorem pa_139_101 : pz_at 139 101 = some (101, .iadd, 1, 0, 0, 0) := by decide +kernel
theorem pa_139_102 : pz_at 139 102 = some (102, .iaload, 1, 0, 0, 0) := by decide +kernel
theorem pa_139_103 : pz_at 139 103 = some (103, .iload 7, 2, 0, 0, 0) := by decide +kernel
theorem pa_139_105 : pz_at 139 105 = some (105, .invokevirtual 237, 3, 135, 4, 1243) := by decide +kernel
theorem pa_139_108 : pz_at 139 108 = some (108, .aload_n 0, 1, 0, 0, 0) := by decide +kernel
theorem pa_139_109 : pz_at 139 109 = some (109, .iload_n 1, 1, 0, 0, 0) := by decide +kernel
theorem pa_139_11 : pz_at 139 11 = some (11, .getfield 95, 3, 7, 35, 946) := by decide +kernel
theorem pa_139_110 : pz_at 139 110 = some (110, .iconst 1, 1, 0, 0, 0) := by decide +kernel
theorem pa_139_111 : pz_at 139 111 = some (111, .aload_n 0, 1, 0, 0, 0) := by decide +kernel
theorem pa_139_112 : pz_at 139 112 = some (112, .getfield 104, 3, 7, 38, 949) := by decide +kernel
theorem pa_139_115 : pz_at 139 115 = some (115, .iconst 4, 1, 0, 0, 0) := by decide +kernel
theorem pa_139_116 : pz_at 139 116 = some (116, .iload 4, 2, 0, 0, 0) := by decide +kernel
theorem pa_139_118 : pz_at 139 118 = some (118, .imul, 1, 0, 0, 0) := by decide +kernel
theorem pa_139_119 : pz_at 139 119 = some (119, .iload 6, 2, 0, 0, 0) := by decide +kernel
theorem pa_139_121 : pz_at 139 121 = some (121, .iadd, 1, 0, 0, 0) := by decide +kernel
theorem pa_139_122 : pz_at 139 122 = some (122, .iaload, 1, 0, 0, 0) := by decide +kernel
theorem pa_139_123 : pz_at 139 123 = some (123, .iload 7, 2, 0, 0, 0) := by decide +kernel
theorem pa_139_125 : pz_at 139 125 = some (125, .invokevirtual 237, 3, 135, 4, 1243) := by decide +kernel
theorem pa_139_128 : pz_at 139 128 = some (128, .iinc 6 1, 3, 0, 0, 0) := by decide +kernel
theorem pa_139_131 : pz_at 139 131 = some (131, .goto (-88), 3, 43, 0, 0) := by decide +kernel
theorem pa_139_134 : pz_at 139 134 = some (134, .aload_n 0, 1, 0, 0, 0) := by decide +kernel
theorem pa_139_135 : pz_at 139 135 = some (135, .getfield 92, 3, 7, 34, 945) := by decide +kernel
theorem pa_139_138 : pz_at 139 138 = some (138, .iload 4, 2, 0, 0, 0) := by decide +kernel
theorem pa_139_14 : pz_at 139 14 = some (14, .iload 4, 2, 0, 0, 0) := by decide +kernel
theorem pa_139_140 : pz_at 139 140 = some (140, .baload, 1, 0, 0, 0) := by decide +kernel
theorem pa_139_141 : pz_at 139 141 = some (141, .ifCond .eq 8, 3, 149, 0, 0) := by decide +kernel
theorem pa_139_144 : pz_at 139 144 = some (144, .aload_n 0, 1, 0, 0, 0) := by decide +kernel
theorem pa_139_145 : pz_at 139 145 = some (145, .iload_n 1, 1, 0, 0, 0) := by decide +kernel
theorem pa_139_146 : pz_at 139 146 = some (146, .invokevirtual 241, 3, 136, 1, 1251) := by decide +kernel
theorem pa_139_149 : pz_at 139 149 = some (149, .aload_n 0, 1, 0, 0, 0) := by decide +kernel
theorem pa_139_150 : pz_at 139 150 = some (150, .getfield 89, 3, 7, 33, 944) := by decide +kernel
theorem pa_139_153 : pz_at 139 153 = some (153, .iload 4, 2, 0, 0, 0) := by decide +kernel
theorem pa_139_155 : pz_at 139 155 = some (155, .baload, 1, 0, 0, 0) := by decide +kernel
theorem pa_139_156 : pz_at 139 156 = some (156, .ifCond .eq 44, 3, 200, 0, 0) := by decide +kernel
theorem pa_139_159 : pz_at 139 159 = some (159, .aload_n 0, 1, 0, 0, 0) := by decide +kernel
theorem pa_139_16 : pz_at 139 16 = some (16, .iaload, 1, 0, 0, 0) := by decide +kernel
theorem pa_139_160 : pz_at 139 160 = some (160, .getfield 29, 3, 7, 10, 921) := by decide +kernel
theorem pa_139_163 : pz_at 139 163 = some (163, .iload 4, 2, 0, 0, 0) := by decide +kernel
theorem pa_139_165 : pz_at 139 165 = some (165, .iaload, 1, 0, 0, 0) := by decide +kernel
theorem pa_139_166 : pz_at 139 166 = some (166, .iconst 2, 1, 0, 0, 0) := by decide +kernel
theorem pa_139_167 : pz_at 139 167 = some (167, .if_icmp .ne 25, 3, 192, 0, 0) := by decide +kernel
theorem pa_139_17 : pz_at 139 17 = some (17, .iload 6, 2, 0, 0, 0) := by decide +kernel
theorem pa_139_170 : pz_at 139 170 = some (170, .aload_n 0, 1, 0, 0, 0) := by decide +kernel
theorem pa_139_171 : pz_at 139 171 = some (171, .getfield 107, 3, 7, 40, 951) := by decide +kernel
theorem pa_139_174 : pz_at 139 174 = some (174, .iload 5, 2, 0, 0, 0) := by decide +kernel
theorem pa_139_176 : pz_at 139 176 = some (176, .aload_n 0, 1, 0, 0, 0) := by decide +kernel
theorem pa_139_177 : pz_at 139 177 = some (177, .aload_n 0, 1, 0, 0, 0) := by decide +kernel
theorem pa_139_178 : pz_at 139 178 = some (178, .getfield 98, 3, 7, 36, 947) := by decide +kernel
theorem pa_139_181 : pz_at 139 181 = some (181, .iload 4, 2, 0, 0, 0) := by decide +kernel
theorem pa_139_183 : pz_at 139 183 = some (183, .iaload, 1, 0, 0, 0) := by decide +kernel
theorem pa_139_184 : pz_at 139 184 = some (184, .iload 4, 2, 0, 0, 0) := by decide +kernel
theorem pa_139_186 : pz_at 139 186 = some (186, .iload 5, 2, 0, 0, 0) := by decide +kernel
theorem pa_139_188 : pz_at 139 188 = some (188, .invokevirtual 244, 3, 138, 3, 1255) := by decide +kernel
theorem pa_139_19 : pz_at 139 19 = some (19, .ishr, 1, 0, 0, 0) := by decide +kernel
theorem pa_139_191 : pz_at 139 191 = some (191, .iastore, 1, 0, 0, 0) := by decide +kernel
theorem pa_139_192 : pz_at 139 192 = some (192, .aload_n 0, 1, 0, 0, 0) := by decide +kernel
theorem pa_139_193 : pz_at 139 193 = some (193, .iload_n 1, 1, 0, 0, 0) := by decide +kernel
theorem pa_139_194 : pz_at 139 194 = some (194, .iload_n 2, 1, 0, 0, 0) := by decide +kernel
theorem pa_139_195 : pz_at 139 195 = some (195, .iconst 1, 1, 0, 0, 0) := by decide +kernel
theorem pa_139_196 : pz_at 139 196 = some (196, .iadd, 1, 0, 0, 0) := by decide +kernel
theorem pa_139_197 : pz_at 139 197 = some (197, .invokevirtual 229, 3, 133, 2, 1226) := by decide +kernel
theorem pa_139_20 : pz_at 139 20 = some (20, .iconst 1, 1, 0, 0, 0) := by decide +kernel
theorem pa_139_200 : pz_at 139 200 = some (200, .return_, 1, 0, 0, 0) := by decide +kernel
theorem pa_139_21 : pz_at 139 21 = some (21, .iand, 1, 0, 0, 0) := by decide +kernel
theorem pa_139_22 : pz_at 139 22 = some (22, .iconst 1, 1, 0, 0, 0) := by decide +kernel
theorem pa_139_23 : pz_at 139 23 = some (23, .if_icmp .ne 11, 3, 34, 0, 0) := by decide +kernel
theorem pa_139_26 : pz_at 139 26 = some (26, .aload_n 0, 1, 0, 0, 0) := by decide +kernel
theorem pa_139_27 : pz_at 139 27 = some (27, .iload_n 1, 1, 0, 0, 0) := by decide +kernel
theorem pa_139_28 : pz_at 139 28 = some (28, .iload_n 2, 1, 0, 0, 0) := by decide +kernel
theorem pa_139_29 : pz_at 139 29 = some (29, .iload 6, 2, 0, 0, 0) := by decide +kernel
theorem pa_139_3 : pz_at 139 3 = some (3, .iload 6, 2, 0, 0, 0) := by decide +kernel
theorem pa_139_31 : pz_at 139 31 = some (31, .invokevirtual 233, 3, 134, 3, 1234) := by decide +kernel
theorem pa_139_34 : pz_at 139 34 = some (34, .iinc 6 1, 3, 0, 0, 0) := by decide +kernel
theorem pa_139_37 : pz_at 139 37 = some (37, .goto (-34), 3, 3, 0, 0) := by decide +kernel
theorem pa_139_40 : pz_at 139 40 = some (40, .iconst 0, 1, 0, 0, 0) := by decide +kernel
theorem pa_139_41 : pz_at 139 41 = some (41, .istore 6, 2, 0, 0, 0) := by decide +kernel
theorem pa_139_43 : pz_at 139 43 = some (43, .iload 6, 2, 0, 0, 0) := by decide +kernel
theorem pa_139_45 : pz_at 139 45 = some (45, .iconst 4, 1, 0, 0, 0) := by decide +kernel
theorem pa_139_46 : pz_at 139 46 = some (46, .if_icmp .ge 88, 3, 134, 0, 0) := by decide +kernel
theorem pa_139_49 : pz_at 139 49 = some (49, .iload 6, 2, 0, 0, 0) := by decide +kernel
theorem pa_139_5 : pz_at 139 5 = some (5, .bipush 10, 2, 0, 0, 0) := by decide +kernel
theorem pa_139_51 : pz_at 139 51 = some (51, .iconst 3, 1, 0, 0, 0) := by decide +kernel
theorem pa_139_52 : pz_at 139 52 = some (52, .if_icmp .ne 8, 3, 60, 0, 0) := by decide +kernel
theorem pa_139_55 : pz_at 139 55 = some (55, .bipush 32, 2, 0, 0, 0) := by decide +kernel
theorem pa_139_57 : pz_at 139 57 = some (57, .goto 29, 3, 86, 0, 0) := by decide +kernel
theorem pa_139_60 : pz_at 139 60 = some (60, .iload 6, 2, 0, 0, 0) := by decide +kernel
theorem pa_139_62 : pz_at 139 62 = some (62, .aload_n 0, 1, 0, 0, 0) := by decide +kernel
theorem pa_139_63 : pz_at 139 63 = some (63, .getfield 26, 3, 7, 9, 920) := by decide +kernel
theorem pa_139_66 : pz_at 139 66 = some (66, .iload 4, 2, 0, 0, 0) := by decide +kernel
theorem pa_139_68 : pz_at 139 68 = some (68, .iaload, 1, 0, 0, 0) := by decide +kernel
theorem pa_139_69 : pz_at 139 69 = some (69, .if_icmp .ge 16, 3, 85, 0, 0) := by decide +kernel
theorem pa_139_7 : pz_at 139 7 = some (7, .if_icmp .ge 33, 3, 40, 0, 0) := by decide +kernel
theorem pa_139_72 : pz_at 139 72 = some (72, .aload_n 0, 1, 0, 0, 0) := by decide +kernel
theorem pa_139_73 : pz_at 139 73 = some (73, .getfield 107, 3, 7, 40, 951) := by decide +kernel
theorem pa_139_76 : pz_at 139 76 = some (76, .iload 5, 2, 0, 0, 0) := by decide +kernel
theorem pa_139_78 : pz_at 139 78 = some (78, .iload 6, 2, 0, 0, 0) := by decide +kernel
theorem pa_139_80 : pz_at 139 80 = some (80, .iadd, 1, 0, 0, 0) := by decide +kernel
theorem pa_139_81 : pz_at 139 81 = some (81, .iaload, 1, 0, 0, 0) := by decide +kernel
theorem pa_139_82 : pz_at 139 82 = some (82, .goto 4, 3, 86, 0, 0) := by decide +kernel
theorem pa_139_85 : pz_at 139 85 = some (85, .iconst 0, 1, 0, 0, 0) := by decide +kernel
theorem pa_139_86 : pz_at 139 86 = some (86, .istore 7, 2, 0, 0, 0) := by decide +kernel
theorem pa_139_88 : pz_at 139 88 = some (88, .aload_n 0, 1, 0, 0, 0) := by decide +kernel
theorem pa_139_89 : pz_at 139 89 = some (89, .iload_n 1, 1, 0, 0, 0) := by decide +kernel
theorem pa_139_90 : pz_at 139 90 = some (90, .iconst 0, 1, 0, 0, 0) := by decide +kernel
theorem pa_139_91 : pz_at 139 91 = some (91, .aload_n 0, 1, 0, 0, 0) := by decide +kernel
theorem pa_139_92 : pz_at 139 92 = some (92, .getfield 101, 3, 7, 37, 948) := by decide +kernel
theorem pa_139_95 : pz_at 139 95 = some (95, .iconst 4, 1, 0, 0, 0) := by decide +kernel
theorem pa_139_96 : pz_at 139 96 = some (96, .iload 4, 2, 0, 0, 0) := by decide +kernel
theorem pa_139_98 : pz_at 139 98 = some (98, .imul, 1, 0, 0, 0) := by decide +kernel
theorem pa_139_99 : pz_at 139 99 = some (99, .iload 6, 2, 0, 0, 0) := by decide +kernel
theorem pm_134 : pz_mi 134 = (7, 5, none) := by decide +kernel
theorem pm_135 : pz_mi 135 = (7, 8, none) := by decide +kernel
theorem pm_136 : pz_mi 136 = (7, 2, none) := by decide +kernel
theorem pm_138 : pz_mi 138 = (7, 6, (some .int)) := by decide +kernel
theorem pr_139 : (pz_mi 139).2.2 = none := by decide +kernel
theorem pa_140_0 : pz_at 140 0 = some (0, .bipush 25, 2, 0, 0, 0) := by decide +kernel
theorem pa_140_10 : pz_at 140 10 = some (10, .imul, 1, 0, 0, 0) := by decide +kernel
theorem pa_140_100 : pz_at 140 100 = some (100, .iload_n 2, 1, 0, 0, 0) := by decide +kernel
theorem pa_140_101 : pz_at 140 101 = some (101, .iconst 1, 1, 0, 0, 0) := by decide +kernel
theorem pa_140_102 : pz_at 140 102 = some (102, .invokevirtual 233, 3, 134, 3, 1234) := by decide +kernel
theorem pa_140_105 : pz_at 140 105 = some (105, .goto 39, 3, 144, 0, 0) := by decide +kernel
theorem pa_140_108 : pz_at 140 108 = some (108, .iload 5, 2, 0, 0, 0) := by decide +kernel
theorem pa_140_11 : pz_at 140 11 = some (11, .iload_n 2, 1, 0, 0, 0) := by decide +kernel
theorem pa_140_110 : pz_at 140 110 = some (110, .bipush 9, 2, 0, 0, 0) := by decide +kernel
theorem pa_140_112 : pz_at 140 112 = some (112, .if_icmp .ne 13, 3, 125, 0, 0) := by decide +kernel
theorem pa_140_115 : pz_at 140 115 = some (115, .aload_n 0, 1, 0, 0, 0) := by decide +kernel
theorem pa_140_116 : pz_at 140 116 = some (116, .iload_n 1, 1, 0, 0, 0) := by decide +kernel
theorem pa_140_117 : pz_at 140 117 = some (117, .iload_n 2, 1, 0, 0, 0) := by decide +kernel
theorem pa_140_118 : pz_at 140 118 = some (118, .iconst 2, 1, 0, 0, 0) := by decide +kernel
theorem pa_140_119 : pz_at 140 119 = some (119, .invokevirtual 233, 3, 134, 3, 1234) := by decide +kernel
theorem pa_140_12 : pz_at 140 12 = some (12, .iadd, 1, 0, 0, 0) := by decide +kernel
theorem pa_140_122 : pz_at 140 122 = some (122, .goto 22, 3, 144, 0, 0) := by decide +kernel
theorem pa_140_125 : pz_at 140 125 = some (125, .iload 5, 2, 0, 0, 0) := by decide +kernel
theorem pa_140_127 : pz_at 140 127 = some (127, .bipush 30, 2, 0, 0, 0) := by decide +kernel
theorem pa_140_129 : pz_at 140 129 = some (129, .if_icmp .ne 15, 3, 144, 0, 0) := by decide +kernel
theorem pa_140_13 : pz_at 140 13 = some (13, .istore 4, 2, 0, 0, 0) := by decide +kernel
theorem pa_140_132 : pz_at 140 132 = some (132, .aload_n 0, 1, 0, 0, 0) := by decide +kernel
theorem pa_140_133 : pz_at 140 133 = some (133, .iload_n 1, 1, 0, 0, 0) := by decide +kernel
theorem pa_140_134 : pz_at 140 134 = some (134, .iload_n 2, 1, 0, 0, 0) := by decide +kernel
theorem pa_140_135 : pz_at 140 135 = some (135, .bipush 6, 2, 0, 0, 0) := by decide +kernel
theorem pa_140_137 : pz_at 140 137 = some (137, .iload 6, 2, 0, 0, 0) := by decide +kernel
theorem pa_140_139 : pz_at 140 139 = some (139, .iadd, 1, 0, 0, 0) := by decide +kernel
theorem pa_140_140 : pz_at 140 140 = some (140, .invokevirtual 233, 3, 134, 3, 1234) := by decide +kernel
theorem pa_140_143 : pz_at 140 143 = some (143, .return_, 1, 0, 0, 0) := by decide +kernel
theorem pa_140_144 : pz_at 140 144 = some (144, .iload 5, 2, 0, 0, 0) := by decide +kernel
theorem pa_140_146 : pz_at 140 146 = some (146, .bipush 10, 2, 0, 0, 0) := by decide +kernel
theorem pa_140_148 : pz_at 140 148 = some (148, .if_icmp .lt 10, 3, 158, 0, 0) := by decide +kernel
theorem pa_140_15 : pz_at 140 15 = some (15, .aload_n 0, 1, 0, 0, 0) := by decide +kernel
theorem pa_140_151 : pz_at 140 151 = some (151, .iload 5, 2, 0, 0, 0) := by decide +kernel
theorem pa_140_153 : pz_at 140 153 = some (153, .bipush 15, 2, 0, 0, 0) := by decide +kernel
theorem pa_140_155 : pz_at 140 155 = some (155, .if_icmp .le 10, 3, 165, 0, 0) := by decide +kernel
theorem pa_140_158 : pz_at 140 158 = some (158, .iload 5, 2, 0, 0, 0) := by decide +kernel
theorem pa_140_16 : pz_at 140 16 = some (16, .getfield 35, 3, 7, 12, 923) := by decide +kernel
theorem pa_140_160 : pz_at 140 160 = some (160, .bipush 20, 2, 0, 0, 0) := by decide +kernel
theorem pa_140_162 : pz_at 140 162 = some (162, .if_icmp .ne 7, 3, 169, 0, 0) := by decide +kernel
theorem pa_140_165 : pz_at 140 165 = some (165, .iconst 1, 1, 0, 0, 0) := by decide +kernel
theorem pa_140_166 : pz_at 140 166 = some (166, .goto 4, 3, 170, 0, 0) := by decide +kernel
theorem pa_140_169 : pz_at 140 169 = some (169, .iconst 0, 1, 0, 0, 0) := by decide +kernel
theorem pa_140_170 : pz_at 140 170 = some (170, .istore 9, 2, 0, 0, 0) := by decide +kernel
theorem pa_140_172 : pz_at 140 172 = some (172, .iload 9, 2, 0, 0, 0) := by decide +kernel
theorem pa_140_174 : pz_at 140 174 = some (174, .ifCond .ne 10, 3, 184, 0, 0) := by decide +kernel
theorem pa_140_177 : pz_at 140 177 = some (177, .iload 5, 2, 0, 0, 0) := by decide +kernel
theorem pa_140_179 : pz_at 140 179 = some (179, .bipush 29, 2, 0, 0, 0) := by decide +kernel
theorem pa_140_181 : pz_at 140 181 = some (181, .if_icmp .ne 211, 3, 392, 0, 0) := by decide +kernel
theorem pa_140_184 : pz_at 140 184 = some (184, .iload 5, 2, 0, 0, 0) := by decide +kernel
theorem pa_140_186 : pz_at 140 186 = some (186, .bipush 11, 2, 0, 0, 0) := by decide +kernel
theorem pa_140_188 : pz_at 140 188 = some (188, .if_icmp .eq 24, 3, 212, 0, 0) := by decide +kernel
theorem pa_140_19 : pz_at 140 19 = some (19, .iload 4, 2, 0, 0, 0) := by decide +kernel
theorem pa_140_191 : pz_at 140 191 = some (191, .iload 5, 2, 0, 0, 0) := by decide +kernel
theorem pa_140_193 : pz_at 140 193 = some (193, .bipush 13, 2, 0, 0, 0) := by decide +kernel
theorem pa_140_195 : pz_at 140 195 = some (195, .if_icmp .eq 17, 3, 212, 0, 0) := by decide +kernel
theorem pa_140_198 : pz_at 140 198 = some (198, .iload 5, 2, 0, 0, 0) := by decide +kernel
theorem pa_140_2 : pz_at 140 2 = some (2, .iload_n 1, 1, 0, 0, 0) := by decide +kernel
theorem pa_140_200 : pz_at 140 200 = some (200, .bipush 15, 2, 0, 0, 0) := by decide +kernel
theorem pa_140_202 : pz_at 140 202 = some (202, .if_icmp .eq 10, 3, 212, 0, 0) := by decide +kernel
theorem pa_140_205 : pz_at 140 205 = some (205, .iload 5, 2, 0, 0, 0) := by decide +kernel
theorem pa_140_207 : pz_at 140 207 = some (207, .bipush 29, 2, 0, 0, 0) := by decide +kernel
theorem pa_140_209 : pz_at 140 209 = some (209, .if_icmp .ne 8, 3, 217, 0, 0) := by decide +kernel
theorem pa_140_21 : pz_at 140 21 = some (21, .iaload, 1, 0, 0, 0) := by decide +kernel
theorem pa_140_212 : pz_at 140 212 = some (212, .iload 6, 2, 0, 0, 0) := by decide +kernel
theorem pa_140_214 : pz_at 140 214 = some (214, .goto 5, 3, 219, 0, 0) := by decide +kernel
theorem pa_140_217 : pz_at 140 217 = some (217, .iload 7, 2, 0, 0, 0) := by decide +kernel
theorem pa_140_219 : pz_at 140 219 = some (219, .istore 10, 2, 0, 0, 0) := by decide +kernel
theorem pa_140_22 : pz_at 140 22 = some (22, .istore 5, 2, 0, 0, 0) := by decide +kernel
theorem pa_140_221 : pz_at 140 221 = some (221, .iload 5, 2, 0, 0, 0) := by decide +kernel
theorem pa_140_223 : pz_at 140 223 = some (223, .bipush 11, 2, 0, 0, 0) := by decide +kernel
theorem pa_140_225 : pz_at 140 225 = some (225, .if_icmp .eq 17, 3, 242, 0, 0) := by decide +kernel
theorem pa_140_228 : pz_at 140 228 = some (228, .iload 5, 2, 0, 0, 0) := by decide +kernel
theorem pa_140_230 : pz_at 140 230 = some (230, .bipush 13, 2, 0, 0, 0) := by decide +kernel
theorem pa_140_232 : pz_at 140 232 = some (232, .if_icmp .eq 10, 3, 242, 0, 0) := by decide +kernel
theorem pa_140_235 : pz_at 140 235 = some (235, .iload 5, 2, 0, 0, 0) := by decide +kernel
theorem pa_140_237 : pz_at 140 237 = some (237, .bipush 15, 2, 0, 0, 0) := by decide +kernel
theorem pa_140_239 : pz_at 140 239 = some (239, .if_icmp .ne 7, 3, 246, 0, 0) := by decide +kernel
theorem pa_140_24 : pz_at 140 24 = some (24, .aload_n 0, 1, 0, 0, 0) := by decide +kernel
theorem pa_140_242 : pz_at 140 242 = some (242, .iconst 1, 1, 0, 0, 0) := by decide +kernel
theorem pa_140_243 : pz_at 140 243 = some (243, .goto 4, 3, 247, 0, 0) := by decide +kernel
theorem pa_140_246 : pz_at 140 246 = some (246, .iconst 0, 1, 0, 0, 0) := by decide +kernel
theorem pa_140_247 : pz_at 140 247 = some (247, .istore 11, 2, 0, 0, 0) := by decide +kernel
theorem pa_140_249 : pz_at 140 249 = some (249, .iload 9, 2, 0, 0, 0) := by decide +kernel
theorem pa_140_25 : pz_at 140 25 = some (25, .getfield 38, 3, 7, 13, 924) := by decide +kernel
theorem pa_140_251 : pz_at 140 251 = some (251, .ifCond .eq 47, 3, 298, 0, 0) := by decide +kernel
theorem pa_140_254 : pz_at 140 254 = some (254, .iload 5, 2, 0, 0, 0) := by decide +kernel
theorem pa_140_256 : pz_at 140 256 = some (256, .bipush 20, 2, 0, 0, 0) := by decide +kernel
theorem pa_140_258 : pz_at 140 258 = some (258, .if_icmp .eq 40, 3, 298, 0, 0) := by decide +kernel
theorem pa_140_261 : pz_at 140 261 = some (261, .aload_n 0, 1, 0, 0, 0) := by decide +kernel
theorem pa_140_262 : pz_at 140 262 = some (262, .iload_n 1, 1, 0, 0, 0) := by decide +kernel
theorem pa_140_263 : pz_at 140 263 = some (263, .iload 11, 2, 0, 0, 0) := by decide +kernel
theorem pa_140_265 : pz_at 140 265 = some (265, .iload 5, 2, 0, 0, 0) := by decide +kernel
theorem pa_140_267 : pz_at 140 267 = some (267, .bipush 14, 2, 0, 0, 0) := by decide +kernel
theorem pa_140_269 : pz_at 140 269 = some (269, .if_icmp .eq 10, 3, 279, 0, 0) := by decide +kernel
theorem pa_140_272 : pz_at 140 272 = some (272, .iload 5, 2, 0, 0, 0) := by decide +kernel
theorem pa_140_274 : pz_at 140 274 = some (274, .bipush 15, 2, 0, 0, 0) := by decide +kernel
theorem pa_140_276 : pz_at 140 276 = some (276, .if_icmp .ne 8, 3, 284, 0, 0) := by decide +kernel
theorem pa_140_279 : pz_at 140 279 = some (279, .ldc 247, 2, 16777216, 0, 1242) := by decide +kernel
theorem pa_140_28 : pz_at 140 28 = some (28, .iload 4, 2, 0, 0, 0) := by decide +kernel
theorem pa_140_281 : pz_at 140 281 = some (281, .goto 7, 3, 288, 0, 0) := by decide +kernel
theorem pa_140_284 : pz_at 140 284 = some (284, .iconst 1, 1, 0, 0, 0) := by decide +kernel
theorem pa_140_285 : pz_at 140 285 = some (285, .iload 8, 2, 0, 0, 0) := by decide +kernel
theorem pa_140_287 : pz_at 140 287 = some (287, .ishl, 1, 0, 0, 0) := by decide +kernel
theorem pa_140_288 : pz_at 140 288 = some (288, .aload_n 0, 1, 0, 0, 0) := by decide +kernel
theorem pa_140_289 : pz_at 140 289 = some (289, .getfield 107, 3, 7, 40, 951) := by decide +kernel
theorem pa_140_292 : pz_at 140 292 = some (292, .iload 10, 2, 0, 0, 0) := by decide +kernel
theorem pa_140_294 : pz_at 140 294 = some (294, .iaload, 1, 0, 0, 0) := by decide +kernel
theorem pa_140_295 : pz_at 140 295 = some (295, .invokevirtual 237, 3, 135, 4, 1243) := by decide +kernel
theorem pa_140_298 : pz_at 140 298 = some (298, .iload 9, 2, 0, 0, 0) := by decide +kernel
theorem pa_140_3 : pz_at 140 3 = some (3, .imul, 1, 0, 0, 0) := by decide +kernel
theorem pa_140_30 : pz_at 140 30 = some (30, .iaload, 1, 0, 0, 0) := by decide +kernel
theorem pa_140_300 : pz_at 140 300 = some (300, .ifCond .eq 23, 3, 323, 0, 0) := by decide +kernel
theorem pa_140_303 : pz_at 140 303 = some (303, .aload_n 0, 1, 0, 0, 0) := by decide +kernel
theorem pa_140_304 : pz_at 140 304 = some (304, .getfield 107, 3, 7, 40, 951) := by decide +kernel
theorem pa_140_307 : pz_at 140 307 = some (307, .iload 10, 2, 0, 0, 0) := by decide +kernel
theorem pa_140_309 : pz_at 140 309 = some (309, .iaload, 1, 0, 0, 0) := by decide +kernel
theorem pa_140_31 : pz_at 140 31 = some (31, .istore 6, 2, 0, 0, 0) := by decide +kernel
theorem pa_140_310 : pz_at 140 310 = some (310, .iconst 1, 1, 0, 0, 0) := by decide +kernel
theorem pa_140_311 : pz_at 140 311 = some (311, .iand, 1, 0, 0, 0) := by decide +kernel
theorem pa_140_312 : pz_at 140 312 = some (312, .iconst 1, 1, 0, 0, 0) := by decide +kernel
theorem pa_140_313 : pz_at 140 313 = some (313, .if_icmp .ne 10, 3, 323, 0, 0) := by decide +kernel
theorem pa_140_316 : pz_at 140 316 = some (316, .aload_n 0, 1, 0, 0, 0) := by decide +kernel
theorem pa_140_317 : pz_at 140 317 = some (317, .iload_n 1, 1, 0, 0, 0) := by decide +kernel
theorem pa_140_318 : pz_at 140 318 = some (318, .iload_n 2, 1, 0, 0, 0) := by decide +kernel
theorem pa_140_319 : pz_at 140 319 = some (319, .iconst 3, 1, 0, 0, 0) := by decide +kernel
theorem pa_140_320 : pz_at 140 320 = some (320, .invokevirtual 233, 3, 134, 3, 1234) := by decide +kernel
theorem pa_140_323 : pz_at 140 323 = some (323, .aload_n 0, 1, 0, 0, 0) := by decide +kernel
theorem pa_140_324 : pz_at 140 324 = some (324, .getfield 107, 3, 7, 40, 951) := by decide +kernel
theorem pa_140_327 : pz_at 140 327 = some (327, .iload 10, 2, 0, 0, 0) := by decide +kernel
theorem pa_140_329 : pz_at 140 329 = some (329, .iaload, 1, 0, 0, 0) := by decide +kernel
theorem pa_140_33 : pz_at 140 33 = some (33, .aload_n 0, 1, 0, 0, 0) := by decide +kernel
theorem pa_140_330 : pz_at 140 330 = some (330, .bipush (-2), 2, 0, 0, 0) := by decide +kernel
theorem pa_140_332 : pz_at 140 332 = some (332, .iand, 1, 0, 0, 0) := by decide +kernel
theorem pa_140_333 : pz_at 140 333 = some (333, .ifCond .eq 31, 3, 364, 0, 0) := by decide +kernel
theorem pa_140_336 : pz_at 140 336 = some (336, .iload 5, 2, 0, 0, 0) := by decide +kernel
theorem pa_140_338 : pz_at 140 338 = some (338, .bipush 14, 2, 0, 0, 0) := by decide +kernel
theorem pa_140_34 : pz_at 140 34 = some (34, .getfield 41, 3, 7, 14, 925) := by decide +kernel
theorem pa_140_340 : pz_at 140 340 = some (340, .if_icmp .eq 10, 3, 350, 0, 0) := by decide +kernel
theorem pa_140_343 : pz_at 140 343 = some (343, .iload 5, 2, 0, 0, 0) := by decide +kernel
theorem pa_140_345 : pz_at 140 345 = some (345, .bipush 15, 2, 0, 0, 0) := by decide +kernel
theorem pa_140_347 : pz_at 140 347 = some (347, .if_icmp .ne 10, 3, 357, 0, 0) := by decide +kernel
theorem pa_140_350 : pz_at 140 350 = some (350, .aload_n 0, 1, 0, 0, 0) := by decide +kernel
theorem pa_140_351 : pz_at 140 351 = some (351, .iload_n 1, 1, 0, 0, 0) := by decide +kernel
theorem pa_140_352 : pz_at 140 352 = some (352, .iload_n 2, 1, 0, 0, 0) := by decide +kernel
theorem pa_140_353 : pz_at 140 353 = some (353, .iconst 4, 1, 0, 0, 0) := by decide +kernel
theorem pa_140_354 : pz_at 140 354 = some (354, .invokevirtual 233, 3, 134, 3, 1234) := by decide +kernel
theorem pa_140_357 : pz_at 140 357 = some (357, .aload_n 0, 1, 0, 0, 0) := by decide +kernel
theorem pa_140_358 : pz_at 140 358 = some (358, .iload_n 1, 1, 0, 0, 0) := by decide +kernel
theorem pa_140_359 : pz_at 140 359 = some (359, .iload_n 2, 1, 0, 0, 0) := by decide +kernel
theorem pa_140_360 : pz_at 140 360 = some (360, .iconst 5, 1, 0, 0, 0) := by decide +kernel
theorem pa_140_361 : pz_at 140 361 = some (361, .invokevirtual 233, 3, 134, 3, 1234) := by decide +kernel
theorem pa_140_364 : pz_at 140 364 = some (364, .iload 9, 2, 0, 0, 0) := by decide +kernel
theorem pa_140_366 : pz_at 140 366 = some (366, .ifCond .eq 26, 3, 392, 0, 0) := by decide +kernel
theorem pa_140_369 : pz_at 140 369 = some (369, .aload_n 0, 1, 0, 0, 0) := by decide +kernel
theorem pa_140_37 : pz_at 140 37 = some (37, .iload 4, 2, 0, 0, 0) := by decide +kernel
theorem pa_140_370 : pz_at 140 370 = some (370, .getfield 107, 3, 7, 40, 951) := by decide +kernel
theorem pa_140_373 : pz_at 140 373 = some (373, .iload 10, 2, 0, 0, 0) := by decide +kernel
theorem pa_140_375 : pz_at 140 375 = some (375, .dup2, 1, 0, 0, 0) := by decide +kernel
theorem pa_140_376 : pz_at 140 376 = some (376, .iaload, 1, 0, 0, 0) := by decide +kernel
theorem pa_140_377 : pz_at 140 377 = some (377, .bipush (-2), 2, 0, 0, 0) := by decide +kernel
theorem pa_140_379 : pz_at 140 379 = some (379, .iand, 1, 0, 0, 0) := by decide +kernel
theorem pa_140_380 : pz_at 140 380 = some (380, .iastore, 1, 0, 0, 0) := by decide +kernel
theorem pa_140_381 : pz_at 140 381 = some (381, .aload_n 0, 1, 0, 0, 0) := by decide +kernel
theorem pa_140_382 : pz_at 140 382 = some (382, .getfield 107, 3, 7, 40, 951) := by decide +kernel
theorem pa_140_385 : pz_at 140 385 = some (385, .iload 10, 2, 0, 0, 0) := by decide +kernel
theorem pa_140_387 : pz_at 140 387 = some (387, .iaload, 1, 0, 0, 0) := by decide +kernel
theorem pa_140_388 : pz_at 140 388 = some (388, .ifCond .ne 4, 3, 392, 0, 0) := by decide +kernel
theorem pa_140_39 : pz_at 140 39 = some (39, .iaload, 1, 0, 0, 0) := by decide +kernel
theorem pa_140_391 : pz_at 140 391 = some (391, .return_, 1, 0, 0, 0) := by decide +kernel
theorem pa_140_392 : pz_at 140 392 = some (392, .iload 5, 2, 0, 0, 0) := by decide +kernel
theorem pa_140_394 : pz_at 140 394 = some (394, .tableswitch 312 6 31 #[118, 129, 146, 146, 312, 312, 157, 312, 312, 312, 169, 213, 169, 213, 312, 231, 244, 252, 252, 262, 252, 262, 277, 312, 312, 285], 118, 0, 0, 0) := by decide +kernel
theorem pa_140_4 : pz_at 140 4 = some (4, .iload_n 2, 1, 0, 0, 0) := by decide +kernel
theorem pa_140_40 : pz_at 140 40 = some (40, .istore 7, 2, 0, 0, 0) := by decide +kernel
theorem pa_140_42 : pz_at 140 42 = some (42, .aload_n 0, 1, 0, 0, 0) := by decide +kernel
theorem pa_140_43 : pz_at 140 43 = some (43, .getfield 44, 3, 7, 15, 926) := by decide +kernel
theorem pa_140_46 : pz_at 140 46 = some (46, .iload 4, 2, 0, 0, 0) := by decide +kernel
theorem pa_140_48 : pz_at 140 48 = some (48, .iaload, 1, 0, 0, 0) := by decide +kernel
theorem pa_140_49 : pz_at 140 49 = some (49, .istore 8, 2, 0, 0, 0) := by decide +kernel
theorem pa_140_5 : pz_at 140 5 = some (5, .iadd, 1, 0, 0, 0) := by decide +kernel
theorem pa_140_51 : pz_at 140 51 = some (51, .iconst 0, 1, 0, 0, 0) := by decide +kernel
theorem pa_140_512 : pz_at 140 512 = some (512, .aload_n 0, 1, 0, 0, 0) := by decide +kernel
theorem pa_140_513 : pz_at 140 513 = some (513, .getfield 107, 3, 7, 40, 951) := by decide +kernel
theorem pa_140_516 : pz_at 140 516 = some (516, .iload 6, 2, 0, 0, 0) := by decide +kernel
theorem pa_140_518 : pz_at 140 518 = some (518, .iconst 1, 1, 0, 0, 0) := by decide +kernel
theorem pa_140_519 : pz_at 140 519 = some (519, .iastore, 1, 0, 0, 0) := by decide +kernel
theorem pa_140_52 : pz_at 140 52 = some (52, .istore 9, 2, 0, 0, 0) := by decide +kernel
theorem pa_140_520 : pz_at 140 520 = some (520, .goto 186, 3, 706, 0, 0) := by decide +kernel
theorem pa_140_523 : pz_at 140 523 = some (523, .aload_n 0, 1, 0, 0, 0) := by decide +kernel
theorem pa_140_524 : pz_at 140 524 = some (524, .getfield 107, 3, 7, 40, 951) := by decide +kernel
theorem pa_140_527 : pz_at 140 527 = some (527, .iload 6, 2, 0, 0, 0) := by decide +kernel
theorem pa_140_529 : pz_at 140 529 = some (529, .aload_n 0, 1, 0, 0, 0) := by decide +kernel
theorem pa_140_530 : pz_at 140 530 = some (530, .getfield 107, 3, 7, 40, 951) := by decide +kernel
theorem pa_140_533 : pz_at 140 533 = some (533, .iload 7, 2, 0, 0, 0) := by decide +kernel
theorem pa_140_535 : pz_at 140 535 = some (535, .iaload, 1, 0, 0, 0) := by decide +kernel
theorem pa_140_536 : pz_at 140 536 = some (536, .iastore, 1, 0, 0, 0) := by decide +kernel
theorem pa_140_537 : pz_at 140 537 = some (537, .goto 169, 3, 706, 0, 0) := by decide +kernel
theorem pa_140_54 : pz_at 140 54 = some (54, .iload 9, 2, 0, 0, 0) := by decide +kernel
theorem pa_140_540 : pz_at 140 540 = some (540, .aload_n 0, 1, 0, 0, 0) := by decide +kernel
theorem pa_140_541 : pz_at 140 541 = some (541, .getfield 107, 3, 7, 40, 951) := by decide +kernel
theorem pa_140_544 : pz_at 140 544 = some (544, .iload 6, 2, 0, 0, 0) := by decide +kernel
theorem pa_140_546 : pz_at 140 546 = some (546, .iconst 2, 1, 0, 0, 0) := by decide +kernel
theorem pa_140_547 : pz_at 140 547 = some (547, .iastore, 1, 0, 0, 0) := by decide +kernel
theorem pa_140_548 : pz_at 140 548 = some (548, .goto 158, 3, 706, 0, 0) := by decide +kernel
theorem pa_140_551 : pz_at 140 551 = some (551, .aload_n 0, 1, 0, 0, 0) := by decide +kernel
theorem pa_140_552 : pz_at 140 552 = some (552, .getfield 107, 3, 7, 40, 951) := by decide +kernel
theorem pa_140_555 : pz_at 140 555 = some (555, .iload 6, 2, 0, 0, 0) := by decide +kernel
theorem pa_140_557 : pz_at 140 557 = some (557, .bipush 33, 2, 0, 0, 0) := by decide +kernel
theorem pa_140_559 : pz_at 140 559 = some (559, .iastore, 1, 0, 0, 0) := by decide +kernel
theorem pa_140_56 : pz_at 140 56 = some (56, .bipush 8, 2, 0, 0, 0) := by decide +kernel
theorem pa_140_560 : pz_at 140 560 = some (560, .goto 146, 3, 706, 0, 0) := by decide +kernel
theorem pa_140_563 : pz_at 140 563 = some (563, .aload_n 0, 1, 0, 0, 0) := by decide +kernel
theorem pa_140_564 : pz_at 140 564 = some (564, .iload_n 1, 1, 0, 0, 0) := by decide +kernel
theorem pa_140_565 : pz_at 140 565 = some (565, .iconst 0, 1, 0, 0, 0) := by decide +kernel
theorem pa_140_566 : pz_at 140 566 = some (566, .iconst 1, 1, 0, 0, 0) := by decide +kernel
theorem pa_140_567 : pz_at 140 567 = some (567, .bipush 16, 2, 0, 0, 0) := by decide +kernel
theorem pa_140_569 : pz_at 140 569 = some (569, .iload 7, 2, 0, 0, 0) := by decide +kernel
theorem pa_140_571 : pz_at 140 571 = some (571, .iadd, 1, 0, 0, 0) := by decide +kernel
theorem pa_140_572 : pz_at 140 572 = some (572, .ishl, 1, 0, 0, 0) := by decide +kernel
theorem pa_140_573 : pz_at 140 573 = some (573, .bipush 32, 2, 0, 0, 0) := by decide +kernel
theorem pa_140_575 : pz_at 140 575 = some (575, .invokevirtual 237, 3, 135, 4, 1243) := by decide +kernel
theorem pa_140_578 : pz_at 140 578 = some (578, .aload_n 0, 1, 0, 0, 0) := by decide +kernel
theorem pa_140_579 : pz_at 140 579 = some (579, .getfield 107, 3, 7, 40, 951) := by decide +kernel
theorem pa_140_58 : pz_at 140 58 = some (58, .if_icmp .ge 28, 3, 86, 0, 0) := by decide +kernel
theorem pa_140_582 : pz_at 140 582 = some (582, .iload 6, 2, 0, 0, 0) := by decide +kernel
theorem pa_140_584 : pz_at 140 584 = some (584, .iload 5, 2, 0, 0, 0) := by decide +kernel
theorem pa_140_586 : pz_at 140 586 = some (586, .bipush 18, 2, 0, 0, 0) := by decide +kernel
theorem pa_140_588 : pz_at 140 588 = some (588, .if_icmp .ne 8, 3, 596, 0, 0) := by decide +kernel
theorem pa_140_591 : pz_at 140 591 = some (591, .bipush 33, 2, 0, 0, 0) := by decide +kernel
theorem pa_140_593 : pz_at 140 593 = some (593, .goto 10, 3, 603, 0, 0) := by decide +kernel
theorem pa_140_596 : pz_at 140 596 = some (596, .aload_n 0, 1, 0, 0, 0) := by decide +kernel
theorem pa_140_597 : pz_at 140 597 = some (597, .getfield 107, 3, 7, 40, 951) := by decide +kernel
theorem pa_140_6 : pz_at 140 6 = some (6, .istore_n 3, 1, 0, 0, 0) := by decide +kernel
theorem pa_140_600 : pz_at 140 600 = some (600, .iload 6, 2, 0, 0, 0) := by decide +kernel
theorem pa_140_602 : pz_at 140 602 = some (602, .iaload, 1, 0, 0, 0) := by decide +kernel
theorem pa_140_603 : pz_at 140 603 = some (603, .iastore, 1, 0, 0, 0) := by decide +kernel
theorem pa_140_604 : pz_at 140 604 = some (604, .goto 102, 3, 706, 0, 0) := by decide +kernel
theorem pa_140_607 : pz_at 140 607 = some (607, .aload_n 0, 1, 0, 0, 0) := by decide +kernel
theorem pa_140_608 : pz_at 140 608 = some (608, .iload_n 1, 1, 0, 0, 0) := by decide +kernel
theorem pa_140_609 : pz_at 140 609 = some (609, .iconst 1, 1, 0, 0, 0) := by decide +kernel
theorem pa_140_61 : pz_at 140 61 = some (61, .aload_n 0, 1, 0, 0, 0) := by decide +kernel
theorem pa_140_610 : pz_at 140 610 = some (610, .iconst 1, 1, 0, 0, 0) := by decide +kernel
theorem pa_140_611 : pz_at 140 611 = some (611, .bipush 16, 2, 0, 0, 0) := by decide +kernel
theorem pa_140_613 : pz_at 140 613 = some (613, .iload 6, 2, 0, 0, 0) := by decide +kernel
theorem pa_140_615 : pz_at 140 615 = some (615, .iadd, 1, 0, 0, 0) := by decide +kernel
theorem pa_140_616 : pz_at 140 616 = some (616, .ishl, 1, 0, 0, 0) := by decide +kernel
theorem pa_140_617 : pz_at 140 617 = some (617, .bipush 32, 2, 0, 0, 0) := by decide +kernel
theorem pa_140_619 : pz_at 140 619 = some (619, .invokevirtual 237, 3, 135, 4, 1243) := by decide +kernel
theorem pa_140_62 : pz_at 140 62 = some (62, .getfield 107, 3, 7, 40, 951) := by decide +kernel
theorem pa_140_622 : pz_at 140 622 = some (622, .goto 84, 3, 706, 0, 0) := by decide +kernel
theorem pa_140_625 : pz_at 140 625 = some (625, .aload_n 0, 1, 0, 0, 0) := by decide +kernel
theorem pa_140_626 : pz_at 140 626 = some (626, .iload_n 1, 1, 0, 0, 0) := by decide +kernel
theorem pa_140_627 : pz_at 140 627 = some (627, .iload_n 2, 1, 0, 0, 0) := by decide +kernel
theorem pa_140_628 : pz_at 140 628 = some (628, .iload 6, 2, 0, 0, 0) := by decide +kernel
theorem pa_140_630 : pz_at 140 630 = some (630, .iload 7, 2, 0, 0, 0) := by decide +kernel
theorem pa_140_632 : pz_at 140 632 = some (632, .iload 8, 2, 0, 0, 0) := by decide +kernel
theorem pa_140_634 : pz_at 140 634 = some (634, .invokevirtual 248, 3, 139, 5, 1247) := by decide +kernel
theorem pa_140_637 : pz_at 140 637 = some (637, .return_, 1, 0, 0, 0) := by decide +kernel
theorem pa_140_638 : pz_at 140 638 = some (638, .aload_n 0, 1, 0, 0, 0) := by decide +kernel
theorem pa_140_639 : pz_at 140 639 = some (639, .iload_n 1, 1, 0, 0, 0) := by decide +kernel
theorem pa_140_640 : pz_at 140 640 = some (640, .invokevirtual 241, 3, 136, 1, 1251) := by decide +kernel
theorem pa_140_643 : pz_at 140 643 = some (643, .goto 63, 3, 706, 0, 0) := by decide +kernel
theorem pa_140_646 : pz_at 140 646 = some (646, .aload_n 0, 1, 0, 0, 0) := by decide +kernel
theorem pa_140_647 : pz_at 140 647 = some (647, .iload_n 1, 1, 0, 0, 0) := by decide +kernel
theorem pa_140_648 : pz_at 140 648 = some (648, .iload 8, 2, 0, 0, 0) := by decide +kernel
theorem pa_140_65 : pz_at 140 65 = some (65, .iload 9, 2, 0, 0, 0) := by decide +kernel
theorem pa_140_650 : pz_at 140 650 = some (650, .invokevirtual 229, 3, 133, 2, 1226) := by decide +kernel
theorem pa_140_653 : pz_at 140 653 = some (653, .goto 53, 3, 706, 0, 0) := by decide +kernel
theorem pa_140_656 : pz_at 140 656 = some (656, .aload_n 0, 1, 0, 0, 0) := by decide +kernel
theorem pa_140_657 : pz_at 140 657 = some (657, .iload_n 1, 1, 0, 0, 0) := by decide +kernel
theorem pa_140_658 : pz_at 140 658 = some (658, .iload 5, 2, 0, 0, 0) := by decide +kernel
theorem pa_140_660 : pz_at 140 660 = some (660, .iload 6, 2, 0, 0, 0) := by decide +kernel
theorem pa_140_662 : pz_at 140 662 = some (662, .iload 8, 2, 0, 0, 0) := by decide +kernel
theorem pa_140_664 : pz_at 140 664 = some (664, .invokevirtual 252, 3, 141, 4, 1259) := by decide +kernel
theorem pa_140_667 : pz_at 140 667 = some (667, .ifCond .ne 39, 3, 706, 0, 0) := by decide +kernel
theorem pa_140_67 : pz_at 140 67 = some (67, .aload_n 0, 1, 0, 0, 0) := by decide +kernel
theorem pa_140_670 : pz_at 140 670 = some (670, .return_, 1, 0, 0, 0) := by decide +kernel
theorem pa_140_671 : pz_at 140 671 = some (671, .aload_n 0, 1, 0, 0, 0) := by decide +kernel
theorem pa_140_672 : pz_at 140 672 = some (672, .iload_n 1, 1, 0, 0, 0) := by decide +kernel
theorem pa_140_673 : pz_at 140 673 = some (673, .iload 8, 2, 0, 0, 0) := by decide +kernel
theorem pa_140_675 : pz_at 140 675 = some (675, .invokevirtual 229, 3, 133, 2, 1226) := by decide +kernel
theorem pa_140_678 : pz_at 140 678 = some (678, .return_, 1, 0, 0, 0) := by decide +kernel
theorem pa_140_679 : pz_at 140 679 = some (679, .aload_n 0, 1, 0, 0, 0) := by decide +kernel
theorem pa_140_68 : pz_at 140 68 = some (68, .getfield 83, 3, 7, 31, 942) := by decide +kernel
theorem pa_140_680 : pz_at 140 680 = some (680, .iload_n 1, 1, 0, 0, 0) := by decide +kernel
theorem pa_140_681 : pz_at 140 681 = some (681, .aload_n 0, 1, 0, 0, 0) := by decide +kernel
theorem pa_140_682 : pz_at 140 682 = some (682, .getfield 29, 3, 7, 10, 921) := by decide +kernel
theorem pa_140_685 : pz_at 140 685 = some (685, .iload_n 1, 1, 0, 0, 0) := by decide +kernel
theorem pa_140_686 : pz_at 140 686 = some (686, .iaload, 1, 0, 0, 0) := by decide +kernel
theorem pa_140_687 : pz_at 140 687 = some (687, .iconst 2, 1, 0, 0, 0) := by decide +kernel
theorem pa_140_688 : pz_at 140 688 = some (688, .if_icmp .ne 13, 3, 701, 0, 0) := by decide +kernel
theorem pa_140_691 : pz_at 140 691 = some (691, .aload_n 0, 1, 0, 0, 0) := by decide +kernel
theorem pa_140_692 : pz_at 140 692 = some (692, .getfield 107, 3, 7, 40, 951) := by decide +kernel
theorem pa_140_695 : pz_at 140 695 = some (695, .iload 6, 2, 0, 0, 0) := by decide +kernel
theorem pa_140_697 : pz_at 140 697 = some (697, .iaload, 1, 0, 0, 0) := by decide +kernel
theorem pa_140_698 : pz_at 140 698 = some (698, .goto 4, 3, 702, 0, 0) := by decide +kernel
theorem pa_140_7 : pz_at 140 7 = some (7, .bipush 24, 2, 0, 0, 0) := by decide +kernel
theorem pa_140_701 : pz_at 140 701 = some (701, .iconst 0, 1, 0, 0, 0) := by decide +kernel
theorem pa_140_702 : pz_at 140 702 = some (702, .invokevirtual 256, 3, 137, 2, 1263) := by decide +kernel
theorem pa_140_705 : pz_at 140 705 = some (705, .return_, 1, 0, 0, 0) := by decide +kernel
theorem pa_140_706 : pz_at 140 706 = some (706, .aload_n 0, 1, 0, 0, 0) := by decide +kernel
theorem pa_140_707 : pz_at 140 707 = some (707, .iload_n 1, 1, 0, 0, 0) := by decide +kernel
theorem pa_140_708 : pz_at 140 708 = some (708, .iload_n 2, 1, 0, 0, 0) := by decide +kernel
theorem pa_140_709 : pz_at 140 709 = some (709, .iconst 1, 1, 0, 0, 0) := by decide +kernel
theorem pa_140_71 : pz_at 140 71 = some (71, .bipush 8, 2, 0, 0, 0) := by decide +kernel
theorem pa_140_710 : pz_at 140 710 = some (710, .iadd, 1, 0, 0, 0) := by decide +kernel
theorem pa_140_711 : pz_at 140 711 = some (711, .invokevirtual 229, 3, 133, 2, 1226) := by decide +kernel
theorem pa_140_714 : pz_at 140 714 = some (714, .return_, 1, 0, 0, 0) := by decide +kernel
theorem pa_140_73 : pz_at 140 73 = some (73, .iload_n 3, 1, 0, 0, 0) := by decide +kernel
theorem pa_140_74 : pz_at 140 74 = some (74, .imul, 1, 0, 0, 0) := by decide +kernel
theorem pa_140_75 : pz_at 140 75 = some (75, .iload 9, 2, 0, 0, 0) := by decide +kernel
theorem pa_140_77 : pz_at 140 77 = some (77, .iadd, 1, 0, 0, 0) := by decide +kernel
theorem pa_140_78 : pz_at 140 78 = some (78, .iaload, 1, 0, 0, 0) := by decide +kernel
theorem pa_140_79 : pz_at 140 79 = some (79, .iastore, 1, 0, 0, 0) := by decide +kernel
theorem pa_140_80 : pz_at 140 80 = some (80, .iinc 9 1, 3, 0, 0, 0) := by decide +kernel
theorem pa_140_83 : pz_at 140 83 = some (83, .goto (-29), 3, 54, 0, 0) := by decide +kernel
theorem pa_140_86 : pz_at 140 86 = some (86, .iload 5, 2, 0, 0, 0) := by decide +kernel
theorem pa_140_88 : pz_at 140 88 = some (88, .iconst 4, 1, 0, 0, 0) := by decide +kernel
theorem pa_140_89 : pz_at 140 89 = some (89, .if_icmp .eq 9, 3, 98, 0, 0) := by decide +kernel
theorem pa_140_9 : pz_at 140 9 = some (9, .iload_n 1, 1, 0, 0, 0) := by decide +kernel
theorem pa_140_92 : pz_at 140 92 = some (92, .iload 5, 2, 0, 0, 0) := by decide +kernel
theorem pa_140_94 : pz_at 140 94 = some (94, .iconst 5, 1, 0, 0, 0) := by decide +kernel
theorem pa_140_95 : pz_at 140 95 = some (95, .if_icmp .ne 13, 3, 108, 0, 0) := by decide +kernel
theorem pa_140_98 : pz_at 140 98 = some (98, .aload_n 0, 1, 0, 0, 0) := by decide +kernel
theorem pa_140_99 : pz_at 140 99 = some (99, .iload_n 1, 1, 0, 0, 0) := by decide +kernel
theorem pm_137 : pz_mi 137 = (7, 3, none) := by decide +kernel
theorem pm_139 : pz_mi 139 = (7, 8, none) := by decide +kernel
theorem pm_141 : pz_mi 141 = (7, 6, (some .boolean)) := by decide +kernel
theorem pr_140 : (pz_mi 140).2.2 = none := by decide +kernel
theorem pa_141_0 : pz_at 141 0 = some (0, .aload_n 0, 1, 0, 0, 0) := by decide +kernel
theorem pa_141_1 : pz_at 141 1 = some (1, .getfield 107, 3, 7, 40, 951) := by decide +kernel
theorem pa_141_12 : pz_at 141 12 = some (12, .iload_n 3, 1, 0, 0, 0) := by decide +kernel
theorem pa_141_13 : pz_at 141 13 = some (13, .iload_n 2, 1, 0, 0, 0) := by decide +kernel
theorem pa_141_14 : pz_at 141 14 = some (14, .bipush 25, 2, 0, 0, 0) := by decide +kernel
theorem pa_141_16 : pz_at 141 16 = some (16, .if_icmp .ne 10, 3, 26, 0, 0) := by decide +kernel
theorem pa_141_19 : pz_at 141 19 = some (19, .iload 5, 2, 0, 0, 0) := by decide +kernel
theorem pa_141_21 : pz_at 141 21 = some (21, .iconst 1, 1, 0, 0, 0) := by decide +kernel
theorem pa_141_22 : pz_at 141 22 = some (22, .iand, 1, 0, 0, 0) := by decide +kernel
theorem pa_141_23 : pz_at 141 23 = some (23, .goto 8, 3, 31, 0, 0) := by decide +kernel
theorem pa_141_26 : pz_at 141 26 = some (26, .iload 5, 2, 0, 0, 0) := by decide +kernel
theorem pa_141_28 : pz_at 141 28 = some (28, .bipush (-2), 2, 0, 0, 0) := by decide +kernel
theorem pa_141_30 : pz_at 141 30 = some (30, .iand, 1, 0, 0, 0) := by decide +kernel
theorem pa_141_31 : pz_at 141 31 = some (31, .iastore, 1, 0, 0, 0) := by decide +kernel
theorem pa_141_32 : pz_at 141 32 = some (32, .aload_n 0, 1, 0, 0, 0) := by decide +kernel
theorem pa_141_33 : pz_at 141 33 = some (33, .getfield 107, 3, 7, 40, 951) := by decide +kernel
theorem pa_141_36 : pz_at 141 36 = some (36, .iload_n 3, 1, 0, 0, 0) := by decide +kernel
theorem pa_141_37 : pz_at 141 37 = some (37, .iaload, 1, 0, 0, 0) := by decide +kernel
theorem pa_141_38 : pz_at 141 38 = some (38, .ifCond .eq 10, 3, 48, 0, 0) := by decide +kernel
theorem pa_141_4 : pz_at 141 4 = some (4, .iload_n 3, 1, 0, 0, 0) := by decide +kernel
theorem pa_141_41 : pz_at 141 41 = some (41, .aload_n 0, 1, 0, 0, 0) := by decide +kernel
theorem pa_141_42 : pz_at 141 42 = some (42, .iload_n 1, 1, 0, 0, 0) := by decide +kernel
theorem pa_141_43 : pz_at 141 43 = some (43, .iload 4, 2, 0, 0, 0) := by decide +kernel
theorem pa_141_45 : pz_at 141 45 = some (45, .invokevirtual 229, 3, 133, 2, 1226) := by decide +kernel
theorem pa_141_48 : pz_at 141 48 = some (48, .aload_n 0, 1, 0, 0, 0) := by decide +kernel
theorem pa_141_49 : pz_at 141 49 = some (49, .getfield 107, 3, 7, 40, 951) := by decide +kernel
theorem pa_141_5 : pz_at 141 5 = some (5, .iaload, 1, 0, 0, 0) := by decide +kernel
theorem pa_141_52 : pz_at 141 52 = some (52, .iload_n 3, 1, 0, 0, 0) := by decide +kernel
theorem pa_141_53 : pz_at 141 53 = some (53, .iload_n 2, 1, 0, 0, 0) := by decide +kernel
theorem pa_141_54 : pz_at 141 54 = some (54, .bipush 25, 2, 0, 0, 0) := by decide +kernel
theorem pa_141_56 : pz_at 141 56 = some (56, .if_icmp .ne 11, 3, 67, 0, 0) := by decide +kernel
theorem pa_141_59 : pz_at 141 59 = some (59, .iload 5, 2, 0, 0, 0) := by decide +kernel
theorem pa_141_6 : pz_at 141 6 = some (6, .istore 5, 2, 0, 0, 0) := by decide +kernel
theorem pa_141_61 : pz_at 141 61 = some (61, .bipush (-2), 2, 0, 0, 0) := by decide +kernel
theorem pa_141_63 : pz_at 141 63 = some (63, .iand, 1, 0, 0, 0) := by decide +kernel
theorem pa_141_64 : pz_at 141 64 = some (64, .goto 5, 3, 69, 0, 0) := by decide +kernel
theorem pa_141_67 : pz_at 141 67 = some (67, .iload 5, 2, 0, 0, 0) := by decide +kernel
theorem pa_141_69 : pz_at 141 69 = some (69, .iastore, 1, 0, 0, 0) := by decide +kernel
theorem pa_141_70 : pz_at 141 70 = some (70, .aload_n 0, 1, 0, 0, 0) := by decide +kernel
theorem pa_141_71 : pz_at 141 71 = some (71, .getfield 107, 3, 7, 40, 951) := by decide +kernel
theorem pa_141_74 : pz_at 141 74 = some (74, .iload_n 3, 1, 0, 0, 0) := by decide +kernel
theorem pa_141_75 : pz_at 141 75 = some (75, .iaload, 1, 0, 0, 0) := by decide +kernel
theorem pa_141_76 : pz_at 141 76 = some (76, .ifCond .eq 7, 3, 83, 0, 0) := by decide +kernel
theorem pa_141_79 : pz_at 141 79 = some (79, .iconst 1, 1, 0, 0, 0) := by decide +kernel
theorem pa_141_8 : pz_at 141 8 = some (8, .aload_n 0, 1, 0, 0, 0) := by decide +kernel
theorem pa_141_80 : pz_at 141 80 = some (80, .goto 4, 3, 84, 0, 0) := by decide +kernel
theorem pa_141_83 : pz_at 141 83 = some (83, .iconst 0, 1, 0, 0, 0) := by decide +kernel
theorem pa_141_84 : pz_at 141 84 = some (84, .ireturn, 1, 0, 0, 0) := by decide +kernel
theorem pa_141_9 : pz_at 141 9 = some (9, .getfield 107, 3, 7, 40, 951) := by decide +kernel
theorem pr_141 : (pz_mi 141).2.2 = (some .boolean) := by decide +kernel
theorem pa_142_0 : pz_at 142 0 = some (0, .iconst 0, 1, 0, 0, 0) := by decide +kernel
theorem pa_142_1 : pz_at 142 1 = some (1, .istore_n 1, 1, 0, 0, 0) := by decide +kernel
theorem pa_142_10 : pz_at 142 10 = some (10, .getfield 86, 3, 7, 32, 943) := by decide +kernel
theorem pa_142_100 : pz_at 142 100 = some (100, .iload_n 1, 1, 0, 0, 0) := by decide +kernel
theorem pa_142_101 : pz_at 142 101 = some (101, .iconst 0, 1, 0, 0, 0) := by decide +kernel
theorem pa_142_102 : pz_at 142 102 = some (102, .iastore, 1, 0, 0, 0) := by decide +kernel
theorem pa_142_103 : pz_at 142 103 = some (103, .aload_n 0, 1, 0, 0, 0) := by decide +kernel
theorem pa_142_104 : pz_at 142 104 = some (104, .getfield 98, 3, 7, 36, 947) := by decide +kernel
theorem pa_142_107 : pz_at 142 107 = some (107, .iload_n 1, 1, 0, 0, 0) := by decide +kernel
theorem pa_142_108 : pz_at 142 108 = some (108, .iconst 0, 1, 0, 0, 0) := by decide +kernel
theorem pa_142_109 : pz_at 142 109 = some (109, .iastore, 1, 0, 0, 0) := by decide +kernel
theorem pa_142_110 : pz_at 142 110 = some (110, .iconst 0, 1, 0, 0, 0) := by decide +kernel
theorem pa_142_111 : pz_at 142 111 = some (111, .istore_n 2, 1, 0, 0, 0) := by decide +kernel
theorem pa_142_112 : pz_at 142 112 = some (112, .iload_n 2, 1, 0, 0, 0) := by decide +kernel
theorem pa_142_113 : pz_at 142 113 = some (113, .bipush 8, 2, 0, 0, 0) := by decide +kernel
theorem pa_142_115 : pz_at 142 115 = some (115, .if_icmp .ge 34, 3, 149, 0, 0) := by decide +kernel
theorem pa_142_118 : pz_at 142 118 = some (118, .aload_n 0, 1, 0, 0, 0) := by decide +kernel
theorem pa_142_119 : pz_at 142 119 = some (119, .getfield 107, 3, 7, 40, 951) := by decide +kernel
theorem pa_142_122 : pz_at 142 122 = some (122, .iload_n 2, 1, 0, 0, 0) := by decide +kernel
theorem pa_142_123 : pz_at 142 123 = some (123, .iload_n 2, 1, 0, 0, 0) := by decide +kernel
theorem pa_142_124 : pz_at 142 124 = some (124, .aload_n 0, 1, 0, 0, 0) := by decide +kernel
theorem pa_142_125 : pz_at 142 125 = some (125, .getfield 26, 3, 7, 9, 920) := by decide +kernel
theorem pa_142_128 : pz_at 142 128 = some (128, .iload_n 1, 1, 0, 0, 0) := by decide +kernel
theorem pa_142_129 : pz_at 142 129 = some (129, .iaload, 1, 0, 0, 0) := by decide +kernel
theorem pa_142_13 : pz_at 142 13 = some (13, .iload_n 1, 1, 0, 0, 0) := by decide +kernel
theorem pa_142_130 : pz_at 142 130 = some (130, .if_icmp .ge 11, 3, 141, 0, 0) := by decide +kernel
theorem pa_142_133 : pz_at 142 133 = some (133, .iconst 1, 1, 0, 0, 0) := by decide +kernel
theorem pa_142_134 : pz_at 142 134 = some (134, .iconst 4, 1, 0, 0, 0) := by decide +kernel
theorem pa_142_135 : pz_at 142 135 = some (135, .iload_n 2, 1, 0, 0, 0) := by decide +kernel
theorem pa_142_136 : pz_at 142 136 = some (136, .ishl, 1, 0, 0, 0) := by decide +kernel
theorem pa_142_137 : pz_at 142 137 = some (137, .ior, 1, 0, 0, 0) := by decide +kernel
theorem pa_142_138 : pz_at 142 138 = some (138, .goto 4, 3, 142, 0, 0) := by decide +kernel
theorem pa_142_14 : pz_at 142 14 = some (14, .iconst 0, 1, 0, 0, 0) := by decide +kernel
theorem pa_142_141 : pz_at 142 141 = some (141, .iconst 1, 1, 0, 0, 0) := by decide +kernel
theorem pa_142_142 : pz_at 142 142 = some (142, .iastore, 1, 0, 0, 0) := by decide +kernel
theorem pa_142_143 : pz_at 142 143 = some (143, .iinc 2 1, 3, 0, 0, 0) := by decide +kernel
theorem pa_142_146 : pz_at 142 146 = some (146, .goto (-34), 3, 112, 0, 0) := by decide +kernel
theorem pa_142_149 : pz_at 142 149 = some (149, .aload_n 0, 1, 0, 0, 0) := by decide +kernel
theorem pa_142_15 : pz_at 142 15 = some (15, .bastore, 1, 0, 0, 0) := by decide +kernel
theorem pa_142_150 : pz_at 142 150 = some (150, .iload_n 1, 1, 0, 0, 0) := by decide +kernel
theorem pa_142_151 : pz_at 142 151 = some (151, .iconst 0, 1, 0, 0, 0) := by decide +kernel
theorem pa_142_152 : pz_at 142 152 = some (152, .invokevirtual 229, 3, 133, 2, 1226) := by decide +kernel
theorem pa_142_155 : pz_at 142 155 = some (155, .iinc 1 1, 3, 0, 0, 0) := by decide +kernel
theorem pa_142_158 : pz_at 142 158 = some (158, .goto (-84), 3, 74, 0, 0) := by decide +kernel
theorem pa_142_16 : pz_at 142 16 = some (16, .iinc 1 1, 3, 0, 0, 0) := by decide +kernel
theorem pa_142_161 : pz_at 142 161 = some (161, .aload_n 0, 1, 0, 0, 0) := by decide +kernel
theorem pa_142_162 : pz_at 142 162 = some (162, .iconst 1, 1, 0, 0, 0) := by decide +kernel
theorem pa_142_163 : pz_at 142 163 = some (163, .putfield 222, 3, 7, 39, 950) := by decide +kernel
theorem pa_142_166 : pz_at 142 166 = some (166, .aload_n 0, 1, 0, 0, 0) := by decide +kernel
theorem pa_142_167 : pz_at 142 167 = some (167, .getfield 222, 3, 7, 39, 950) := by decide +kernel
theorem pa_142_170 : pz_at 142 170 = some (170, .ifCond .eq 104, 3, 274, 0, 0) := by decide +kernel
theorem pa_142_173 : pz_at 142 173 = some (173, .aload_n 0, 1, 0, 0, 0) := by decide +kernel
theorem pa_142_174 : pz_at 142 174 = some (174, .iconst 0, 1, 0, 0, 0) := by decide +kernel
theorem pa_142_175 : pz_at 142 175 = some (175, .putfield 222, 3, 7, 39, 950) := by decide +kernel
theorem pa_142_178 : pz_at 142 178 = some (178, .iconst 0, 1, 0, 0, 0) := by decide +kernel
theorem pa_142_179 : pz_at 142 179 = some (179, .istore_n 1, 1, 0, 0, 0) := by decide +kernel
theorem pa_142_180 : pz_at 142 180 = some (180, .iload_n 1, 1, 0, 0, 0) := by decide +kernel
theorem pa_142_181 : pz_at 142 181 = some (181, .aload_n 0, 1, 0, 0, 0) := by decide +kernel
theorem pa_142_182 : pz_at 142 182 = some (182, .getfield 184, 3, 7, 7, 918) := by decide +kernel
theorem pa_142_185 : pz_at 142 185 = some (185, .if_icmp .ge 86, 3, 271, 0, 0) := by decide +kernel
theorem pa_142_188 : pz_at 142 188 = some (188, .iconst 0, 1, 0, 0, 0) := by decide +kernel
theorem pa_142_189 : pz_at 142 189 = some (189, .istore_n 2, 1, 0, 0, 0) := by decide +kernel
theorem pa_142_19 : pz_at 142 19 = some (19, .goto (-17), 3, 2, 0, 0) := by decide +kernel
theorem pa_142_190 : pz_at 142 190 = some (190, .iload_n 2, 1, 0, 0, 0) := by decide +kernel
theorem pa_142_191 : pz_at 142 191 = some (191, .aload_n 0, 1, 0, 0, 0) := by decide +kernel
theorem pa_142_192 : pz_at 142 192 = some (192, .getfield 32, 3, 7, 11, 922) := by decide +kernel
theorem pa_142_195 : pz_at 142 195 = some (195, .iload_n 1, 1, 0, 0, 0) := by decide +kernel
theorem pa_142_196 : pz_at 142 196 = some (196, .iaload, 1, 0, 0, 0) := by decide +kernel
theorem pa_142_197 : pz_at 142 197 = some (197, .if_icmp .ge 29, 3, 226, 0, 0) := by decide +kernel
theorem pa_142_2 : pz_at 142 2 = some (2, .iload_n 1, 1, 0, 0, 0) := by decide +kernel
theorem pa_142_200 : pz_at 142 200 = some (200, .aload_n 0, 1, 0, 0, 0) := by decide +kernel
theorem pa_142_201 : pz_at 142 201 = some (201, .getfield 86, 3, 7, 32, 943) := by decide +kernel
theorem pa_142_204 : pz_at 142 204 = some (204, .bipush 25, 2, 0, 0, 0) := by decide +kernel
theorem pa_142_206 : pz_at 142 206 = some (206, .iload_n 1, 1, 0, 0, 0) := by decide +kernel
theorem pa_142_207 : pz_at 142 207 = some (207, .imul, 1, 0, 0, 0) := by decide +kernel
theorem pa_142_208 : pz_at 142 208 = some (208, .iload_n 2, 1, 0, 0, 0) := by decide +kernel
theorem pa_142_209 : pz_at 142 209 = some (209, .iadd, 1, 0, 0, 0) := by decide +kernel
theorem pa_142_210 : pz_at 142 210 = some (210, .baload, 1, 0, 0, 0) := by decide +kernel
theorem pa_142_211 : pz_at 142 211 = some (211, .ifCond .eq 9, 3, 220, 0, 0) := by decide +kernel
theorem pa_142_214 : pz_at 142 214 = some (214, .aload_n 0, 1, 0, 0, 0) := by decide +kernel
theorem pa_142_215 : pz_at 142 215 = some (215, .iload_n 1, 1, 0, 0, 0) := by decide +kernel
theorem pa_142_216 : pz_at 142 216 = some (216, .iload_n 2, 1, 0, 0, 0) := by decide +kernel
theorem pa_142_217 : pz_at 142 217 = some (217, .invokevirtual 259, 3, 140, 2, 1230) := by decide +kernel
theorem pa_142_22 : pz_at 142 22 = some (22, .iconst 0, 1, 0, 0, 0) := by decide +kernel
theorem pa_142_220 : pz_at 142 220 = some (220, .iinc 2 1, 3, 0, 0, 0) := by decide +kernel
theorem pa_142_223 : pz_at 142 223 = some (223, .goto (-33), 3, 190, 0, 0) := by decide +kernel
theorem pa_142_226 : pz_at 142 226 = some (226, .aload_n 0, 1, 0, 0, 0) := by decide +kernel
theorem pa_142_227 : pz_at 142 227 = some (227, .getfield 86, 3, 7, 32, 943) := by decide +kernel
theorem pa_142_23 : pz_at 142 23 = some (23, .istore_n 1, 1, 0, 0, 0) := by decide +kernel
theorem pa_142_230 : pz_at 142 230 = some (230, .bipush 25, 2, 0, 0, 0) := by decide +kernel
theorem pa_142_232 : pz_at 142 232 = some (232, .iload_n 1, 1, 0, 0, 0) := by decide +kernel
theorem pa_142_233 : pz_at 142 233 = some (233, .imul, 1, 0, 0, 0) := by decide +kernel
theorem pa_142_234 : pz_at 142 234 = some (234, .aload_n 0, 1, 0, 0, 0) := by decide +kernel
theorem pa_142_235 : pz_at 142 235 = some (235, .getfield 32, 3, 7, 11, 922) := by decide +kernel
theorem pa_142_238 : pz_at 142 238 = some (238, .iload_n 1, 1, 0, 0, 0) := by decide +kernel
theorem pa_142_239 : pz_at 142 239 = some (239, .iaload, 1, 0, 0, 0) := by decide +kernel
theorem pa_142_24 : pz_at 142 24 = some (24, .iload_n 1, 1, 0, 0, 0) := by decide +kernel
theorem pa_142_240 : pz_at 142 240 = some (240, .iadd, 1, 0, 0, 0) := by decide +kernel
theorem pa_142_241 : pz_at 142 241 = some (241, .baload, 1, 0, 0, 0) := by decide +kernel
theorem pa_142_242 : pz_at 142 242 = some (242, .ifCond .eq 23, 3, 265, 0, 0) := by decide +kernel
theorem pa_142_245 : pz_at 142 245 = some (245, .aload_n 0, 1, 0, 0, 0) := by decide +kernel
theorem pa_142_246 : pz_at 142 246 = some (246, .iload_n 1, 1, 0, 0, 0) := by decide +kernel
theorem pa_142_247 : pz_at 142 247 = some (247, .aload_n 0, 1, 0, 0, 0) := by decide +kernel
theorem pa_142_248 : pz_at 142 248 = some (248, .getfield 29, 3, 7, 10, 921) := by decide +kernel
theorem pa_142_25 : pz_at 142 25 = some (25, .sipush 2000, 3, 0, 0, 0) := by decide +kernel
theorem pa_142_251 : pz_at 142 251 = some (251, .iload_n 1, 1, 0, 0, 0) := by decide +kernel
theorem pa_142_252 : pz_at 142 252 = some (252, .iaload, 1, 0, 0, 0) := by decide +kernel
theorem pa_142_253 : pz_at 142 253 = some (253, .iconst 2, 1, 0, 0, 0) := by decide +kernel
theorem pa_142_254 : pz_at 142 254 = some (254, .if_icmp .ne 7, 3, 261, 0, 0) := by decide +kernel
theorem pa_142_257 : pz_at 142 257 = some (257, .iconst 1, 1, 0, 0, 0) := by decide +kernel
theorem pa_142_258 : pz_at 142 258 = some (258, .goto 4, 3, 262, 0, 0) := by decide +kernel
theorem pa_142_261 : pz_at 142 261 = some (261, .iconst 0, 1, 0, 0, 0) := by decide +kernel
theorem pa_142_262 : pz_at 142 262 = some (262, .invokevirtual 256, 3, 137, 2, 1263) := by decide +kernel
theorem pa_142_265 : pz_at 142 265 = some (265, .iinc 1 1, 3, 0, 0, 0) := by decide +kernel
theorem pa_142_268 : pz_at 142 268 = some (268, .goto (-88), 3, 180, 0, 0) := by decide +kernel
theorem pa_142_271 : pz_at 142 271 = some (271, .goto (-105), 3, 166, 0, 0) := by decide +kernel
theorem pa_142_274 : pz_at 142 274 = some (274, .aload_n 0, 1, 0, 0, 0) := by decide +kernel
theorem pa_142_275 : pz_at 142 275 = some (275, .iconst 1, 1, 0, 0, 0) := by decide +kernel
theorem pa_142_276 : pz_at 142 276 = some (276, .putfield 164, 3, 7, 21, 932) := by decide +kernel
theorem pa_142_279 : pz_at 142 279 = some (279, .iconst 0, 1, 0, 0, 0) := by decide +kernel
theorem pa_142_28 : pz_at 142 28 = some (28, .if_icmp .ge 16, 3, 44, 0, 0) := by decide +kernel
theorem pa_142_280 : pz_at 142 280 = some (280, .istore_n 1, 1, 0, 0, 0) := by decide +kernel
theorem pa_142_281 : pz_at 142 281 = some (281, .iconst 0, 1, 0, 0, 0) := by decide +kernel
theorem pa_142_282 : pz_at 142 282 = some (282, .istore_n 2, 1, 0, 0, 0) := by decide +kernel
theorem pa_142_283 : pz_at 142 283 = some (283, .iload_n 2, 1, 0, 0, 0) := by decide +kernel
theorem pa_142_284 : pz_at 142 284 = some (284, .aload_n 0, 1, 0, 0, 0) := by decide +kernel
theorem pa_142_285 : pz_at 142 285 = some (285, .getfield 184, 3, 7, 7, 918) := by decide +kernel
theorem pa_142_288 : pz_at 142 288 = some (288, .if_icmp .ge 25, 3, 313, 0, 0) := by decide +kernel
theorem pa_142_291 : pz_at 142 291 = some (291, .iload_n 1, 1, 0, 0, 0) := by decide +kernel
theorem pa_142_292 : pz_at 142 292 = some (292, .aload_n 0, 1, 0, 0, 0) := by decide +kernel
theorem pa_142_293 : pz_at 142 293 = some (293, .iload_n 2, 1, 0, 0, 0) := by decide +kernel
theorem pa_142_294 : pz_at 142 294 = some (294, .invokevirtual 262, 3, 144, 1, 1267) := by decide +kernel
theorem pa_142_297 : pz_at 142 297 = some (297, .ifCond .eq 7, 3, 304, 0, 0) := by decide +kernel
theorem pa_142_3 : pz_at 142 3 = some (3, .sipush 250, 3, 0, 0, 0) := by decide +kernel
theorem pa_142_300 : pz_at 142 300 = some (300, .iconst 1, 1, 0, 0, 0) := by decide +kernel
theorem pa_142_301 : pz_at 142 301 = some (301, .goto 4, 3, 305, 0, 0) := by decide +kernel
theorem pa_142_304 : pz_at 142 304 = some (304, .iconst 0, 1, 0, 0, 0) := by decide +kernel
theorem pa_142_305 : pz_at 142 305 = some (305, .iadd, 1, 0, 0, 0) := by decide +kernel
theorem pa_142_306 : pz_at 142 306 = some (306, .istore_n 1, 1, 0, 0, 0) := by decide +kernel
theorem pa_142_307 : pz_at 142 307 = some (307, .iinc 2 1, 3, 0, 0, 0) := by decide +kernel
theorem pa_142_31 : pz_at 142 31 = some (31, .aload_n 0, 1, 0, 0, 0) := by decide +kernel
theorem pa_142_310 : pz_at 142 310 = some (310, .goto (-27), 3, 283, 0, 0) := by decide +kernel
theorem pa_142_313 : pz_at 142 313 = some (313, .iload_n 1, 1, 0, 0, 0) := by decide +kernel
theorem pa_142_314 : pz_at 142 314 = some (314, .ireturn, 1, 0, 0, 0) := by decide +kernel
theorem pa_142_32 : pz_at 142 32 = some (32, .getfield 83, 3, 7, 31, 942) := by decide +kernel
theorem pa_142_35 : pz_at 142 35 = some (35, .iload_n 1, 1, 0, 0, 0) := by decide +kernel
theorem pa_142_36 : pz_at 142 36 = some (36, .iconst 0, 1, 0, 0, 0) := by decide +kernel
theorem pa_142_37 : pz_at 142 37 = some (37, .iastore, 1, 0, 0, 0) := by decide +kernel
theorem pa_142_38 : pz_at 142 38 = some (38, .iinc 1 1, 3, 0, 0, 0) := by decide +kernel
theorem pa_142_41 : pz_at 142 41 = some (41, .goto (-17), 3, 24, 0, 0) := by decide +kernel
theorem pa_142_44 : pz_at 142 44 = some (44, .iconst 0, 1, 0, 0, 0) := by decide +kernel
theorem pa_142_45 : pz_at 142 45 = some (45, .istore_n 1, 1, 0, 0, 0) := by decide +kernel
theorem pa_142_46 : pz_at 142 46 = some (46, .iload_n 1, 1, 0, 0, 0) := by decide +kernel
theorem pa_142_47 : pz_at 142 47 = some (47, .bipush 40, 2, 0, 0, 0) := by decide +kernel
theorem pa_142_49 : pz_at 142 49 = some (49, .if_icmp .ge 23, 3, 72, 0, 0) := by decide +kernel
theorem pa_142_52 : pz_at 142 52 = some (52, .aload_n 0, 1, 0, 0, 0) := by decide +kernel
theorem pa_142_53 : pz_at 142 53 = some (53, .getfield 101, 3, 7, 37, 948) := by decide +kernel
theorem pa_142_56 : pz_at 142 56 = some (56, .iload_n 1, 1, 0, 0, 0) := by decide +kernel
theorem pa_142_57 : pz_at 142 57 = some (57, .iconst 0, 1, 0, 0, 0) := by decide +kernel
theorem pa_142_58 : pz_at 142 58 = some (58, .iastore, 1, 0, 0, 0) := by decide +kernel
theorem pa_142_59 : pz_at 142 59 = some (59, .aload_n 0, 1, 0, 0, 0) := by decide +kernel
theorem pa_142_6 : pz_at 142 6 = some (6, .if_icmp .ge 16, 3, 22, 0, 0) := by decide +kernel
theorem pa_142_60 : pz_at 142 60 = some (60, .getfield 104, 3, 7, 38, 949) := by decide +kernel
theorem pa_142_63 : pz_at 142 63 = some (63, .iload_n 1, 1, 0, 0, 0) := by decide +kernel
theorem pa_142_64 : pz_at 142 64 = some (64, .iconst 0, 1, 0, 0, 0) := by decide +kernel
theorem pa_142_65 : pz_at 142 65 = some (65, .iastore, 1, 0, 0, 0) := by decide +kernel
theorem pa_142_66 : pz_at 142 66 = some (66, .iinc 1 1, 3, 0, 0, 0) := by decide +kernel
theorem pa_142_69 : pz_at 142 69 = some (69, .goto (-23), 3, 46, 0, 0) := by decide +kernel
theorem pa_142_72 : pz_at 142 72 = some (72, .iconst 0, 1, 0, 0, 0) := by decide +kernel
theorem pa_142_73 : pz_at 142 73 = some (73, .istore_n 1, 1, 0, 0, 0) := by decide +kernel
theorem pa_142_74 : pz_at 142 74 = some (74, .iload_n 1, 1, 0, 0, 0) := by decide +kernel
theorem pa_142_75 : pz_at 142 75 = some (75, .aload_n 0, 1, 0, 0, 0) := by decide +kernel
theorem pa_142_76 : pz_at 142 76 = some (76, .getfield 184, 3, 7, 7, 918) := by decide +kernel
theorem pa_142_79 : pz_at 142 79 = some (79, .if_icmp .ge 82, 3, 161, 0, 0) := by decide +kernel
theorem pa_142_82 : pz_at 142 82 = some (82, .aload_n 0, 1, 0, 0, 0) := by decide +kernel
theorem pa_142_83 : pz_at 142 83 = some (83, .getfield 89, 3, 7, 33, 944) := by decide +kernel
theorem pa_142_86 : pz_at 142 86 = some (86, .iload_n 1, 1, 0, 0, 0) := by decide +kernel
theorem pa_142_87 : pz_at 142 87 = some (87, .iconst 0, 1, 0, 0, 0) := by decide +kernel
theorem pa_142_88 : pz_at 142 88 = some (88, .bastore, 1, 0, 0, 0) := by decide +kernel
theorem pa_142_89 : pz_at 142 89 = some (89, .aload_n 0, 1, 0, 0, 0) := by decide +kernel
theorem pa_142_9 : pz_at 142 9 = some (9, .aload_n 0, 1, 0, 0, 0) := by decide +kernel
theorem pa_142_90 : pz_at 142 90 = some (90, .getfield 92, 3, 7, 34, 945) := by decide +kernel
theorem pa_142_93 : pz_at 142 93 = some (93, .iload_n 1, 1, 0, 0, 0) := by decide +kernel
theorem pa_142_94 : pz_at 142 94 = some (94, .iconst 0, 1, 0, 0, 0) := by decide +kernel
theorem pa_142_95 : pz_at 142 95 = some (95, .bastore, 1, 0, 0, 0) := by decide +kernel
theorem pa_142_96 : pz_at 142 96 = some (96, .aload_n 0, 1, 0, 0, 0) := by decide +kernel
theorem pa_142_97 : pz_at 142 97 = some (97, .getfield 95, 3, 7, 35, 946) := by decide +kernel
theorem pm_140 : pz_mi 140 = (7, 12, none) := by decide +kernel
theorem pm_144 : pz_mi 144 = (7, 2, (some .boolean)) := by decide +kernel
theorem pr_142 : (pz_mi 142).2.2 = (some .int) := by decide +kernel
theorem pa_143_0 : pz_at 143 0 = some (0, .iconst 0, 1, 0, 0, 0) := by decide +kernel
theorem pa_143_1 : pz_at 143 1 = some (1, .istore_n 3, 1, 0, 0, 0) := by decide +kernel
theorem pa_143_11 : pz_at 143 11 = some (11, .iload_n 3, 1, 0, 0, 0) := by decide +kernel
theorem pa_143_12 : pz_at 143 12 = some (12, .iload_n 2, 1, 0, 0, 0) := by decide +kernel
theorem pa_143_13 : pz_at 143 13 = some (13, .ifCond .eq 17, 3, 30, 0, 0) := by decide +kernel
theorem pa_143_16 : pz_at 143 16 = some (16, .aload_n 0, 1, 0, 0, 0) := by decide +kernel
theorem pa_143_17 : pz_at 143 17 = some (17, .getfield 104, 3, 7, 38, 949) := by decide +kernel
theorem pa_143_2 : pz_at 143 2 = some (2, .iconst 0, 1, 0, 0, 0) := by decide +kernel
theorem pa_143_20 : pz_at 143 20 = some (20, .iconst 4, 1, 0, 0, 0) := by decide +kernel
theorem pa_143_21 : pz_at 143 21 = some (21, .iload_n 1, 1, 0, 0, 0) := by decide +kernel
theorem pa_143_22 : pz_at 143 22 = some (22, .imul, 1, 0, 0, 0) := by decide +kernel
theorem pa_143_23 : pz_at 143 23 = some (23, .iload 4, 2, 0, 0, 0) := by decide +kernel
theorem pa_143_25 : pz_at 143 25 = some (25, .iadd, 1, 0, 0, 0) := by decide +kernel
theorem pa_143_26 : pz_at 143 26 = some (26, .iaload, 1, 0, 0, 0) := by decide +kernel
theorem pa_143_27 : pz_at 143 27 = some (27, .goto 14, 3, 41, 0, 0) := by decide +kernel
theorem pa_143_3 : pz_at 143 3 = some (3, .istore 4, 2, 0, 0, 0) := by decide +kernel
theorem pa_143_30 : pz_at 143 30 = some (30, .aload_n 0, 1, 0, 0, 0) := by decide +kernel
theorem pa_143_31 : pz_at 143 31 = some (31, .getfield 101, 3, 7, 37, 948) := by decide +kernel
theorem pa_143_34 : pz_at 143 34 = some (34, .iconst 4, 1, 0, 0, 0) := by decide +kernel
theorem pa_143_35 : pz_at 143 35 = some (35, .iload_n 1, 1, 0, 0, 0) := by decide +kernel
theorem pa_143_36 : pz_at 143 36 = some (36, .imul, 1, 0, 0, 0) := by decide +kernel
theorem pa_143_37 : pz_at 143 37 = some (37, .iload 4, 2, 0, 0, 0) := by decide +kernel
theorem pa_143_39 : pz_at 143 39 = some (39, .iadd, 1, 0, 0, 0) := by decide +kernel
theorem pa_143_40 : pz_at 143 40 = some (40, .iaload, 1, 0, 0, 0) := by decide +kernel
theorem pa_143_41 : pz_at 143 41 = some (41, .ior, 1, 0, 0, 0) := by decide +kernel
theorem pa_143_42 : pz_at 143 42 = some (42, .istore_n 3, 1, 0, 0, 0) := by decide +kernel
theorem pa_143_43 : pz_at 143 43 = some (43, .iinc 4 1, 3, 0, 0, 0) := by decide +kernel
theorem pa_143_46 : pz_at 143 46 = some (46, .goto (-41), 3, 5, 0, 0) := by decide +kernel
theorem pa_143_49 : pz_at 143 49 = some (49, .iload_n 3, 1, 0, 0, 0) := by decide +kernel
theorem pa_143_5 : pz_at 143 5 = some (5, .iload 4, 2, 0, 0, 0) := by decide +kernel
theorem pa_143_50 : pz_at 143 50 = some (50, .ireturn, 1, 0, 0, 0) := by decide +kernel
theorem pa_143_7 : pz_at 143 7 = some (7, .iconst 4, 1, 0, 0, 0) := by decide +kernel
theorem pa_143_8 : pz_at 143 8 = some (8, .if_icmp .ge 41, 3, 49, 0, 0) := by decide +kernel
theorem pr_143 : (pz_mi 143).2.2 = (some .int) := by decide +kernel
theorem pa_144_0 : pz_at 144 0 = some (0, .aload_n 0, 1, 0, 0, 0) := by decide +kernel
theorem pa_144_1 : pz_at 144 1 = some (1, .iload_n 1, 1, 0, 0, 0) := by decide +kernel
theorem pa_144_10 : pz_at 144 10 = some (10, .getfield 92, 3, 7, 34, 945) := by decide +kernel
theorem pa_144_13 : pz_at 144 13 = some (13, .iload_n 1, 1, 0, 0, 0) := by decide +kernel
theorem pa_144_14 : pz_at 144 14 = some (14, .baload, 1, 0, 0, 0) := by decide +kernel
theorem pa_144_15 : pz_at 144 15 = some (15, .ifCond .ne 7, 3, 22, 0, 0) := by decide +kernel
theorem pa_144_18 : pz_at 144 18 = some (18, .iconst 1, 1, 0, 0, 0) := by decide +kernel
theorem pa_144_19 : pz_at 144 19 = some (19, .goto 4, 3, 23, 0, 0) := by decide +kernel
theorem pa_144_2 : pz_at 144 2 = some (2, .iconst 1, 1, 0, 0, 0) := by decide +kernel
theorem pa_144_22 : pz_at 144 22 = some (22, .iconst 0, 1, 0, 0, 0) := by decide +kernel
theorem pa_144_23 : pz_at 144 23 = some (23, .ireturn, 1, 0, 0, 0) := by decide +kernel
theorem pa_144_3 : pz_at 144 3 = some (3, .invokevirtual 265, 3, 143, 2, 1271) := by decide +kernel
theorem pa_144_6 : pz_at 144 6 = some (6, .ifCond .ne 16, 3, 22, 0, 0) := by decide +kernel
theorem pa_144_9 : pz_at 144 9 = some (9, .aload_n 0, 1, 0, 0, 0) := by decide +kernel
theorem pm_143 : pz_mi 143 = (7, 5, (some .int)) := by decide +kernel
theorem pr_144 : (pz_mi 144).2.2 = (some .boolean) := by decide +kernel
theorem pa_145_0 : pz_at 145 0 = some (0, .aload_n 0, 1, 0, 0, 0) := by decide +kernel
theorem pa_145_1 : pz_at 145 1 = some (1, .getfield 164, 3, 7, 21, 932) := by decide +kernel
theorem pa_145_11 : pz_at 145 11 = some (11, .iload_n 1, 1, 0, 0, 0) := by decide +kernel
theorem pa_145_12 : pz_at 145 12 = some (12, .aload_n 0, 1, 0, 0, 0) := by decide +kernel
theorem pa_145_13 : pz_at 145 13 = some (13, .getfield 184, 3, 7, 7, 918) := by decide +kernel
theorem pa_145_16 : pz_at 145 16 = some (16, .if_icmp .lt 7, 3, 23, 0, 0) := by decide +kernel
theorem pa_145_19 : pz_at 145 19 = some (19, .iconst 1, 1, 0, 0, 0) := by decide +kernel
theorem pa_145_20 : pz_at 145 20 = some (20, .goto 4, 3, 24, 0, 0) := by decide +kernel
theorem pa_145_23 : pz_at 145 23 = some (23, .iconst 0, 1, 0, 0, 0) := by decide +kernel
theorem pa_145_24 : pz_at 145 24 = some (24, .ireturn, 1, 0, 0, 0) := by decide +kernel
theorem pa_145_4 : pz_at 145 4 = some (4, .ifCond .eq 15, 3, 19, 0, 0) := by decide +kernel
theorem pa_145_7 : pz_at 145 7 = some (7, .iload_n 1, 1, 0, 0, 0) := by decide +kernel
theorem pa_145_8 : pz_at 145 8 = some (8, .ifCond .lt 11, 3, 19, 0, 0) := by decide +kernel
theorem pr_145 : (pz_mi 145).2.2 = (some .boolean) := by decide +kernel
theorem pa_146_0 : pz_at 146 0 = some (0, .aload_n 0, 1, 0, 0, 0) := by decide +kernel
theorem pa_146_1 : pz_at 146 1 = some (1, .iload_n 1, 1, 0, 0, 0) := by decide +kernel
theorem pa_146_10 : pz_at 146 10 = some (10, .iload_n 2, 1, 0, 0, 0) := by decide +kernel
theorem pa_146_102 : pz_at 146 102 = some (102, .aload_n 0, 1, 0, 0, 0) := by decide +kernel
theorem pa_146_103 : pz_at 146 103 = some (103, .getfield 98, 3, 7, 36, 947) := by decide +kernel
theorem pa_146_106 : pz_at 146 106 = some (106, .iload_n 1, 1, 0, 0, 0) := by decide +kernel
theorem pa_146_107 : pz_at 146 107 = some (107, .iaload, 1, 0, 0, 0) := by decide +kernel
theorem pa_146_108 : pz_at 146 108 = some (108, .goto 4, 3, 112, 0, 0) := by decide +kernel
theorem pa_146_11 : pz_at 146 11 = some (11, .tableswitch 164 0 7 #[45, 52, 59, 74, 81, 102, 116, 149], 45, 0, 0, 0) := by decide +kernel
theorem pa_146_111 : pz_at 146 111 = some (111, .iconst 0, 1, 0, 0, 0) := by decide +kernel
theorem pa_146_112 : pz_at 146 112 = some (112, .ireturn, 1, 0, 0, 0) := by decide +kernel
theorem pa_146_113 : pz_at 146 113 = some (113, .aload_n 0, 1, 0, 0, 0) := by decide +kernel
theorem pa_146_114 : pz_at 146 114 = some (114, .iload_n 1, 1, 0, 0, 0) := by decide +kernel
theorem pa_146_115 : pz_at 146 115 = some (115, .invokevirtual 262, 3, 144, 1, 1267) := by decide +kernel
theorem pa_146_118 : pz_at 146 118 = some (118, .ifCond .eq 7, 3, 125, 0, 0) := by decide +kernel
theorem pa_146_121 : pz_at 146 121 = some (121, .iconst 1, 1, 0, 0, 0) := by decide +kernel
theorem pa_146_122 : pz_at 146 122 = some (122, .goto 4, 3, 126, 0, 0) := by decide +kernel
theorem pa_146_125 : pz_at 146 125 = some (125, .iconst 0, 1, 0, 0, 0) := by decide +kernel
theorem pa_146_126 : pz_at 146 126 = some (126, .ireturn, 1, 0, 0, 0) := by decide +kernel
theorem pa_146_127 : pz_at 146 127 = some (127, .aload_n 0, 1, 0, 0, 0) := by decide +kernel
theorem pa_146_128 : pz_at 146 128 = some (128, .iload_n 1, 1, 0, 0, 0) := by decide +kernel
theorem pa_146_129 : pz_at 146 129 = some (129, .invokevirtual 262, 3, 144, 1, 1267) := by decide +kernel
theorem pa_146_132 : pz_at 146 132 = some (132, .ifCond .eq 26, 3, 158, 0, 0) := by decide +kernel
theorem pa_146_135 : pz_at 146 135 = some (135, .aload_n 0, 1, 0, 0, 0) := by decide +kernel
theorem pa_146_136 : pz_at 146 136 = some (136, .iload_n 1, 1, 0, 0, 0) := by decide +kernel
theorem pa_146_137 : pz_at 146 137 = some (137, .iconst 0, 1, 0, 0, 0) := by decide +kernel
theorem pa_146_138 : pz_at 146 138 = some (138, .invokevirtual 265, 3, 143, 2, 1271) := by decide +kernel
theorem pa_146_141 : pz_at 146 141 = some (141, .ifCond .ne 17, 3, 158, 0, 0) := by decide +kernel
theorem pa_146_144 : pz_at 146 144 = some (144, .aload_n 0, 1, 0, 0, 0) := by decide +kernel
theorem pa_146_145 : pz_at 146 145 = some (145, .getfield 29, 3, 7, 10, 921) := by decide +kernel
theorem pa_146_148 : pz_at 146 148 = some (148, .iload_n 1, 1, 0, 0, 0) := by decide +kernel
theorem pa_146_149 : pz_at 146 149 = some (149, .iaload, 1, 0, 0, 0) := by decide +kernel
theorem pa_146_150 : pz_at 146 150 = some (150, .iconst 2, 1, 0, 0, 0) := by decide +kernel
theorem pa_146_151 : pz_at 146 151 = some (151, .if_icmp .eq 7, 3, 158, 0, 0) := by decide +kernel
theorem pa_146_154 : pz_at 146 154 = some (154, .iconst 1, 1, 0, 0, 0) := by decide +kernel
theorem pa_146_155 : pz_at 146 155 = some (155, .goto 4, 3, 159, 0, 0) := by decide +kernel
theorem pa_146_158 : pz_at 146 158 = some (158, .iconst 0, 1, 0, 0, 0) := by decide +kernel
theorem pa_146_159 : pz_at 146 159 = some (159, .ireturn, 1, 0, 0, 0) := by decide +kernel
theorem pa_146_160 : pz_at 146 160 = some (160, .aload_n 0, 1, 0, 0, 0) := by decide +kernel
theorem pa_146_161 : pz_at 146 161 = some (161, .getfield 89, 3, 7, 33, 944) := by decide +kernel
theorem pa_146_164 : pz_at 146 164 = some (164, .iload_n 1, 1, 0, 0, 0) := by decide +kernel
theorem pa_146_165 : pz_at 146 165 = some (165, .baload, 1, 0, 0, 0) := by decide +kernel
theorem pa_146_166 : pz_at 146 166 = some (166, .ifCond .eq 7, 3, 173, 0, 0) := by decide +kernel
theorem pa_146_169 : pz_at 146 169 = some (169, .iconst 1, 1, 0, 0, 0) := by decide +kernel
theorem pa_146_170 : pz_at 146 170 = some (170, .goto 4, 3, 174, 0, 0) := by decide +kernel
theorem pa_146_173 : pz_at 146 173 = some (173, .iconst 0, 1, 0, 0, 0) := by decide +kernel
theorem pa_146_174 : pz_at 146 174 = some (174, .ireturn, 1, 0, 0, 0) := by decide +kernel
theorem pa_146_175 : pz_at 146 175 = some (175, .bipush (-2), 2, 0, 0, 0) := by decide +kernel
theorem pa_146_177 : pz_at 146 177 = some (177, .ireturn, 1, 0, 0, 0) := by decide +kernel
theorem pa_146_2 : pz_at 146 2 = some (2, .invokevirtual 269, 3, 145, 1, 1279) := by decide +kernel
theorem pa_146_5 : pz_at 146 5 = some (5, .ifCond .eq 5, 3, 10, 0, 0) := by decide +kernel
theorem pa_146_56 : pz_at 146 56 = some (56, .aload_n 0, 1, 0, 0, 0) := by decide +kernel
theorem pa_146_57 : pz_at 146 57 = some (57, .iload_n 1, 1, 0, 0, 0) := by decide +kernel
theorem pa_146_58 : pz_at 146 58 = some (58, .iconst 0, 1, 0, 0, 0) := by decide +kernel
theorem pa_146_59 : pz_at 146 59 = some (59, .invokevirtual 265, 3, 143, 2, 1271) := by decide +kernel
theorem pa_146_62 : pz_at 146 62 = some (62, .ireturn, 1, 0, 0, 0) := by decide +kernel
theorem pa_146_63 : pz_at 146 63 = some (63, .aload_n 0, 1, 0, 0, 0) := by decide +kernel
theorem pa_146_64 : pz_at 146 64 = some (64, .iload_n 1, 1, 0, 0, 0) := by decide +kernel
theorem pa_146_65 : pz_at 146 65 = some (65, .iconst 1, 1, 0, 0, 0) := by decide +kernel
theorem pa_146_66 : pz_at 146 66 = some (66, .invokevirtual 265, 3, 143, 2, 1271) := by decide +kernel
theorem pa_146_69 : pz_at 146 69 = some (69, .ireturn, 1, 0, 0, 0) := by decide +kernel
theorem pa_146_70 : pz_at 146 70 = some (70, .aload_n 0, 1, 0, 0, 0) := by decide +kernel
theorem pa_146_71 : pz_at 146 71 = some (71, .getfield 92, 3, 7, 34, 945) := by decide +kernel
theorem pa_146_74 : pz_at 146 74 = some (74, .iload_n 1, 1, 0, 0, 0) := by decide +kernel
theorem pa_146_75 : pz_at 146 75 = some (75, .baload, 1, 0, 0, 0) := by decide +kernel
theorem pa_146_76 : pz_at 146 76 = some (76, .ifCond .eq 7, 3, 83, 0, 0) := by decide +kernel
theorem pa_146_79 : pz_at 146 79 = some (79, .iconst 1, 1, 0, 0, 0) := by decide +kernel
theorem pa_146_8 : pz_at 146 8 = some (8, .iconst (-1), 1, 0, 0, 0) := by decide +kernel
theorem pa_146_80 : pz_at 146 80 = some (80, .goto 4, 3, 84, 0, 0) := by decide +kernel
theorem pa_146_83 : pz_at 146 83 = some (83, .iconst 0, 1, 0, 0, 0) := by decide +kernel
theorem pa_146_84 : pz_at 146 84 = some (84, .ireturn, 1, 0, 0, 0) := by decide +kernel
theorem pa_146_85 : pz_at 146 85 = some (85, .aload_n 0, 1, 0, 0, 0) := by decide +kernel
theorem pa_146_86 : pz_at 146 86 = some (86, .getfield 95, 3, 7, 35, 946) := by decide +kernel
theorem pa_146_89 : pz_at 146 89 = some (89, .iload_n 1, 1, 0, 0, 0) := by decide +kernel
theorem pa_146_9 : pz_at 146 9 = some (9, .ireturn, 1, 0, 0, 0) := by decide +kernel
theorem pa_146_90 : pz_at 146 90 = some (90, .iaload, 1, 0, 0, 0) := by decide +kernel
theorem pa_146_91 : pz_at 146 91 = some (91, .ireturn, 1, 0, 0, 0) := by decide +kernel
theorem pa_146_92 : pz_at 146 92 = some (92, .aload_n 0, 1, 0, 0, 0) := by decide +kernel
theorem pa_146_93 : pz_at 146 93 = some (93, .getfield 29, 3, 7, 10, 921) := by decide +kernel
theorem pa_146_96 : pz_at 146 96 = some (96, .iload_n 1, 1, 0, 0, 0) := by decide +kernel
theorem pa_146_97 : pz_at 146 97 = some (97, .iaload, 1, 0, 0, 0) := by decide +kernel
theorem pa_146_98 : pz_at 146 98 = some (98, .iconst 2, 1, 0, 0, 0) := by decide +kernel
theorem pa_146_99 : pz_at 146 99 = some (99, .if_icmp .ne 12, 3, 111, 0, 0) := by decide +kernel
theorem pm_145 : pz_mi 145 = (7, 2, (some .boolean)) := by decide +kernel
theorem pr_146 : (pz_mi 146).2.2 = (some .int) := by decide +kernel
theorem pa_147_0 : pz_at 147 0 = some (0, .aload_n 0, 1, 0, 0, 0) := by decide +kernel
theorem pa_147_1 : pz_at 147 1 = some (1, .iload_n 1, 1, 0, 0, 0) := by decide +kernel
theorem pa_147_10 : pz_at 147 10 = some (10, .iload_n 2, 1, 0, 0, 0) := by decide +kernel
theorem pa_147_11 : pz_at 147 11 = some (11, .i2l, 1, 0, 0, 0) := by decide +kernel
theorem pa_147_12 : pz_at 147 12 = some (12, .lconst 0, 1, 0, 0, 0) := by decide +kernel
theorem pa_147_13 : pz_at 147 13 = some (13, .ldc2_w 180, 3, 3, 0, 1148) := by decide +kernel
theorem pa_147_16 : pz_at 147 16 = some (16, .invokestatic 160, 3, 109, 3, 1129) := by decide +kernel
theorem pa_147_19 : pz_at 147 19 = some (19, .ifCond .eq 8, 3, 27, 0, 0) := by decide +kernel
theorem pa_147_2 : pz_at 147 2 = some (2, .invokevirtual 269, 3, 145, 1, 1279) := by decide +kernel
theorem pa_147_22 : pz_at 147 22 = some (22, .bipush (-2), 2, 0, 0, 0) := by decide +kernel
theorem pa_147_24 : pz_at 147 24 = some (24, .goto 30, 3, 54, 0, 0) := by decide +kernel
theorem pa_147_27 : pz_at 147 27 = some (27, .iload_n 3, 1, 0, 0, 0) := by decide +kernel
theorem pa_147_28 : pz_at 147 28 = some (28, .ifCond .eq 16, 3, 44, 0, 0) := by decide +kernel
theorem pa_147_31 : pz_at 147 31 = some (31, .aload_n 0, 1, 0, 0, 0) := by decide +kernel
theorem pa_147_32 : pz_at 147 32 = some (32, .getfield 104, 3, 7, 38, 949) := by decide +kernel
theorem pa_147_35 : pz_at 147 35 = some (35, .iconst 4, 1, 0, 0, 0) := by decide +kernel
theorem pa_147_36 : pz_at 147 36 = some (36, .iload_n 1, 1, 0, 0, 0) := by decide +kernel
theorem pa_147_37 : pz_at 147 37 = some (37, .imul, 1, 0, 0, 0) := by decide +kernel
theorem pa_147_38 : pz_at 147 38 = some (38, .iload_n 2, 1, 0, 0, 0) := by decide +kernel
theorem pa_147_39 : pz_at 147 39 = some (39, .iadd, 1, 0, 0, 0) := by decide +kernel
theorem pa_147_40 : pz_at 147 40 = some (40, .iaload, 1, 0, 0, 0) := by decide +kernel
theorem pa_147_41 : pz_at 147 41 = some (41, .goto 13, 3, 54, 0, 0) := by decide +kernel
theorem pa_147_44 : pz_at 147 44 = some (44, .aload_n 0, 1, 0, 0, 0) := by decide +kernel
theorem pa_147_45 : pz_at 147 45 = some (45, .getfield 101, 3, 7, 37, 948) := by decide +kernel
theorem pa_147_48 : pz_at 147 48 = some (48, .iconst 4, 1, 0, 0, 0) := by decide +kernel
theorem pa_147_49 : pz_at 147 49 = some (49, .iload_n 1, 1, 0, 0, 0) := by decide +kernel
theorem pa_147_5 : pz_at 147 5 = some (5, .ifCond .eq 5, 3, 10, 0, 0) := by decide +kernel
theorem pa_147_50 : pz_at 147 50 = some (50, .imul, 1, 0, 0, 0) := by decide +kernel
theorem pa_147_51 : pz_at 147 51 = some (51, .iload_n 2, 1, 0, 0, 0) := by decide +kernel
theorem pa_147_52 : pz_at 147 52 = some (52, .iadd, 1, 0, 0, 0) := by decide +kernel
theorem pa_147_53 : pz_at 147 53 = some (53, .iaload, 1, 0, 0, 0) := by decide +kernel
theorem pa_147_54 : pz_at 147 54 = some (54, .ireturn, 1, 0, 0, 0) := by decide +kernel
theorem pa_147_8 : pz_at 147 8 = some (8, .iconst (-1), 1, 0, 0, 0) := by decide +kernel
theorem pa_147_9 : pz_at 147 9 = some (9, .ireturn, 1, 0, 0, 0) := by decide +kernel
theorem pr_147 : (pz_mi 147).2.2 = (some .int) := by decide +kernel
theorem pa_148_0 : pz_at 148 0 = some (0, .aload_n 0, 1, 0, 0, 0) := by decide +kernel
theorem pa_148_1 : pz_at 148 1 = some (1, .iload_n 1, 1, 0, 0, 0) := by decide +kernel
theorem pa_148_10 : pz_at 148 10 = some (10, .lconst 0, 1, 0, 0, 0) := by decide +kernel
theorem pa_148_11 : pz_at 148 11 = some (11, .aload_n 0, 1, 0, 0, 0) := by decide +kernel
theorem pa_148_12 : pz_at 148 12 = some (12, .getfield 32, 3, 7, 11, 922) := by decide +kernel
theorem pa_148_15 : pz_at 148 15 = some (15, .iload_n 1, 1, 0, 0, 0) := by decide +kernel
theorem pa_148_16 : pz_at 148 16 = some (16, .iaload, 1, 0, 0, 0) := by decide +kernel
theorem pa_148_17 : pz_at 148 17 = some (17, .iconst 1, 1, 0, 0, 0) := by decide +kernel
theorem pa_148_18 : pz_at 148 18 = some (18, .isub, 1, 0, 0, 0) := by decide +kernel
theorem pa_148_19 : pz_at 148 19 = some (19, .i2l, 1, 0, 0, 0) := by decide +kernel
theorem pa_148_2 : pz_at 148 2 = some (2, .invokevirtual 269, 3, 145, 1, 1279) := by decide +kernel
theorem pa_148_20 : pz_at 148 20 = some (20, .invokestatic 160, 3, 109, 3, 1129) := by decide +kernel
theorem pa_148_23 : pz_at 148 23 = some (23, .ifCond .ne 15, 3, 38, 0, 0) := by decide +kernel
theorem pa_148_26 : pz_at 148 26 = some (26, .iload_n 3, 1, 0, 0, 0) := by decide +kernel
theorem pa_148_27 : pz_at 148 27 = some (27, .i2l, 1, 0, 0, 0) := by decide +kernel
theorem pa_148_28 : pz_at 148 28 = some (28, .lconst 0, 1, 0, 0, 0) := by decide +kernel
theorem pa_148_29 : pz_at 148 29 = some (29, .ldc2_w 187, 3, 7, 0, 1162) := by decide +kernel
theorem pa_148_32 : pz_at 148 32 = some (32, .invokestatic 160, 3, 109, 3, 1129) := by decide +kernel
theorem pa_148_35 : pz_at 148 35 = some (35, .ifCond .eq 5, 3, 40, 0, 0) := by decide +kernel
theorem pa_148_38 : pz_at 148 38 = some (38, .iconst (-1), 1, 0, 0, 0) := by decide +kernel
theorem pa_148_39 : pz_at 148 39 = some (39, .ireturn, 1, 0, 0, 0) := by decide +kernel
theorem pa_148_40 : pz_at 148 40 = some (40, .aload_n 0, 1, 0, 0, 0) := by decide +kernel
theorem pa_148_41 : pz_at 148 41 = some (41, .getfield 83, 3, 7, 31, 942) := by decide +kernel
theorem pa_148_44 : pz_at 148 44 = some (44, .bipush 8, 2, 0, 0, 0) := by decide +kernel
theorem pa_148_46 : pz_at 148 46 = some (46, .bipush 25, 2, 0, 0, 0) := by decide +kernel
theorem pa_148_48 : pz_at 148 48 = some (48, .iload_n 1, 1, 0, 0, 0) := by decide +kernel
theorem pa_148_49 : pz_at 148 49 = some (49, .imul, 1, 0, 0, 0) := by decide +kernel
theorem pa_148_5 : pz_at 148 5 = some (5, .ifCond .ne 33, 3, 38, 0, 0) := by decide +kernel
theorem pa_148_50 : pz_at 148 50 = some (50, .iload_n 2, 1, 0, 0, 0) := by decide +kernel
theorem pa_148_51 : pz_at 148 51 = some (51, .iadd, 1, 0, 0, 0) := by decide +kernel
theorem pa_148_52 : pz_at 148 52 = some (52, .imul, 1, 0, 0, 0) := by decide +kernel
theorem pa_148_53 : pz_at 148 53 = some (53, .iload_n 3, 1, 0, 0, 0) := by decide +kernel
theorem pa_148_54 : pz_at 148 54 = some (54, .iadd, 1, 0, 0, 0) := by decide +kernel
theorem pa_148_55 : pz_at 148 55 = some (55, .iaload, 1, 0, 0, 0) := by decide +kernel
theorem pa_148_56 : pz_at 148 56 = some (56, .ireturn, 1, 0, 0, 0) := by decide +kernel
theorem pa_148_8 : pz_at 148 8 = some (8, .iload_n 2, 1, 0, 0, 0) := by decide +kernel
theorem pa_148_9 : pz_at 148 9 = some (9, .i2l, 1, 0, 0, 0) := by decide +kernel
theorem pr_148 : (pz_mi 148).2.2 = (some .int) := by decide +kernel
theorem pa_149_0 : pz_at 149 0 = some (0, .aload_n 0, 1, 0, 0, 0) := by decide +kernel
theorem pa_149_1 : pz_at 149 1 = some (1, .iload_n 1, 1, 0, 0, 0) := by decide +kernel
theorem pa_149_10 : pz_at 149 10 = some (10, .invokevirtual 269, 3, 145, 1, 1279) := by decide +kernel
theorem pa_149_13 : pz_at 149 13 = some (13, .ifCond .eq 5, 3, 18, 0, 0) := by decide +kernel
theorem pa_149_16 : pz_at 149 16 = some (16, .iconst (-1), 1, 0, 0, 0) := by decide +kernel
theorem pa_149_17 : pz_at 149 17 = some (17, .ireturn, 1, 0, 0, 0) := by decide +kernel
theorem pa_149_18 : pz_at 149 18 = some (18, .aload_n 0, 1, 0, 0, 0) := by decide +kernel
theorem pa_149_19 : pz_at 149 19 = some (19, .iload_n 1, 1, 0, 0, 0) := by decide +kernel
theorem pa_149_2 : pz_at 149 2 = some (2, .invokevirtual 269, 3, 145, 1, 1279) := by decide +kernel
theorem pa_149_20 : pz_at 149 20 = some (20, .iconst 1, 1, 0, 0, 0) := by decide +kernel
theorem pa_149_21 : pz_at 149 21 = some (21, .invokevirtual 265, 3, 143, 2, 1271) := by decide +kernel
theorem pa_149_24 : pz_at 149 24 = some (24, .aload_n 0, 1, 0, 0, 0) := by decide +kernel
theorem pa_149_25 : pz_at 149 25 = some (25, .iload_n 2, 1, 0, 0, 0) := by decide +kernel
theorem pa_149_26 : pz_at 149 26 = some (26, .iconst 0, 1, 0, 0, 0) := by decide +kernel
theorem pa_149_27 : pz_at 149 27 = some (27, .invokevirtual 265, 3, 143, 2, 1271) := by decide +kernel
theorem pa_149_30 : pz_at 149 30 = some (30, .aload_n 0, 1, 0, 0, 0) := by decide +kernel
theorem pa_149_31 : pz_at 149 31 = some (31, .iload_n 2, 1, 0, 0, 0) := by decide +kernel
theorem pa_149_32 : pz_at 149 32 = some (32, .iconst 1, 1, 0, 0, 0) := by decide +kernel
theorem pa_149_33 : pz_at 149 33 = some (33, .invokevirtual 265, 3, 143, 2, 1271) := by decide +kernel
theorem pa_149_36 : pz_at 149 36 = some (36, .ior, 1, 0, 0, 0) := by decide +kernel
theorem pa_149_37 : pz_at 149 37 = some (37, .iand, 1, 0, 0, 0) := by decide +kernel
theorem pa_149_38 : pz_at 149 38 = some (38, .ifCond .ne 23, 3, 61, 0, 0) := by decide +kernel
theorem pa_149_41 : pz_at 149 41 = some (41, .aload_n 0, 1, 0, 0, 0) := by decide +kernel
theorem pa_149_42 : pz_at 149 42 = some (42, .iload_n 2, 1, 0, 0, 0) := by decide +kernel
theorem pa_149_43 : pz_at 149 43 = some (43, .iconst 1, 1, 0, 0, 0) := by decide +kernel
theorem pa_149_44 : pz_at 149 44 = some (44, .invokevirtual 265, 3, 143, 2, 1271) := by decide +kernel
theorem pa_149_47 : pz_at 149 47 = some (47, .aload_n 0, 1, 0, 0, 0) := by decide +kernel
theorem pa_149_48 : pz_at 149 48 = some (48, .iload_n 1, 1, 0, 0, 0) := by decide +kernel
theorem pa_149_49 : pz_at 149 49 = some (49, .iconst 0, 1, 0, 0, 0) := by decide +kernel
theorem pa_149_5 : pz_at 149 5 = some (5, .ifCond .ne 11, 3, 16, 0, 0) := by decide +kernel
theorem pa_149_50 : pz_at 149 50 = some (50, .invokevirtual 265, 3, 143, 2, 1271) := by decide +kernel
theorem pa_149_53 : pz_at 149 53 = some (53, .iand, 1, 0, 0, 0) := by decide +kernel
theorem pa_149_54 : pz_at 149 54 = some (54, .ifCond .ne 7, 3, 61, 0, 0) := by decide +kernel
theorem pa_149_57 : pz_at 149 57 = some (57, .iconst 1, 1, 0, 0, 0) := by decide +kernel
theorem pa_149_58 : pz_at 149 58 = some (58, .goto 4, 3, 62, 0, 0) := by decide +kernel
theorem pa_149_61 : pz_at 149 61 = some (61, .iconst 0, 1, 0, 0, 0) := by decide +kernel
theorem pa_149_62 : pz_at 149 62 = some (62, .istore_n 3, 1, 0, 0, 0) := by decide +kernel
theorem pa_149_63 : pz_at 149 63 = some (63, .iload_n 3, 1, 0, 0, 0) := by decide +kernel
theorem pa_149_64 : pz_at 149 64 = some (64, .ifCond .eq 25, 3, 89, 0, 0) := by decide +kernel
theorem pa_149_67 : pz_at 149 67 = some (67, .aload_n 0, 1, 0, 0, 0) := by decide +kernel
theorem pa_149_68 : pz_at 149 68 = some (68, .getfield 92, 3, 7, 34, 945) := by decide +kernel
theorem pa_149_71 : pz_at 149 71 = some (71, .iload_n 1, 1, 0, 0, 0) := by decide +kernel
theorem pa_149_72 : pz_at 149 72 = some (72, .baload, 1, 0, 0, 0) := by decide +kernel
theorem pa_149_73 : pz_at 149 73 = some (73, .ifCond .eq 12, 3, 85, 0, 0) := by decide +kernel
theorem pa_149_76 : pz_at 149 76 = some (76, .aload_n 0, 1, 0, 0, 0) := by decide +kernel
theorem pa_149_77 : pz_at 149 77 = some (77, .getfield 92, 3, 7, 34, 945) := by decide +kernel
theorem pa_149_8 : pz_at 149 8 = some (8, .aload_n 0, 1, 0, 0, 0) := by decide +kernel
theorem pa_149_80 : pz_at 149 80 = some (80, .iload_n 2, 1, 0, 0, 0) := by decide +kernel
theorem pa_149_81 : pz_at 149 81 = some (81, .baload, 1, 0, 0, 0) := by decide +kernel
theorem pa_149_82 : pz_at 149 82 = some (82, .ifCond .ne 7, 3, 89, 0, 0) := by decide +kernel
theorem pa_149_85 : pz_at 149 85 = some (85, .iconst 1, 1, 0, 0, 0) := by decide +kernel
theorem pa_149_86 : pz_at 149 86 = some (86, .goto 4, 3, 90, 0, 0) := by decide +kernel
theorem pa_149_89 : pz_at 149 89 = some (89, .iconst 0, 1, 0, 0, 0) := by decide +kernel
theorem pa_149_9 : pz_at 149 9 = some (9, .iload_n 2, 1, 0, 0, 0) := by decide +kernel
theorem pa_149_90 : pz_at 149 90 = some (90, .ireturn, 1, 0, 0, 0) := by decide +kernel
theorem pr_149 : (pz_mi 149).2.2 = (some .int) := by decide +kernel
theorem pa_150_0 : pz_at 150 0 = some (0, .aload_n 0, 1, 0, 0, 0) := by decide +kernel
theorem pa_150_1 : pz_at 150 1 = some (1, .getfield 272, 3, 7, 41, 952) := by decide +kernel
theorem pa_150_10 : pz_at 150 10 = some (10, .iconst 1, 1, 0, 0, 0) := by decide +kernel
theorem pa_150_11 : pz_at 150 11 = some (11, .putfield 275, 3, 7, 46, 957) := by decide +kernel
theorem pa_150_14 : pz_at 150 14 = some (14, .iconst 0, 1, 0, 0, 0) := by decide +kernel
theorem pa_150_15 : pz_at 150 15 = some (15, .ireturn, 1, 0, 0, 0) := by decide +kernel
theorem pa_150_16 : pz_at 150 16 = some (16, .aload_n 0, 1, 0, 0, 0) := by decide +kernel
theorem pa_150_17 : pz_at 150 17 = some (17, .getfield 110, 3, 7, 42, 953) := by decide +kernel
theorem pa_150_20 : pz_at 150 20 = some (20, .aload_n 0, 1, 0, 0, 0) := by decide +kernel
theorem pa_150_21 : pz_at 150 21 = some (21, .getfield 272, 3, 7, 41, 952) := by decide +kernel
theorem pa_150_24 : pz_at 150 24 = some (24, .iload_n 1, 1, 0, 0, 0) := by decide +kernel
theorem pa_150_25 : pz_at 150 25 = some (25, .iastore, 1, 0, 0, 0) := by decide +kernel
theorem pa_150_26 : pz_at 150 26 = some (26, .aload_n 0, 1, 0, 0, 0) := by decide +kernel
theorem pa_150_27 : pz_at 150 27 = some (27, .getfield 113, 3, 7, 43, 954) := by decide +kernel
theorem pa_150_30 : pz_at 150 30 = some (30, .aload_n 0, 1, 0, 0, 0) := by decide +kernel
theorem pa_150_31 : pz_at 150 31 = some (31, .getfield 272, 3, 7, 41, 952) := by decide +kernel
theorem pa_150_34 : pz_at 150 34 = some (34, .iconst 0, 1, 0, 0, 0) := by decide +kernel
theorem pa_150_35 : pz_at 150 35 = some (35, .iastore, 1, 0, 0, 0) := by decide +kernel
theorem pa_150_36 : pz_at 150 36 = some (36, .iconst 0, 1, 0, 0, 0) := by decide +kernel
theorem pa_150_37 : pz_at 150 37 = some (37, .istore_n 2, 1, 0, 0, 0) := by decide +kernel
theorem pa_150_38 : pz_at 150 38 = some (38, .iload_n 2, 1, 0, 0, 0) := by decide +kernel
theorem pa_150_39 : pz_at 150 39 = some (39, .bipush 8, 2, 0, 0, 0) := by decide +kernel
theorem pa_150_4 : pz_at 150 4 = some (4, .bipush 12, 2, 0, 0, 0) := by decide +kernel
theorem pa_150_41 : pz_at 150 41 = some (41, .if_icmp .ge 39, 3, 80, 0, 0) := by decide +kernel
theorem pa_150_44 : pz_at 150 44 = some (44, .aload_n 0, 1, 0, 0, 0) := by decide +kernel
theorem pa_150_45 : pz_at 150 45 = some (45, .getfield 116, 3, 7, 44, 955) := by decide +kernel
theorem pa_150_48 : pz_at 150 48 = some (48, .bipush 8, 2, 0, 0, 0) := by decide +kernel
theorem pa_150_50 : pz_at 150 50 = some (50, .aload_n 0, 1, 0, 0, 0) := by decide +kernel
theorem pa_150_51 : pz_at 150 51 = some (51, .getfield 272, 3, 7, 41, 952) := by decide +kernel
theorem pa_150_54 : pz_at 150 54 = some (54, .imul, 1, 0, 0, 0) := by decide +kernel
theorem pa_150_55 : pz_at 150 55 = some (55, .iload_n 2, 1, 0, 0, 0) := by decide +kernel
theorem pa_150_56 : pz_at 150 56 = some (56, .iadd, 1, 0, 0, 0) := by decide +kernel
theorem pa_150_57 : pz_at 150 57 = some (57, .iconst 0, 1, 0, 0, 0) := by decide +kernel
theorem pa_150_58 : pz_at 150 58 = some (58, .iastore, 1, 0, 0, 0) := by decide +kernel
theorem pa_150_59 : pz_at 150 59 = some (59, .aload_n 0, 1, 0, 0, 0) := by decide +kernel
theorem pa_150_6 : pz_at 150 6 = some (6, .if_icmp .ne 10, 3, 16, 0, 0) := by decide +kernel
theorem pa_150_60 : pz_at 150 60 = some (60, .getfield 119, 3, 7, 45, 956) := by decide +kernel
theorem pa_150_63 : pz_at 150 63 = some (63, .bipush 8, 2, 0, 0, 0) := by decide +kernel
theorem pa_150_65 : pz_at 150 65 = some (65, .aload_n 0, 1, 0, 0, 0) := by decide +kernel
theorem pa_150_66 : pz_at 150 66 = some (66, .getfield 272, 3, 7, 41, 952) := by decide +kernel
theorem pa_150_69 : pz_at 150 69 = some (69, .imul, 1, 0, 0, 0) := by decide +kernel
theorem pa_150_70 : pz_at 150 70 = some (70, .iload_n 2, 1, 0, 0, 0) := by decide +kernel
theorem pa_150_71 : pz_at 150 71 = some (71, .iadd, 1, 0, 0, 0) := by decide +kernel
theorem pa_150_72 : pz_at 150 72 = some (72, .iconst (-1), 1, 0, 0, 0) := by decide +kernel
theorem pa_150_73 : pz_at 150 73 = some (73, .iastore, 1, 0, 0, 0) := by decide +kernel
theorem pa_150_74 : pz_at 150 74 = some (74, .iinc 2 1, 3, 0, 0, 0) := by decide +kernel
theorem pa_150_77 : pz_at 150 77 = some (77, .goto (-39), 3, 38, 0, 0) := by decide +kernel
theorem pa_150_80 : pz_at 150 80 = some (80, .aload_n 0, 1, 0, 0, 0) := by decide +kernel
theorem pa_150_81 : pz_at 150 81 = some (81, .dup, 1, 0, 0, 0) := by decide +kernel
theorem pa_150_82 : pz_at 150 82 = some (82, .getfield 272, 3, 7, 41, 952) := by decide +kernel
theorem pa_150_85 : pz_at 150 85 = some (85, .iconst 1, 1, 0, 0, 0) := by decide +kernel
theorem pa_150_86 : pz_at 150 86 = some (86, .iadd, 1, 0, 0, 0) := by decide +kernel
theorem pa_150_87 : pz_at 150 87 = some (87, .putfield 272, 3, 7, 41, 952) := by decide +kernel
theorem pa_150_9 : pz_at 150 9 = some (9, .aload_n 0, 1, 0, 0, 0) := by decide +kernel
theorem pa_150_90 : pz_at 150 90 = some (90, .iconst 1, 1, 0, 0, 0) := by decide +kernel
theorem pa_150_91 : pz_at 150 91 = some (91, .ireturn, 1, 0, 0, 0) := by decide +kernel
theorem pf_55_7_41 : pz_gf 55 7 41 = some none := by decide +kernel
theorem pf_55_7_42 : pz_gf 55 7 42 = some (some 89) := by decide +kernel
theorem pf_55_7_43 : pz_gf 55 7 43 = some (some 90) := by decide +kernel
theorem pf_55_7_44 : pz_gf 55 7 44 = some (some 91) := by decide +kernel
theorem pf_55_7_45 : pz_gf 55 7 45 = some (some 92) := by decide +kernel
theorem pf_55_7_46 : pz_gf 55 7 46 = some none := by decide +kernel
theorem pg_89 : pz_ga 89 = some (.int, 12) := by decide +kernel
theorem pg_90 : pz_ga 90 = some (.int, 12) := by decide +kernel
theorem pg_91 : pz_ga 91 = some (.int, 96) := by decide +kernel
theorem pg_92 : pz_ga 92 = some (.int, 96) := by decide +kernel
theorem pr_150 : (pz_mi 150).2.2 = (some .boolean) := by decide +kernel
theorem pa_151_0 : pz_at 151 0 = some (0, .aload_n 0, 1, 0, 0, 0) := by decide +kernel
theorem pa_151_1 : pz_at 151 1 = some (1, .getfield 110, 3, 7, 42, 953) := by decide +kernel
theorem pa_151_10 : pz_at 151 10 = some (10, .iaload, 1, 0, 0, 0) := by decide +kernel
theorem pa_151_101 : pz_at 151 101 = some (101, .iload 4, 2, 0, 0, 0) := by decide +kernel
theorem pa_151_103 : pz_at 151 103 = some (103, .iaload, 1, 0, 0, 0) := by decide +kernel
theorem pa_151_104 : pz_at 151 104 = some (104, .iadd, 1, 0, 0, 0) := by decide +kernel
theorem pa_151_105 : pz_at 151 105 = some (105, .iload_n 1, 1, 0, 0, 0) := by decide +kernel
theorem pa_151_106 : pz_at 151 106 = some (106, .iastore, 1, 0, 0, 0) := by decide +kernel
theorem pa_151_107 : pz_at 151 107 = some (107, .goto 31, 3, 138, 0, 0) := by decide +kernel
theorem pa_151_11 : pz_at 151 11 = some (11, .istore_n 2, 1, 0, 0, 0) := by decide +kernel
theorem pa_151_110 : pz_at 151 110 = some (110, .aload_n 0, 1, 0, 0, 0) := by decide +kernel
theorem pa_151_111 : pz_at 151 111 = some (111, .getfield 29, 3, 7, 10, 921) := by decide +kernel
theorem pa_151_114 : pz_at 151 114 = some (114, .iload_n 2, 1, 0, 0, 0) := by decide +kernel
theorem pa_151_115 : pz_at 151 115 = some (115, .iaload, 1, 0, 0, 0) := by decide +kernel
theorem pa_151_116 : pz_at 151 116 = some (116, .iconst 2, 1, 0, 0, 0) := by decide +kernel
theorem pa_151_117 : pz_at 151 117 = some (117, .if_icmp .ne 21, 3, 138, 0, 0) := by decide +kernel
theorem pa_151_12 : pz_at 151 12 = some (12, .aload_n 0, 1, 0, 0, 0) := by decide +kernel
theorem pa_151_120 : pz_at 151 120 = some (120, .aload_n 0, 1, 0, 0, 0) := by decide +kernel
theorem pa_151_121 : pz_at 151 121 = some (121, .getfield 119, 3, 7, 45, 956) := by decide +kernel
theorem pa_151_124 : pz_at 151 124 = some (124, .bipush 8, 2, 0, 0, 0) := by decide +kernel
theorem pa_151_126 : pz_at 151 126 = some (126, .iload_n 3, 1, 0, 0, 0) := by decide +kernel
theorem pa_151_127 : pz_at 151 127 = some (127, .imul, 1, 0, 0, 0) := by decide +kernel
theorem pa_151_128 : pz_at 151 128 = some (128, .aload_n 0, 1, 0, 0, 0) := by decide +kernel
theorem pa_151_129 : pz_at 151 129 = some (129, .getfield 44, 3, 7, 15, 926) := by decide +kernel
theorem pa_151_13 : pz_at 151 13 = some (13, .dup, 1, 0, 0, 0) := by decide +kernel
theorem pa_151_132 : pz_at 151 132 = some (132, .iload 4, 2, 0, 0, 0) := by decide +kernel
theorem pa_151_134 : pz_at 151 134 = some (134, .iaload, 1, 0, 0, 0) := by decide +kernel
theorem pa_151_135 : pz_at 151 135 = some (135, .iadd, 1, 0, 0, 0) := by decide +kernel
theorem pa_151_136 : pz_at 151 136 = some (136, .iload_n 1, 1, 0, 0, 0) := by decide +kernel
theorem pa_151_137 : pz_at 151 137 = some (137, .iastore, 1, 0, 0, 0) := by decide +kernel
theorem pa_151_138 : pz_at 151 138 = some (138, .aload_n 0, 1, 0, 0, 0) := by decide +kernel
theorem pa_151_139 : pz_at 151 139 = some (139, .getfield 113, 3, 7, 43, 954) := by decide +kernel
theorem pa_151_14 : pz_at 151 14 = some (14, .getfield 272, 3, 7, 41, 952) := by decide +kernel
theorem pa_151_142 : pz_at 151 142 = some (142, .iload_n 3, 1, 0, 0, 0) := by decide +kernel
theorem pa_151_143 : pz_at 151 143 = some (143, .dup2, 1, 0, 0, 0) := by decide +kernel
theorem pa_151_144 : pz_at 151 144 = some (144, .iaload, 1, 0, 0, 0) := by decide +kernel
theorem pa_151_145 : pz_at 151 145 = some (145, .iconst 1, 1, 0, 0, 0) := by decide +kernel
theorem pa_151_146 : pz_at 151 146 = some (146, .iadd, 1, 0, 0, 0) := by decide +kernel
theorem pa_151_147 : pz_at 151 147 = some (147, .iastore, 1, 0, 0, 0) := by decide +kernel
theorem pa_151_148 : pz_at 151 148 = some (148, .return_, 1, 0, 0, 0) := by decide +kernel
theorem pa_151_17 : pz_at 151 17 = some (17, .iconst 1, 1, 0, 0, 0) := by decide +kernel
theorem pa_151_18 : pz_at 151 18 = some (18, .isub, 1, 0, 0, 0) := by decide +kernel
theorem pa_151_19 : pz_at 151 19 = some (19, .putfield 272, 3, 7, 41, 952) := by decide +kernel
theorem pa_151_22 : pz_at 151 22 = some (22, .aload_n 0, 1, 0, 0, 0) := by decide +kernel
theorem pa_151_23 : pz_at 151 23 = some (23, .getfield 272, 3, 7, 41, 952) := by decide +kernel
theorem pa_151_26 : pz_at 151 26 = some (26, .ifCond .ne 28, 3, 54, 0, 0) := by decide +kernel
theorem pa_151_29 : pz_at 151 29 = some (29, .aload_n 0, 1, 0, 0, 0) := by decide +kernel
theorem pa_151_30 : pz_at 151 30 = some (30, .iload_n 1, 1, 0, 0, 0) := by decide +kernel
theorem pa_151_31 : pz_at 151 31 = some (31, .putfield 278, 3, 7, 52, 963) := by decide +kernel
theorem pa_151_34 : pz_at 151 34 = some (34, .aload_n 0, 1, 0, 0, 0) := by decide +kernel
theorem pa_151_35 : pz_at 151 35 = some (35, .aload_n 0, 1, 0, 0, 0) := by decide +kernel
theorem pa_151_36 : pz_at 151 36 = some (36, .getfield 29, 3, 7, 10, 921) := by decide +kernel
theorem pa_151_39 : pz_at 151 39 = some (39, .iload_n 2, 1, 0, 0, 0) := by decide +kernel
theorem pa_151_4 : pz_at 151 4 = some (4, .aload_n 0, 1, 0, 0, 0) := by decide +kernel
theorem pa_151_40 : pz_at 151 40 = some (40, .iaload, 1, 0, 0, 0) := by decide +kernel
theorem pa_151_41 : pz_at 151 41 = some (41, .iconst 2, 1, 0, 0, 0) := by decide +kernel
theorem pa_151_42 : pz_at 151 42 = some (42, .if_icmp .ne 7, 3, 49, 0, 0) := by decide +kernel
theorem pa_151_45 : pz_at 151 45 = some (45, .iconst 1, 1, 0, 0, 0) := by decide +kernel
theorem pa_151_46 : pz_at 151 46 = some (46, .goto 4, 3, 50, 0, 0) := by decide +kernel
theorem pa_151_49 : pz_at 151 49 = some (49, .iconst 0, 1, 0, 0, 0) := by decide +kernel
theorem pa_151_5 : pz_at 151 5 = some (5, .getfield 272, 3, 7, 41, 952) := by decide +kernel
theorem pa_151_50 : pz_at 151 50 = some (50, .putfield 281, 3, 7, 53, 964) := by decide +kernel
theorem pa_151_53 : pz_at 151 53 = some (53, .return_, 1, 0, 0, 0) := by decide +kernel
theorem pa_151_54 : pz_at 151 54 = some (54, .aload_n 0, 1, 0, 0, 0) := by decide +kernel
theorem pa_151_55 : pz_at 151 55 = some (55, .getfield 272, 3, 7, 41, 952) := by decide +kernel
theorem pa_151_58 : pz_at 151 58 = some (58, .iconst 1, 1, 0, 0, 0) := by decide +kernel
theorem pa_151_59 : pz_at 151 59 = some (59, .isub, 1, 0, 0, 0) := by decide +kernel
theorem pa_151_60 : pz_at 151 60 = some (60, .istore_n 3, 1, 0, 0, 0) := by decide +kernel
theorem pa_151_61 : pz_at 151 61 = some (61, .bipush 24, 2, 0, 0, 0) := by decide +kernel
theorem pa_151_63 : pz_at 151 63 = some (63, .aload_n 0, 1, 0, 0, 0) := by decide +kernel
theorem pa_151_64 : pz_at 151 64 = some (64, .getfield 110, 3, 7, 42, 953) := by decide +kernel
theorem pa_151_67 : pz_at 151 67 = some (67, .iload_n 3, 1, 0, 0, 0) := by decide +kernel
theorem pa_151_68 : pz_at 151 68 = some (68, .iaload, 1, 0, 0, 0) := by decide +kernel
theorem pa_151_69 : pz_at 151 69 = some (69, .imul, 1, 0, 0, 0) := by decide +kernel
theorem pa_151_70 : pz_at 151 70 = some (70, .aload_n 0, 1, 0, 0, 0) := by decide +kernel
theorem pa_151_71 : pz_at 151 71 = some (71, .getfield 113, 3, 7, 43, 954) := by decide +kernel
theorem pa_151_74 : pz_at 151 74 = some (74, .iload_n 3, 1, 0, 0, 0) := by decide +kernel
theorem pa_151_75 : pz_at 151 75 = some (75, .iaload, 1, 0, 0, 0) := by decide +kernel
theorem pa_151_76 : pz_at 151 76 = some (76, .iadd, 1, 0, 0, 0) := by decide +kernel
theorem pa_151_77 : pz_at 151 77 = some (77, .istore 4, 2, 0, 0, 0) := by decide +kernel
theorem pa_151_79 : pz_at 151 79 = some (79, .aload_n 0, 1, 0, 0, 0) := by decide +kernel
theorem pa_151_8 : pz_at 151 8 = some (8, .iconst 1, 1, 0, 0, 0) := by decide +kernel
theorem pa_151_80 : pz_at 151 80 = some (80, .getfield 29, 3, 7, 10, 921) := by decide +kernel
theorem pa_151_83 : pz_at 151 83 = some (83, .iload_n 2, 1, 0, 0, 0) := by decide +kernel
theorem pa_151_84 : pz_at 151 84 = some (84, .iaload, 1, 0, 0, 0) := by decide +kernel
theorem pa_151_85 : pz_at 151 85 = some (85, .iconst 1, 1, 0, 0, 0) := by decide +kernel
theorem pa_151_86 : pz_at 151 86 = some (86, .if_icmp .ne 24, 3, 110, 0, 0) := by decide +kernel
theorem pa_151_89 : pz_at 151 89 = some (89, .aload_n 0, 1, 0, 0, 0) := by decide +kernel
theorem pa_151_9 : pz_at 151 9 = some (9, .isub, 1, 0, 0, 0) := by decide +kernel
theorem pa_151_90 : pz_at 151 90 = some (90, .getfield 116, 3, 7, 44, 955) := by decide +kernel
theorem pa_151_93 : pz_at 151 93 = some (93, .bipush 8, 2, 0, 0, 0) := by decide +kernel
theorem pa_151_95 : pz_at 151 95 = some (95, .iload_n 3, 1, 0, 0, 0) := by decide +kernel
theorem pa_151_96 : pz_at 151 96 = some (96, .imul, 1, 0, 0, 0) := by decide +kernel
theorem pa_151_97 : pz_at 151 97 = some (97, .aload_n 0, 1, 0, 0, 0) := by decide +kernel
theorem pa_151_98 : pz_at 151 98 = some (98, .getfield 38, 3, 7, 13, 924) := by decide +kernel
theorem pf_55_7_52 : pz_gf 55 7 52 = some none := by decide +kernel
theorem pf_55_7_53 : pz_gf 55 7 53 = some none := by decide +kernel
theorem pr_151 : (pz_mi 151).2.2 = none := by decide +kernel
theorem pa_152_0 : pz_at 152 0 = some (0, .aload_n 0, 1, 0, 0, 0) := by decide +kernel
theorem pa_152_1 : pz_at 152 1 = some (1, .getfield 272, 3, 7, 41, 952) := by decide +kernel
theorem pa_152_12 : pz_at 152 12 = some (12, .iconst 1, 1, 0, 0, 0) := by decide +kernel
theorem pa_152_13 : pz_at 152 13 = some (13, .iadd, 1, 0, 0, 0) := by decide +kernel
theorem pa_152_14 : pz_at 152 14 = some (14, .putfield 284, 3, 7, 48, 959) := by decide +kernel
theorem pa_152_17 : pz_at 152 17 = some (17, .aload_n 0, 1, 0, 0, 0) := by decide +kernel
theorem pa_152_18 : pz_at 152 18 = some (18, .getfield 284, 3, 7, 48, 959) := by decide +kernel
theorem pa_152_21 : pz_at 152 21 = some (21, .bipush 40, 2, 0, 0, 0) := by decide +kernel
theorem pa_152_23 : pz_at 152 23 = some (23, .if_icmp .le 9, 3, 32, 0, 0) := by decide +kernel
theorem pa_152_26 : pz_at 152 26 = some (26, .aload_n 0, 1, 0, 0, 0) := by decide +kernel
theorem pa_152_27 : pz_at 152 27 = some (27, .iconst 1, 1, 0, 0, 0) := by decide +kernel
theorem pa_152_28 : pz_at 152 28 = some (28, .putfield 275, 3, 7, 46, 957) := by decide +kernel
theorem pa_152_31 : pz_at 152 31 = some (31, .return_, 1, 0, 0, 0) := by decide +kernel
theorem pa_152_32 : pz_at 152 32 = some (32, .aload_n 0, 1, 0, 0, 0) := by decide +kernel
theorem pa_152_33 : pz_at 152 33 = some (33, .getfield 272, 3, 7, 41, 952) := by decide +kernel
theorem pa_152_36 : pz_at 152 36 = some (36, .iconst 1, 1, 0, 0, 0) := by decide +kernel
theorem pa_152_37 : pz_at 152 37 = some (37, .isub, 1, 0, 0, 0) := by decide +kernel
theorem pa_152_38 : pz_at 152 38 = some (38, .istore_n 2, 1, 0, 0, 0) := by decide +kernel
theorem pa_152_39 : pz_at 152 39 = some (39, .aload_n 0, 1, 0, 0, 0) := by decide +kernel
theorem pa_152_4 : pz_at 152 4 = some (4, .ifCond .le 78, 3, 82, 0, 0) := by decide +kernel
theorem pa_152_40 : pz_at 152 40 = some (40, .aload_n 0, 1, 0, 0, 0) := by decide +kernel
theorem pa_152_41 : pz_at 152 41 = some (41, .getfield 110, 3, 7, 42, 953) := by decide +kernel
theorem pa_152_44 : pz_at 152 44 = some (44, .iload_n 2, 1, 0, 0, 0) := by decide +kernel
theorem pa_152_45 : pz_at 152 45 = some (45, .iaload, 1, 0, 0, 0) := by decide +kernel
theorem pa_152_46 : pz_at 152 46 = some (46, .aload_n 0, 1, 0, 0, 0) := by decide +kernel
theorem pa_152_47 : pz_at 152 47 = some (47, .getfield 113, 3, 7, 43, 954) := by decide +kernel
theorem pa_152_50 : pz_at 152 50 = some (50, .iload_n 2, 1, 0, 0, 0) := by decide +kernel
theorem pa_152_51 : pz_at 152 51 = some (51, .iaload, 1, 0, 0, 0) := by decide +kernel
theorem pa_152_52 : pz_at 152 52 = some (52, .iload_n 1, 1, 0, 0, 0) := by decide +kernel
theorem pa_152_53 : pz_at 152 53 = some (53, .invokevirtual 225, 3, 121, 3, 1238) := by decide +kernel
theorem pa_152_56 : pz_at 152 56 = some (56, .istore_n 3, 1, 0, 0, 0) := by decide +kernel
theorem pa_152_57 : pz_at 152 57 = some (57, .iload_n 3, 1, 0, 0, 0) := by decide +kernel
theorem pa_152_58 : pz_at 152 58 = some (58, .ifCond .lt 11, 3, 69, 0, 0) := by decide +kernel
theorem pa_152_61 : pz_at 152 61 = some (61, .aload_n 0, 1, 0, 0, 0) := by decide +kernel
theorem pa_152_62 : pz_at 152 62 = some (62, .getfield 113, 3, 7, 43, 954) := by decide +kernel
theorem pa_152_65 : pz_at 152 65 = some (65, .iload_n 2, 1, 0, 0, 0) := by decide +kernel
theorem pa_152_66 : pz_at 152 66 = some (66, .iload_n 3, 1, 0, 0, 0) := by decide +kernel
theorem pa_152_67 : pz_at 152 67 = some (67, .iastore, 1, 0, 0, 0) := by decide +kernel
theorem pa_152_68 : pz_at 152 68 = some (68, .return_, 1, 0, 0, 0) := by decide +kernel
theorem pa_152_69 : pz_at 152 69 = some (69, .aload_n 0, 1, 0, 0, 0) := by decide +kernel
theorem pa_152_7 : pz_at 152 7 = some (7, .aload_n 0, 1, 0, 0, 0) := by decide +kernel
theorem pa_152_70 : pz_at 152 70 = some (70, .dup, 1, 0, 0, 0) := by decide +kernel
theorem pa_152_71 : pz_at 152 71 = some (71, .getfield 272, 3, 7, 41, 952) := by decide +kernel
theorem pa_152_74 : pz_at 152 74 = some (74, .iconst 1, 1, 0, 0, 0) := by decide +kernel
theorem pa_152_75 : pz_at 152 75 = some (75, .isub, 1, 0, 0, 0) := by decide +kernel
theorem pa_152_76 : pz_at 152 76 = some (76, .putfield 272, 3, 7, 41, 952) := by decide +kernel
theorem pa_152_79 : pz_at 152 79 = some (79, .goto (-79), 3, 0, 0, 0) := by decide +kernel
theorem pa_152_8 : pz_at 152 8 = some (8, .dup, 1, 0, 0, 0) := by decide +kernel
theorem pa_152_82 : pz_at 152 82 = some (82, .aload_n 0, 1, 0, 0, 0) := by decide +kernel
theorem pa_152_83 : pz_at 152 83 = some (83, .iload_n 1, 1, 0, 0, 0) := by decide +kernel
theorem pa_152_84 : pz_at 152 84 = some (84, .putfield 287, 3, 7, 51, 962) := by decide +kernel
theorem pa_152_87 : pz_at 152 87 = some (87, .return_, 1, 0, 0, 0) := by decide +kernel
theorem pa_152_9 : pz_at 152 9 = some (9, .getfield 284, 3, 7, 48, 959) := by decide +kernel
theorem pf_55_7_48 : pz_gf 55 7 48 = some none := by decide +kernel
theorem pf_55_7_51 : pz_gf 55 7 51 = some none := by decide +kernel
theorem pr_152 : (pz_mi 152).2.2 = none := by decide +kernel
theorem pa_153_0 : pz_at 153 0 = some (0, .aload_n 0, 1, 0, 0, 0) := by decide +kernel
theorem pa_153_1 : pz_at 153 1 = some (1, .getfield 170, 3, 7, 22, 933) := by decide +kernel
theorem pa_153_10 : pz_at 153 10 = some (10, .iconst 1, 1, 0, 0, 0) := by decide +kernel
theorem pa_153_11 : pz_at 153 11 = some (11, .putfield 275, 3, 7, 46, 957) := by decide +kernel
theorem pa_153_14 : pz_at 153 14 = some (14, .iconst (-1), 1, 0, 0, 0) := by decide +kernel
theorem pa_153_15 : pz_at 153 15 = some (15, .ireturn, 1, 0, 0, 0) := by decide +kernel
theorem pa_153_16 : pz_at 153 16 = some (16, .aload_n 0, 1, 0, 0, 0) := by decide +kernel
theorem pa_153_17 : pz_at 153 17 = some (17, .getfield 62, 3, 7, 23, 934) := by decide +kernel
theorem pa_153_20 : pz_at 153 20 = some (20, .aload_n 0, 1, 0, 0, 0) := by decide +kernel
theorem pa_153_21 : pz_at 153 21 = some (21, .getfield 170, 3, 7, 22, 933) := by decide +kernel
theorem pa_153_24 : pz_at 153 24 = some (24, .iload_n 1, 1, 0, 0, 0) := by decide +kernel
theorem pa_153_25 : pz_at 153 25 = some (25, .iastore, 1, 0, 0, 0) := by decide +kernel
theorem pa_153_26 : pz_at 153 26 = some (26, .aload_n 0, 1, 0, 0, 0) := by decide +kernel
theorem pa_153_27 : pz_at 153 27 = some (27, .getfield 65, 3, 7, 24, 935) := by decide +kernel
theorem pa_153_30 : pz_at 153 30 = some (30, .aload_n 0, 1, 0, 0, 0) := by decide +kernel
theorem pa_153_31 : pz_at 153 31 = some (31, .getfield 170, 3, 7, 22, 933) := by decide +kernel
theorem pa_153_34 : pz_at 153 34 = some (34, .iload_n 2, 1, 0, 0, 0) := by decide +kernel
theorem pa_153_35 : pz_at 153 35 = some (35, .iastore, 1, 0, 0, 0) := by decide +kernel
theorem pa_153_36 : pz_at 153 36 = some (36, .aload_n 0, 1, 0, 0, 0) := by decide +kernel
theorem pa_153_37 : pz_at 153 37 = some (37, .aload_n 0, 1, 0, 0, 0) := by decide +kernel
theorem pa_153_38 : pz_at 153 38 = some (38, .getfield 170, 3, 7, 22, 933) := by decide +kernel
theorem pa_153_4 : pz_at 153 4 = some (4, .bipush 60, 2, 0, 0, 0) := by decide +kernel
theorem pa_153_41 : pz_at 153 41 = some (41, .invokevirtual 210, 3, 122, 1, 1181) := by decide +kernel
theorem pa_153_44 : pz_at 153 44 = some (44, .aload_n 0, 1, 0, 0, 0) := by decide +kernel
theorem pa_153_45 : pz_at 153 45 = some (45, .dup, 1, 0, 0, 0) := by decide +kernel
theorem pa_153_46 : pz_at 153 46 = some (46, .getfield 170, 3, 7, 22, 933) := by decide +kernel
theorem pa_153_49 : pz_at 153 49 = some (49, .iconst 1, 1, 0, 0, 0) := by decide +kernel
theorem pa_153_50 : pz_at 153 50 = some (50, .iadd, 1, 0, 0, 0) := by decide +kernel
theorem pa_153_51 : pz_at 153 51 = some (51, .putfield 170, 3, 7, 22, 933) := by decide +kernel
theorem pa_153_54 : pz_at 153 54 = some (54, .aload_n 0, 1, 0, 0, 0) := by decide +kernel
theorem pa_153_55 : pz_at 153 55 = some (55, .getfield 170, 3, 7, 22, 933) := by decide +kernel
theorem pa_153_58 : pz_at 153 58 = some (58, .iconst 1, 1, 0, 0, 0) := by decide +kernel
theorem pa_153_59 : pz_at 153 59 = some (59, .isub, 1, 0, 0, 0) := by decide +kernel
theorem pa_153_6 : pz_at 153 6 = some (6, .if_icmp .ne 10, 3, 16, 0, 0) := by decide +kernel
theorem pa_153_60 : pz_at 153 60 = some (60, .ireturn, 1, 0, 0, 0) := by decide +kernel
theorem pa_153_9 : pz_at 153 9 = some (9, .aload_n 0, 1, 0, 0, 0) := by decide +kernel
theorem pr_153 : (pz_mi 153).2.2 = (some .int) := by decide +kernel
theorem pa_154_0 : pz_at 154 0 = some (0, .iload_n 1, 1, 0, 0, 0) := by decide +kernel
theorem pa_154_1 : pz_at 154 1 = some (1, .aload_n 0, 1, 0, 0, 0) := by decide +kernel
theorem pa_154_10 : pz_at 154 10 = some (10, .getfield 293, 3, 7, 54, 965) := by decide +kernel
theorem pa_154_13 : pz_at 154 13 = some (13, .iload_n 2, 1, 0, 0, 0) := by decide +kernel
theorem pa_154_14 : pz_at 154 14 = some (14, .ior, 1, 0, 0, 0) := by decide +kernel
theorem pa_154_15 : pz_at 154 15 = some (15, .putfield 293, 3, 7, 54, 965) := by decide +kernel
theorem pa_154_18 : pz_at 154 18 = some (18, .aload_n 0, 1, 0, 0, 0) := by decide +kernel
theorem pa_154_19 : pz_at 154 19 = some (19, .getfield 122, 3, 7, 56, 967) := by decide +kernel
theorem pa_154_2 : pz_at 154 2 = some (2, .getfield 290, 3, 7, 49, 960) := by decide +kernel
theorem pa_154_22 : pz_at 154 22 = some (22, .iload_n 1, 1, 0, 0, 0) := by decide +kernel
theorem pa_154_23 : pz_at 154 23 = some (23, .dup2, 1, 0, 0, 0) := by decide +kernel
theorem pa_154_24 : pz_at 154 24 = some (24, .iaload, 1, 0, 0, 0) := by decide +kernel
theorem pa_154_25 : pz_at 154 25 = some (25, .iload_n 2, 1, 0, 0, 0) := by decide +kernel
theorem pa_154_26 : pz_at 154 26 = some (26, .ior, 1, 0, 0, 0) := by decide +kernel
theorem pa_154_27 : pz_at 154 27 = some (27, .iastore, 1, 0, 0, 0) := by decide +kernel
theorem pa_154_28 : pz_at 154 28 = some (28, .return_, 1, 0, 0, 0) := by decide +kernel
theorem pa_154_5 : pz_at 154 5 = some (5, .if_icmp .ge 23, 3, 28, 0, 0) := by decide +kernel
theorem pa_154_8 : pz_at 154 8 = some (8, .aload_n 0, 1, 0, 0, 0) := by decide +kernel
theorem pa_154_9 : pz_at 154 9 = some (9, .dup, 1, 0, 0, 0) := by decide +kernel
theorem pf_55_7_49 : pz_gf 55 7 49 = some none := by decide +kernel
theorem pf_55_7_54 : pz_gf 55 7 54 = some none := by decide +kernel
theorem pf_55_7_56 : pz_gf 55 7 56 = some (some 93) := by decide +kernel
theorem pg_93 : pz_ga 93 = some (.int, 60) := by decide +kernel
theorem pr_154 : (pz_mi 154).2.2 = none := by decide +kernel
theorem pa_155_0 : pz_at 155 0 = some (0, .iload_n 1, 1, 0, 0, 0) := by decide +kernel
theorem pa_155_1 : pz_at 155 1 = some (1, .aload_n 0, 1, 0, 0, 0) := by decide +kernel
theorem pa_155_10 : pz_at 155 10 = some (10, .getfield 296, 3, 7, 55, 966) := by decide +kernel
theorem pa_155_13 : pz_at 155 13 = some (13, .iload_n 2, 1, 0, 0, 0) := by decide +kernel
theorem pa_155_14 : pz_at 155 14 = some (14, .ior, 1, 0, 0, 0) := by decide +kernel
theorem pa_155_15 : pz_at 155 15 = some (15, .putfield 296, 3, 7, 55, 966) := by decide +kernel
theorem pa_155_18 : pz_at 155 18 = some (18, .aload_n 0, 1, 0, 0, 0) := by decide +kernel
theorem pa_155_19 : pz_at 155 19 = some (19, .getfield 125, 3, 7, 57, 968) := by decide +kernel
theorem pa_155_2 : pz_at 155 2 = some (2, .getfield 290, 3, 7, 49, 960) := by decide +kernel
theorem pa_155_22 : pz_at 155 22 = some (22, .iload_n 1, 1, 0, 0, 0) := by decide +kernel
theorem pa_155_23 : pz_at 155 23 = some (23, .dup2, 1, 0, 0, 0) := by decide +kernel
theorem pa_155_24 : pz_at 155 24 = some (24, .iaload, 1, 0, 0, 0) := by decide +kernel
theorem pa_155_25 : pz_at 155 25 = some (25, .iload_n 2, 1, 0, 0, 0) := by decide +kernel
theorem pa_155_26 : pz_at 155 26 = some (26, .ior, 1, 0, 0, 0) := by decide +kernel
theorem pa_155_27 : pz_at 155 27 = some (27, .iastore, 1, 0, 0, 0) := by decide +kernel
theorem pa_155_28 : pz_at 155 28 = some (28, .return_, 1, 0, 0, 0) := by decide +kernel
theorem pa_155_5 : pz_at 155 5 = some (5, .if_icmp .ge 23, 3, 28, 0, 0) := by decide +kernel
theorem pa_155_8 : pz_at 155 8 = some (8, .aload_n 0, 1, 0, 0, 0) := by decide +kernel
theorem pa_155_9 : pz_at 155 9 = some (9, .dup, 1, 0, 0, 0) := by decide +kernel
theorem pf_55_7_55 : pz_gf 55 7 55 = some none := by decide +kernel
theorem pf_55_7_57 : pz_gf 55 7 57 = some (some 94) := by decide +kernel
theorem pg_94 : pz_ga 94 = some (.int, 60) := by decide +kernel
theorem pr_155 : (pz_mi 155).2.2 = none := by decide +kernel
theorem pa_156_0 : pz_at 156 0 = some (0, .iload_n 1, 1, 0, 0, 0) := by decide +kernel
theorem pa_156_1 : pz_at 156 1 = some (1, .ifCond .ge 5, 3, 6, 0, 0) := by decide +kernel
theorem pa_156_102 : pz_at 156 102 = some (102, .iconst 0, 1, 0, 0, 0) := by decide +kernel
theorem pa_156_103 : pz_at 156 103 = some (103, .ireturn, 1, 0, 0, 0) := by decide +kernel
theorem pa_156_12 : pz_at 156 12 = some (12, .iload_n 2, 1, 0, 0, 0) := by decide +kernel
theorem pa_156_13 : pz_at 156 13 = some (13, .bipush 15, 2, 0, 0, 0) := by decide +kernel
theorem pa_156_15 : pz_at 156 15 = some (15, .if_icmp .eq 9, 3, 24, 0, 0) := by decide +kernel
theorem pa_156_18 : pz_at 156 18 = some (18, .iload_n 2, 1, 0, 0, 0) := by decide +kernel
theorem pa_156_19 : pz_at 156 19 = some (19, .bipush 20, 2, 0, 0, 0) := by decide +kernel
theorem pa_156_21 : pz_at 156 21 = some (21, .if_icmp .ne 7, 3, 28, 0, 0) := by decide +kernel
theorem pa_156_24 : pz_at 156 24 = some (24, .iconst 1, 1, 0, 0, 0) := by decide +kernel
theorem pa_156_25 : pz_at 156 25 = some (25, .goto 4, 3, 29, 0, 0) := by decide +kernel
theorem pa_156_28 : pz_at 156 28 = some (28, .iconst 0, 1, 0, 0, 0) := by decide +kernel
theorem pa_156_29 : pz_at 156 29 = some (29, .istore 5, 2, 0, 0, 0) := by decide +kernel
theorem pa_156_31 : pz_at 156 31 = some (31, .iload 5, 2, 0, 0, 0) := by decide +kernel
theorem pa_156_33 : pz_at 156 33 = some (33, .ifCond .eq 15, 3, 48, 0, 0) := by decide +kernel
theorem pa_156_36 : pz_at 156 36 = some (36, .aload_n 0, 1, 0, 0, 0) := by decide +kernel
theorem pa_156_37 : pz_at 156 37 = some (37, .getfield 62, 3, 7, 23, 934) := by decide +kernel
theorem pa_156_4 : pz_at 156 4 = some (4, .iconst 3, 1, 0, 0, 0) := by decide +kernel
theorem pa_156_40 : pz_at 156 40 = some (40, .iload_n 1, 1, 0, 0, 0) := by decide +kernel
theorem pa_156_41 : pz_at 156 41 = some (41, .iaload, 1, 0, 0, 0) := by decide +kernel
theorem pa_156_42 : pz_at 156 42 = some (42, .ifCond .lt 26, 3, 68, 0, 0) := by decide +kernel
theorem pa_156_45 : pz_at 156 45 = some (45, .goto 21, 3, 66, 0, 0) := by decide +kernel
theorem pa_156_48 : pz_at 156 48 = some (48, .aload_n 0, 1, 0, 0, 0) := by decide +kernel
theorem pa_156_49 : pz_at 156 49 = some (49, .getfield 62, 3, 7, 23, 934) := by decide +kernel
theorem pa_156_5 : pz_at 156 5 = some (5, .ireturn, 1, 0, 0, 0) := by decide +kernel
theorem pa_156_52 : pz_at 156 52 = some (52, .iload_n 1, 1, 0, 0, 0) := by decide +kernel
theorem pa_156_53 : pz_at 156 53 = some (53, .iaload, 1, 0, 0, 0) := by decide +kernel
theorem pa_156_54 : pz_at 156 54 = some (54, .ifCond .lt 12, 3, 66, 0, 0) := by decide +kernel
theorem pa_156_57 : pz_at 156 57 = some (57, .aload_n 0, 1, 0, 0, 0) := by decide +kernel
theorem pa_156_58 : pz_at 156 58 = some (58, .iload_n 1, 1, 0, 0, 0) := by decide +kernel
theorem pa_156_59 : pz_at 156 59 = some (59, .iload_n 3, 1, 0, 0, 0) := by decide +kernel
theorem pa_156_6 : pz_at 156 6 = some (6, .iload_n 2, 1, 0, 0, 0) := by decide +kernel
theorem pa_156_60 : pz_at 156 60 = some (60, .invokevirtual 219, 3, 126, 2, 1198) := by decide +kernel
theorem pa_156_63 : pz_at 156 63 = some (63, .ifCond .ne 5, 3, 68, 0, 0) := by decide +kernel
theorem pa_156_66 : pz_at 156 66 = some (66, .iconst 5, 1, 0, 0, 0) := by decide +kernel
theorem pa_156_67 : pz_at 156 67 = some (67, .ireturn, 1, 0, 0, 0) := by decide +kernel
theorem pa_156_68 : pz_at 156 68 = some (68, .iload 5, 2, 0, 0, 0) := by decide +kernel
theorem pa_156_7 : pz_at 156 7 = some (7, .bipush 14, 2, 0, 0, 0) := by decide +kernel
theorem pa_156_70 : pz_at 156 70 = some (70, .ifCond .eq 32, 3, 102, 0, 0) := by decide +kernel
theorem pa_156_73 : pz_at 156 73 = some (73, .iload_n 2, 1, 0, 0, 0) := by decide +kernel
theorem pa_156_74 : pz_at 156 74 = some (74, .bipush 20, 2, 0, 0, 0) := by decide +kernel
theorem pa_156_76 : pz_at 156 76 = some (76, .if_icmp .eq 26, 3, 102, 0, 0) := by decide +kernel
theorem pa_156_79 : pz_at 156 79 = some (79, .iload 4, 2, 0, 0, 0) := by decide +kernel
theorem pa_156_81 : pz_at 156 81 = some (81, .i2l, 1, 0, 0, 0) := by decide +kernel
theorem pa_156_82 : pz_at 156 82 = some (82, .lconst 0, 1, 0, 0, 0) := by decide +kernel
theorem pa_156_83 : pz_at 156 83 = some (83, .aload_n 0, 1, 0, 0, 0) := by decide +kernel
theorem pa_156_84 : pz_at 156 84 = some (84, .getfield 65, 3, 7, 24, 935) := by decide +kernel
theorem pa_156_87 : pz_at 156 87 = some (87, .iload_n 1, 1, 0, 0, 0) := by decide +kernel
theorem pa_156_88 : pz_at 156 88 = some (88, .iaload, 1, 0, 0, 0) := by decide +kernel
theorem pa_156_89 : pz_at 156 89 = some (89, .iconst 1, 1, 0, 0, 0) := by decide +kernel
theorem pa_156_9 : pz_at 156 9 = some (9, .if_icmp .eq 15, 3, 24, 0, 0) := by decide +kernel
theorem pa_156_90 : pz_at 156 90 = some (90, .isub, 1, 0, 0, 0) := by decide +kernel
theorem pa_156_91 : pz_at 156 91 = some (91, .i2l, 1, 0, 0, 0) := by decide +kernel
theorem pa_156_92 : pz_at 156 92 = some (92, .invokestatic 160, 3, 109, 3, 1129) := by decide +kernel
theorem pa_156_95 : pz_at 156 95 = some (95, .ifCond .eq 7, 3, 102, 0, 0) := by decide +kernel
theorem pa_156_98 : pz_at 156 98 = some (98, .iconst 4, 1, 0, 0, 0) := by decide +kernel
theorem pa_156_99 : pz_at 156 99 = some (99, .goto 4, 3, 103, 0, 0) := by decide +kernel
theorem pr_156 : (pz_mi 156).2.2 = (some .int) := by decide +kernel
theorem pa_157_0 : pz_at 157 0 = some (0, .aload_n 0, 1, 0, 0, 0) := by decide +kernel
theorem pa_157_1 : pz_at 157 1 = some (1, .getfield 272, 3, 7, 41, 952) := by decide +kernel
theorem pa_157_102 : pz_at 157 102 = some (102, .iload_n 3, 1, 0, 0, 0) := by decide +kernel
theorem pa_157_103 : pz_at 157 103 = some (103, .iaload, 1, 0, 0, 0) := by decide +kernel
theorem pa_157_104 : pz_at 157 104 = some (104, .bipush 15, 2, 0, 0, 0) := by decide +kernel
theorem pa_157_106 : pz_at 157 106 = some (106, .if_icmp .le 14, 3, 120, 0, 0) := by decide +kernel
theorem pa_157_109 : pz_at 157 109 = some (109, .aload_n 0, 1, 0, 0, 0) := by decide +kernel
theorem pa_157_11 : pz_at 157 11 = some (11, .iload_n 1, 1, 0, 0, 0) := by decide +kernel
theorem pa_157_110 : pz_at 157 110 = some (110, .getfield 35, 3, 7, 12, 923) := by decide +kernel
theorem pa_157_113 : pz_at 157 113 = some (113, .iload_n 3, 1, 0, 0, 0) := by decide +kernel
theorem pa_157_114 : pz_at 157 114 = some (114, .iaload, 1, 0, 0, 0) := by decide +kernel
theorem pa_157_115 : pz_at 157 115 = some (115, .bipush 20, 2, 0, 0, 0) := by decide +kernel
theorem pa_157_117 : pz_at 157 117 = some (117, .if_icmp .ne 12, 3, 129, 0, 0) := by decide +kernel
theorem pa_157_12 : pz_at 157 12 = some (12, .iaload, 1, 0, 0, 0) := by decide +kernel
theorem pa_157_120 : pz_at 157 120 = some (120, .aload_n 0, 1, 0, 0, 0) := by decide +kernel
theorem pa_157_121 : pz_at 157 121 = some (121, .iload_n 1, 1, 0, 0, 0) := by decide +kernel
theorem pa_157_122 : pz_at 157 122 = some (122, .iload_n 3, 1, 0, 0, 0) := by decide +kernel
theorem pa_157_123 : pz_at 157 123 = some (123, .invokevirtual 305, 3, 158, 2, 1319) := by decide +kernel
theorem pa_157_126 : pz_at 157 126 = some (126, .goto 29, 3, 155, 0, 0) := by decide +kernel
theorem pa_157_129 : pz_at 157 129 = some (129, .aload_n 0, 1, 0, 0, 0) := by decide +kernel
theorem pa_157_13 : pz_at 157 13 = some (13, .istore_n 2, 1, 0, 0, 0) := by decide +kernel
theorem pa_157_130 : pz_at 157 130 = some (130, .getfield 35, 3, 7, 12, 923) := by decide +kernel
theorem pa_157_133 : pz_at 157 133 = some (133, .iload_n 3, 1, 0, 0, 0) := by decide +kernel
theorem pa_157_134 : pz_at 157 134 = some (134, .iaload, 1, 0, 0, 0) := by decide +kernel
theorem pa_157_135 : pz_at 157 135 = some (135, .bipush 23, 2, 0, 0, 0) := by decide +kernel
theorem pa_157_137 : pz_at 157 137 = some (137, .if_icmp .ge 12, 3, 149, 0, 0) := by decide +kernel
theorem pa_157_14 : pz_at 157 14 = some (14, .aload_n 0, 1, 0, 0, 0) := by decide +kernel
theorem pa_157_140 : pz_at 157 140 = some (140, .aload_n 0, 1, 0, 0, 0) := by decide +kernel
theorem pa_157_141 : pz_at 157 141 = some (141, .iload_n 1, 1, 0, 0, 0) := by decide +kernel
theorem pa_157_142 : pz_at 157 142 = some (142, .iload_n 3, 1, 0, 0, 0) := by decide +kernel
theorem pa_157_143 : pz_at 157 143 = some (143, .invokevirtual 308, 3, 160, 2, 1339) := by decide +kernel
theorem pa_157_146 : pz_at 157 146 = some (146, .goto 9, 3, 155, 0, 0) := by decide +kernel
theorem pa_157_149 : pz_at 157 149 = some (149, .aload_n 0, 1, 0, 0, 0) := by decide +kernel
theorem pa_157_15 : pz_at 157 15 = some (15, .getfield 113, 3, 7, 43, 954) := by decide +kernel
theorem pa_157_150 : pz_at 157 150 = some (150, .iload_n 1, 1, 0, 0, 0) := by decide +kernel
theorem pa_157_151 : pz_at 157 151 = some (151, .iload_n 3, 1, 0, 0, 0) := by decide +kernel
theorem pa_157_152 : pz_at 157 152 = some (152, .invokevirtual 310, 3, 165, 2, 1362) := by decide +kernel
theorem pa_157_155 : pz_at 157 155 = some (155, .return_, 1, 0, 0, 0) := by decide +kernel
theorem pa_157_18 : pz_at 157 18 = some (18, .iload_n 1, 1, 0, 0, 0) := by decide +kernel
theorem pa_157_19 : pz_at 157 19 = some (19, .iaload, 1, 0, 0, 0) := by decide +kernel
theorem pa_157_20 : pz_at 157 20 = some (20, .aload_n 0, 1, 0, 0, 0) := by decide +kernel
theorem pa_157_21 : pz_at 157 21 = some (21, .getfield 32, 3, 7, 11, 922) := by decide +kernel
theorem pa_157_24 : pz_at 157 24 = some (24, .iload_n 2, 1, 0, 0, 0) := by decide +kernel
theorem pa_157_25 : pz_at 157 25 = some (25, .iaload, 1, 0, 0, 0) := by decide +kernel
theorem pa_157_26 : pz_at 157 26 = some (26, .if_icmp .lt 23, 3, 49, 0, 0) := by decide +kernel
theorem pa_157_29 : pz_at 157 29 = some (29, .aload_n 0, 1, 0, 0, 0) := by decide +kernel
theorem pa_157_30 : pz_at 157 30 = some (30, .aload_n 0, 1, 0, 0, 0) := by decide +kernel
theorem pa_157_31 : pz_at 157 31 = some (31, .getfield 29, 3, 7, 10, 921) := by decide +kernel
theorem pa_157_34 : pz_at 157 34 = some (34, .iload_n 2, 1, 0, 0, 0) := by decide +kernel
theorem pa_157_35 : pz_at 157 35 = some (35, .iaload, 1, 0, 0, 0) := by decide +kernel
theorem pa_157_36 : pz_at 157 36 = some (36, .iconst 2, 1, 0, 0, 0) := by decide +kernel
theorem pa_157_37 : pz_at 157 37 = some (37, .if_icmp .ne 7, 3, 44, 0, 0) := by decide +kernel
theorem pa_157_4 : pz_at 157 4 = some (4, .iconst 1, 1, 0, 0, 0) := by decide +kernel
theorem pa_157_40 : pz_at 157 40 = some (40, .iconst (-1), 1, 0, 0, 0) := by decide +kernel
theorem pa_157_41 : pz_at 157 41 = some (41, .goto 4, 3, 45, 0, 0) := by decide +kernel
theorem pa_157_44 : pz_at 157 44 = some (44, .iconst 0, 1, 0, 0, 0) := by decide +kernel
theorem pa_157_45 : pz_at 157 45 = some (45, .invokevirtual 299, 3, 151, 1, 1315) := by decide +kernel
theorem pa_157_48 : pz_at 157 48 = some (48, .return_, 1, 0, 0, 0) := by decide +kernel
theorem pa_157_49 : pz_at 157 49 = some (49, .aload_n 0, 1, 0, 0, 0) := by decide +kernel
theorem pa_157_5 : pz_at 157 5 = some (5, .isub, 1, 0, 0, 0) := by decide +kernel
theorem pa_157_50 : pz_at 157 50 = some (50, .getfield 302, 3, 7, 47, 958) := by decide +kernel
theorem pa_157_53 : pz_at 157 53 = some (53, .sipush 500, 3, 0, 0, 0) := by decide +kernel
theorem pa_157_56 : pz_at 157 56 = some (56, .if_icmp .ne 9, 3, 65, 0, 0) := by decide +kernel
theorem pa_157_59 : pz_at 157 59 = some (59, .aload_n 0, 1, 0, 0, 0) := by decide +kernel
theorem pa_157_6 : pz_at 157 6 = some (6, .istore_n 1, 1, 0, 0, 0) := by decide +kernel
theorem pa_157_60 : pz_at 157 60 = some (60, .iconst 1, 1, 0, 0, 0) := by decide +kernel
theorem pa_157_61 : pz_at 157 61 = some (61, .putfield 275, 3, 7, 46, 957) := by decide +kernel
theorem pa_157_64 : pz_at 157 64 = some (64, .return_, 1, 0, 0, 0) := by decide +kernel
theorem pa_157_65 : pz_at 157 65 = some (65, .aload_n 0, 1, 0, 0, 0) := by decide +kernel
theorem pa_157_66 : pz_at 157 66 = some (66, .dup, 1, 0, 0, 0) := by decide +kernel
theorem pa_157_67 : pz_at 157 67 = some (67, .getfield 302, 3, 7, 47, 958) := by decide +kernel
theorem pa_157_7 : pz_at 157 7 = some (7, .aload_n 0, 1, 0, 0, 0) := by decide +kernel
theorem pa_157_70 : pz_at 157 70 = some (70, .iconst 1, 1, 0, 0, 0) := by decide +kernel
theorem pa_157_71 : pz_at 157 71 = some (71, .iadd, 1, 0, 0, 0) := by decide +kernel
theorem pa_157_72 : pz_at 157 72 = some (72, .putfield 302, 3, 7, 47, 958) := by decide +kernel
theorem pa_157_75 : pz_at 157 75 = some (75, .bipush 24, 2, 0, 0, 0) := by decide +kernel
theorem pa_157_77 : pz_at 157 77 = some (77, .iload_n 2, 1, 0, 0, 0) := by decide +kernel
theorem pa_157_78 : pz_at 157 78 = some (78, .imul, 1, 0, 0, 0) := by decide +kernel
theorem pa_157_79 : pz_at 157 79 = some (79, .aload_n 0, 1, 0, 0, 0) := by decide +kernel
theorem pa_157_8 : pz_at 157 8 = some (8, .getfield 110, 3, 7, 42, 953) := by decide +kernel
theorem pa_157_80 : pz_at 157 80 = some (80, .getfield 113, 3, 7, 43, 954) := by decide +kernel
theorem pa_157_83 : pz_at 157 83 = some (83, .iload_n 1, 1, 0, 0, 0) := by decide +kernel
theorem pa_157_84 : pz_at 157 84 = some (84, .iaload, 1, 0, 0, 0) := by decide +kernel
theorem pa_157_85 : pz_at 157 85 = some (85, .iadd, 1, 0, 0, 0) := by decide +kernel
theorem pa_157_86 : pz_at 157 86 = some (86, .istore_n 3, 1, 0, 0, 0) := by decide +kernel
theorem pa_157_87 : pz_at 157 87 = some (87, .aload_n 0, 1, 0, 0, 0) := by decide +kernel
theorem pa_157_88 : pz_at 157 88 = some (88, .getfield 35, 3, 7, 12, 923) := by decide +kernel
theorem pa_157_91 : pz_at 157 91 = some (91, .iload_n 3, 1, 0, 0, 0) := by decide +kernel
theorem pa_157_92 : pz_at 157 92 = some (92, .iaload, 1, 0, 0, 0) := by decide +kernel
theorem pa_157_93 : pz_at 157 93 = some (93, .bipush 10, 2, 0, 0, 0) := by decide +kernel
theorem pa_157_95 : pz_at 157 95 = some (95, .if_icmp .lt 14, 3, 109, 0, 0) := by decide +kernel
theorem pa_157_98 : pz_at 157 98 = some (98, .aload_n 0, 1, 0, 0, 0) := by decide +kernel
theorem pa_157_99 : pz_at 157 99 = some (99, .getfield 35, 3, 7, 12, 923) := by decide +kernel
theorem pf_55_7_47 : pz_gf 55 7 47 = some none := by decide +kernel
theorem pm_151 : pz_mi 151 = (7, 5, none) := by decide +kernel
theorem pm_158 : pz_mi 158 = (7, 11, none) := by decide +kernel
theorem pm_160 : pz_mi 160 = (7, 7, none) := by decide +kernel
theorem pm_165 : pz_mi 165 = (7, 7, none) := by decide +kernel
theorem pr_157 : (pz_mi 157).2.2 = none := by decide +kernel
theorem pa_158_0 : pz_at 158 0 = some (0, .aload_n 0, 1, 0, 0, 0) := by decide +kernel
theorem pa_158_1 : pz_at 158 1 = some (1, .getfield 35, 3, 7, 12, 923) := by decide +kernel
theorem pa_158_10 : pz_at 158 10 = some (10, .imul, 1, 0, 0, 0) := by decide +kernel
theorem pa_158_100 : pz_at 158 100 = some (100, .bipush 8, 2, 0, 0, 0) := by decide +kernel
theorem pa_158_102 : pz_at 158 102 = some (102, .iload_n 1, 1, 0, 0, 0) := by decide +kernel
theorem pa_158_103 : pz_at 158 103 = some (103, .imul, 1, 0, 0, 0) := by decide +kernel
theorem pa_158_104 : pz_at 158 104 = some (104, .iload 6, 2, 0, 0, 0) := by decide +kernel
theorem pa_158_106 : pz_at 158 106 = some (106, .bipush 7, 2, 0, 0, 0) := by decide +kernel
theorem pa_158_108 : pz_at 158 108 = some (108, .iand, 1, 0, 0, 0) := by decide +kernel
theorem pa_158_109 : pz_at 158 109 = some (109, .iadd, 1, 0, 0, 0) := by decide +kernel
theorem pa_158_11 : pz_at 158 11 = some (11, .aload_n 0, 1, 0, 0, 0) := by decide +kernel
theorem pa_158_110 : pz_at 158 110 = some (110, .iaload, 1, 0, 0, 0) := by decide +kernel
theorem pa_158_111 : pz_at 158 111 = some (111, .goto 20, 3, 131, 0, 0) := by decide +kernel
theorem pa_158_114 : pz_at 158 114 = some (114, .iload_n 3, 1, 0, 0, 0) := by decide +kernel
theorem pa_158_115 : pz_at 158 115 = some (115, .bipush 15, 2, 0, 0, 0) := by decide +kernel
theorem pa_158_117 : pz_at 158 117 = some (117, .if_icmp .ne 13, 3, 130, 0, 0) := by decide +kernel
theorem pa_158_12 : pz_at 158 12 = some (12, .getfield 38, 3, 7, 13, 924) := by decide +kernel
theorem pa_158_120 : pz_at 158 120 = some (120, .aload_n 0, 1, 0, 0, 0) := by decide +kernel
theorem pa_158_121 : pz_at 158 121 = some (121, .getfield 116, 3, 7, 44, 955) := by decide +kernel
theorem pa_158_124 : pz_at 158 124 = some (124, .iload 5, 2, 0, 0, 0) := by decide +kernel
theorem pa_158_126 : pz_at 158 126 = some (126, .iaload, 1, 0, 0, 0) := by decide +kernel
theorem pa_158_127 : pz_at 158 127 = some (127, .goto 4, 3, 131, 0, 0) := by decide +kernel
theorem pa_158_130 : pz_at 158 130 = some (130, .iconst 0, 1, 0, 0, 0) := by decide +kernel
theorem pa_158_131 : pz_at 158 131 = some (131, .istore 9, 2, 0, 0, 0) := by decide +kernel
theorem pa_158_133 : pz_at 158 133 = some (133, .aload_n 0, 1, 0, 0, 0) := by decide +kernel
theorem pa_158_134 : pz_at 158 134 = some (134, .iload 8, 2, 0, 0, 0) := by decide +kernel
theorem pa_158_136 : pz_at 158 136 = some (136, .iload_n 3, 1, 0, 0, 0) := by decide +kernel
theorem pa_158_137 : pz_at 158 137 = some (137, .iload 6, 2, 0, 0, 0) := by decide +kernel
theorem pa_158_139 : pz_at 158 139 = some (139, .iload 9, 2, 0, 0, 0) := by decide +kernel
theorem pa_158_141 : pz_at 158 141 = some (141, .invokevirtual 313, 3, 156, 4, 1323) := by decide +kernel
theorem pa_158_144 : pz_at 158 144 = some (144, .istore 10, 2, 0, 0, 0) := by decide +kernel
theorem pa_158_146 : pz_at 158 146 = some (146, .iload 10, 2, 0, 0, 0) := by decide +kernel
theorem pa_158_148 : pz_at 158 148 = some (148, .ifCond .le 10, 3, 158, 0, 0) := by decide +kernel
theorem pa_158_15 : pz_at 158 15 = some (15, .iload_n 2, 1, 0, 0, 0) := by decide +kernel
theorem pa_158_151 : pz_at 158 151 = some (151, .aload_n 0, 1, 0, 0, 0) := by decide +kernel
theorem pa_158_152 : pz_at 158 152 = some (152, .iload 10, 2, 0, 0, 0) := by decide +kernel
theorem pa_158_154 : pz_at 158 154 = some (154, .invokevirtual 317, 3, 152, 1, 1327) := by decide +kernel
theorem pa_158_157 : pz_at 158 157 = some (157, .return_, 1, 0, 0, 0) := by decide +kernel
theorem pa_158_158 : pz_at 158 158 = some (158, .iload_n 3, 1, 0, 0, 0) := by decide +kernel
theorem pa_158_159 : pz_at 158 159 = some (159, .tableswitch 236 10 15 #[37, 103, 70, 136, 169, 200], 37, 0, 0, 0) := by decide +kernel
theorem pa_158_16 : pz_at 158 16 = some (16, .iaload, 1, 0, 0, 0) := by decide +kernel
theorem pa_158_17 : pz_at 158 17 = some (17, .iadd, 1, 0, 0, 0) := by decide +kernel
theorem pa_158_18 : pz_at 158 18 = some (18, .istore 4, 2, 0, 0, 0) := by decide +kernel
theorem pa_158_196 : pz_at 158 196 = some (196, .aload_n 0, 1, 0, 0, 0) := by decide +kernel
theorem pa_158_197 : pz_at 158 197 = some (197, .iload 8, 2, 0, 0, 0) := by decide +kernel
theorem pa_158_199 : pz_at 158 199 = some (199, .iconst 1, 1, 0, 0, 0) := by decide +kernel
theorem pa_158_20 : pz_at 158 20 = some (20, .bipush 8, 2, 0, 0, 0) := by decide +kernel
theorem pa_158_200 : pz_at 158 200 = some (200, .iload 6, 2, 0, 0, 0) := by decide +kernel
theorem pa_158_202 : pz_at 158 202 = some (202, .ishl, 1, 0, 0, 0) := by decide +kernel
theorem pa_158_203 : pz_at 158 203 = some (203, .invokevirtual 320, 3, 154, 2, 1331) := by decide +kernel
theorem pa_158_206 : pz_at 158 206 = some (206, .aload_n 0, 1, 0, 0, 0) := by decide +kernel
theorem pa_158_207 : pz_at 158 207 = some (207, .getfield 116, 3, 7, 44, 955) := by decide +kernel
theorem pa_158_210 : pz_at 158 210 = some (210, .iload 4, 2, 0, 0, 0) := by decide +kernel
theorem pa_158_212 : pz_at 158 212 = some (212, .aload_n 0, 1, 0, 0, 0) := by decide +kernel
theorem pa_158_213 : pz_at 158 213 = some (213, .getfield 68, 3, 7, 25, 936) := by decide +kernel
theorem pa_158_216 : pz_at 158 216 = some (216, .bipush 16, 2, 0, 0, 0) := by decide +kernel
theorem pa_158_218 : pz_at 158 218 = some (218, .iload 8, 2, 0, 0, 0) := by decide +kernel
theorem pa_158_22 : pz_at 158 22 = some (22, .iload_n 1, 1, 0, 0, 0) := by decide +kernel
theorem pa_158_220 : pz_at 158 220 = some (220, .imul, 1, 0, 0, 0) := by decide +kernel
theorem pa_158_221 : pz_at 158 221 = some (221, .iload 6, 2, 0, 0, 0) := by decide +kernel
theorem pa_158_223 : pz_at 158 223 = some (223, .iadd, 1, 0, 0, 0) := by decide +kernel
theorem pa_158_224 : pz_at 158 224 = some (224, .iaload, 1, 0, 0, 0) := by decide +kernel
theorem pa_158_225 : pz_at 158 225 = some (225, .iastore, 1, 0, 0, 0) := by decide +kernel
theorem pa_158_226 : pz_at 158 226 = some (226, .goto 183, 3, 409, 0, 0) := by decide +kernel
theorem pa_158_229 : pz_at 158 229 = some (229, .aload_n 0, 1, 0, 0, 0) := by decide +kernel
theorem pa_158_23 : pz_at 158 23 = some (23, .imul, 1, 0, 0, 0) := by decide +kernel
theorem pa_158_230 : pz_at 158 230 = some (230, .iload 8, 2, 0, 0, 0) := by decide +kernel
theorem pa_158_232 : pz_at 158 232 = some (232, .iconst 1, 1, 0, 0, 0) := by decide +kernel
theorem pa_158_233 : pz_at 158 233 = some (233, .iload 6, 2, 0, 0, 0) := by decide +kernel
theorem pa_158_235 : pz_at 158 235 = some (235, .ishl, 1, 0, 0, 0) := by decide +kernel
theorem pa_158_236 : pz_at 158 236 = some (236, .invokevirtual 320, 3, 154, 2, 1331) := by decide +kernel
theorem pa_158_239 : pz_at 158 239 = some (239, .aload_n 0, 1, 0, 0, 0) := by decide +kernel
theorem pa_158_24 : pz_at 158 24 = some (24, .aload_n 0, 1, 0, 0, 0) := by decide +kernel
theorem pa_158_240 : pz_at 158 240 = some (240, .getfield 119, 3, 7, 45, 956) := by decide +kernel
theorem pa_158_243 : pz_at 158 243 = some (243, .iload 4, 2, 0, 0, 0) := by decide +kernel
theorem pa_158_245 : pz_at 158 245 = some (245, .aload_n 0, 1, 0, 0, 0) := by decide +kernel
theorem pa_158_246 : pz_at 158 246 = some (246, .getfield 68, 3, 7, 25, 936) := by decide +kernel
theorem pa_158_249 : pz_at 158 249 = some (249, .bipush 16, 2, 0, 0, 0) := by decide +kernel
theorem pa_158_25 : pz_at 158 25 = some (25, .getfield 41, 3, 7, 14, 925) := by decide +kernel
theorem pa_158_251 : pz_at 158 251 = some (251, .iload 8, 2, 0, 0, 0) := by decide +kernel
theorem pa_158_253 : pz_at 158 253 = some (253, .imul, 1, 0, 0, 0) := by decide +kernel
theorem pa_158_254 : pz_at 158 254 = some (254, .iload 6, 2, 0, 0, 0) := by decide +kernel
theorem pa_158_256 : pz_at 158 256 = some (256, .iadd, 1, 0, 0, 0) := by decide +kernel
theorem pa_158_257 : pz_at 158 257 = some (257, .iaload, 1, 0, 0, 0) := by decide +kernel
theorem pa_158_258 : pz_at 158 258 = some (258, .iastore, 1, 0, 0, 0) := by decide +kernel
theorem pa_158_259 : pz_at 158 259 = some (259, .goto 150, 3, 409, 0, 0) := by decide +kernel
theorem pa_158_262 : pz_at 158 262 = some (262, .aload_n 0, 1, 0, 0, 0) := by decide +kernel
theorem pa_158_263 : pz_at 158 263 = some (263, .iload 8, 2, 0, 0, 0) := by decide +kernel
theorem pa_158_265 : pz_at 158 265 = some (265, .iconst 1, 1, 0, 0, 0) := by decide +kernel
theorem pa_158_266 : pz_at 158 266 = some (266, .iload 6, 2, 0, 0, 0) := by decide +kernel
theorem pa_158_268 : pz_at 158 268 = some (268, .ishl, 1, 0, 0, 0) := by decide +kernel
theorem pa_158_269 : pz_at 158 269 = some (269, .invokevirtual 322, 3, 155, 2, 1335) := by decide +kernel
theorem pa_158_272 : pz_at 158 272 = some (272, .aload_n 0, 1, 0, 0, 0) := by decide +kernel
theorem pa_158_273 : pz_at 158 273 = some (273, .getfield 68, 3, 7, 25, 936) := by decide +kernel
theorem pa_158_276 : pz_at 158 276 = some (276, .bipush 16, 2, 0, 0, 0) := by decide +kernel
theorem pa_158_278 : pz_at 158 278 = some (278, .iload 8, 2, 0, 0, 0) := by decide +kernel
theorem pa_158_28 : pz_at 158 28 = some (28, .iload_n 2, 1, 0, 0, 0) := by decide +kernel
theorem pa_158_280 : pz_at 158 280 = some (280, .imul, 1, 0, 0, 0) := by decide +kernel
theorem pa_158_281 : pz_at 158 281 = some (281, .iload 6, 2, 0, 0, 0) := by decide +kernel
theorem pa_158_283 : pz_at 158 283 = some (283, .iadd, 1, 0, 0, 0) := by decide +kernel
theorem pa_158_284 : pz_at 158 284 = some (284, .aload_n 0, 1, 0, 0, 0) := by decide +kernel
theorem pa_158_285 : pz_at 158 285 = some (285, .getfield 116, 3, 7, 44, 955) := by decide +kernel
theorem pa_158_288 : pz_at 158 288 = some (288, .iload 5, 2, 0, 0, 0) := by decide +kernel
theorem pa_158_29 : pz_at 158 29 = some (29, .iaload, 1, 0, 0, 0) := by decide +kernel
theorem pa_158_290 : pz_at 158 290 = some (290, .iaload, 1, 0, 0, 0) := by decide +kernel
theorem pa_158_291 : pz_at 158 291 = some (291, .iastore, 1, 0, 0, 0) := by decide +kernel
theorem pa_158_292 : pz_at 158 292 = some (292, .goto 117, 3, 409, 0, 0) := by decide +kernel
theorem pa_158_295 : pz_at 158 295 = some (295, .aload_n 0, 1, 0, 0, 0) := by decide +kernel
theorem pa_158_296 : pz_at 158 296 = some (296, .iload 8, 2, 0, 0, 0) := by decide +kernel
theorem pa_158_298 : pz_at 158 298 = some (298, .iconst 1, 1, 0, 0, 0) := by decide +kernel
theorem pa_158_299 : pz_at 158 299 = some (299, .iload 6, 2, 0, 0, 0) := by decide +kernel
theorem pa_158_30 : pz_at 158 30 = some (30, .iadd, 1, 0, 0, 0) := by decide +kernel
theorem pa_158_301 : pz_at 158 301 = some (301, .ishl, 1, 0, 0, 0) := by decide +kernel
theorem pa_158_302 : pz_at 158 302 = some (302, .invokevirtual 322, 3, 155, 2, 1335) := by decide +kernel
theorem pa_158_305 : pz_at 158 305 = some (305, .aload_n 0, 1, 0, 0, 0) := by decide +kernel
theorem pa_158_306 : pz_at 158 306 = some (306, .getfield 68, 3, 7, 25, 936) := by decide +kernel
theorem pa_158_309 : pz_at 158 309 = some (309, .bipush 16, 2, 0, 0, 0) := by decide +kernel
theorem pa_158_31 : pz_at 158 31 = some (31, .istore 5, 2, 0, 0, 0) := by decide +kernel
theorem pa_158_311 : pz_at 158 311 = some (311, .iload 8, 2, 0, 0, 0) := by decide +kernel
theorem pa_158_313 : pz_at 158 313 = some (313, .imul, 1, 0, 0, 0) := by decide +kernel
theorem pa_158_314 : pz_at 158 314 = some (314, .iload 6, 2, 0, 0, 0) := by decide +kernel
theorem pa_158_316 : pz_at 158 316 = some (316, .iadd, 1, 0, 0, 0) := by decide +kernel
theorem pa_158_317 : pz_at 158 317 = some (317, .aload_n 0, 1, 0, 0, 0) := by decide +kernel
theorem pa_158_318 : pz_at 158 318 = some (318, .getfield 119, 3, 7, 45, 956) := by decide +kernel
theorem pa_158_321 : pz_at 158 321 = some (321, .iload 5, 2, 0, 0, 0) := by decide +kernel
theorem pa_158_323 : pz_at 158 323 = some (323, .iaload, 1, 0, 0, 0) := by decide +kernel
theorem pa_158_324 : pz_at 158 324 = some (324, .iastore, 1, 0, 0, 0) := by decide +kernel
theorem pa_158_325 : pz_at 158 325 = some (325, .goto 84, 3, 409, 0, 0) := by decide +kernel
theorem pa_158_328 : pz_at 158 328 = some (328, .aload_n 0, 1, 0, 0, 0) := by decide +kernel
theorem pa_158_329 : pz_at 158 329 = some (329, .iload 8, 2, 0, 0, 0) := by decide +kernel
theorem pa_158_33 : pz_at 158 33 = some (33, .aload_n 0, 1, 0, 0, 0) := by decide +kernel
theorem pa_158_331 : pz_at 158 331 = some (331, .ldc 247, 2, 16777216, 0, 1242) := by decide +kernel
theorem pa_158_333 : pz_at 158 333 = some (333, .invokevirtual 320, 3, 154, 2, 1331) := by decide +kernel
theorem pa_158_336 : pz_at 158 336 = some (336, .aload_n 0, 1, 0, 0, 0) := by decide +kernel
theorem pa_158_337 : pz_at 158 337 = some (337, .getfield 116, 3, 7, 44, 955) := by decide +kernel
theorem pa_158_34 : pz_at 158 34 = some (34, .getfield 44, 3, 7, 15, 926) := by decide +kernel
theorem pa_158_340 : pz_at 158 340 = some (340, .iload 4, 2, 0, 0, 0) := by decide +kernel
theorem pa_158_342 : pz_at 158 342 = some (342, .aload_n 0, 1, 0, 0, 0) := by decide +kernel
theorem pa_158_343 : pz_at 158 343 = some (343, .getfield 68, 3, 7, 25, 936) := by decide +kernel
theorem pa_158_346 : pz_at 158 346 = some (346, .bipush 16, 2, 0, 0, 0) := by decide +kernel
theorem pa_158_348 : pz_at 158 348 = some (348, .iload 8, 2, 0, 0, 0) := by decide +kernel
theorem pa_158_350 : pz_at 158 350 = some (350, .imul, 1, 0, 0, 0) := by decide +kernel
theorem pa_158_351 : pz_at 158 351 = some (351, .iload 9, 2, 0, 0, 0) := by decide +kernel
theorem pa_158_353 : pz_at 158 353 = some (353, .iadd, 1, 0, 0, 0) := by decide +kernel
theorem pa_158_354 : pz_at 158 354 = some (354, .iaload, 1, 0, 0, 0) := by decide +kernel
theorem pa_158_355 : pz_at 158 355 = some (355, .iastore, 1, 0, 0, 0) := by decide +kernel
theorem pa_158_356 : pz_at 158 356 = some (356, .goto 53, 3, 409, 0, 0) := by decide +kernel
theorem pa_158_359 : pz_at 158 359 = some (359, .aload_n 0, 1, 0, 0, 0) := by decide +kernel
theorem pa_158_360 : pz_at 158 360 = some (360, .iload 8, 2, 0, 0, 0) := by decide +kernel
theorem pa_158_362 : pz_at 158 362 = some (362, .ldc 247, 2, 16777216, 0, 1242) := by decide +kernel
theorem pa_158_364 : pz_at 158 364 = some (364, .invokevirtual 322, 3, 155, 2, 1335) := by decide +kernel
theorem pa_158_367 : pz_at 158 367 = some (367, .aload_n 0, 1, 0, 0, 0) := by decide +kernel
theorem pa_158_368 : pz_at 158 368 = some (368, .getfield 68, 3, 7, 25, 936) := by decide +kernel
theorem pa_158_37 : pz_at 158 37 = some (37, .iload_n 2, 1, 0, 0, 0) := by decide +kernel
theorem pa_158_371 : pz_at 158 371 = some (371, .bipush 16, 2, 0, 0, 0) := by decide +kernel
theorem pa_158_373 : pz_at 158 373 = some (373, .iload 8, 2, 0, 0, 0) := by decide +kernel
theorem pa_158_375 : pz_at 158 375 = some (375, .imul, 1, 0, 0, 0) := by decide +kernel
theorem pa_158_376 : pz_at 158 376 = some (376, .iload 9, 2, 0, 0, 0) := by decide +kernel
theorem pa_158_378 : pz_at 158 378 = some (378, .iadd, 1, 0, 0, 0) := by decide +kernel
theorem pa_158_379 : pz_at 158 379 = some (379, .aload_n 0, 1, 0, 0, 0) := by decide +kernel
theorem pa_158_38 : pz_at 158 38 = some (38, .iaload, 1, 0, 0, 0) := by decide +kernel
theorem pa_158_380 : pz_at 158 380 = some (380, .getfield 116, 3, 7, 44, 955) := by decide +kernel
theorem pa_158_383 : pz_at 158 383 = some (383, .bipush 8, 2, 0, 0, 0) := by decide +kernel
theorem pa_158_385 : pz_at 158 385 = some (385, .iload_n 1, 1, 0, 0, 0) := by decide +kernel
theorem pa_158_386 : pz_at 158 386 = some (386, .imul, 1, 0, 0, 0) := by decide +kernel
theorem pa_158_387 : pz_at 158 387 = some (387, .iload 6, 2, 0, 0, 0) := by decide +kernel
theorem pa_158_389 : pz_at 158 389 = some (389, .iadd, 1, 0, 0, 0) := by decide +kernel
theorem pa_158_39 : pz_at 158 39 = some (39, .istore 6, 2, 0, 0, 0) := by decide +kernel
theorem pa_158_390 : pz_at 158 390 = some (390, .iaload, 1, 0, 0, 0) := by decide +kernel
theorem pa_158_391 : pz_at 158 391 = some (391, .iastore, 1, 0, 0, 0) := by decide +kernel
theorem pa_158_392 : pz_at 158 392 = some (392, .goto 17, 3, 409, 0, 0) := by decide +kernel
theorem pa_158_395 : pz_at 158 395 = some (395, .aload_n 0, 1, 0, 0, 0) := by decide +kernel
theorem pa_158_396 : pz_at 158 396 = some (396, .getfield 116, 3, 7, 44, 955) := by decide +kernel
theorem pa_158_399 : pz_at 158 399 = some (399, .iload 4, 2, 0, 0, 0) := by decide +kernel
theorem pa_158_4 : pz_at 158 4 = some (4, .iload_n 2, 1, 0, 0, 0) := by decide +kernel
theorem pa_158_401 : pz_at 158 401 = some (401, .aload_n 0, 1, 0, 0, 0) := by decide +kernel
theorem pa_158_402 : pz_at 158 402 = some (402, .getfield 65, 3, 7, 24, 935) := by decide +kernel
theorem pa_158_405 : pz_at 158 405 = some (405, .iload 8, 2, 0, 0, 0) := by decide +kernel
theorem pa_158_407 : pz_at 158 407 = some (407, .iaload, 1, 0, 0, 0) := by decide +kernel
theorem pa_158_408 : pz_at 158 408 = some (408, .iastore, 1, 0, 0, 0) := by decide +kernel
theorem pa_158_409 : pz_at 158 409 = some (409, .aload_n 0, 1, 0, 0, 0) := by decide +kernel
theorem pa_158_41 : pz_at 158 41 = some (41, .iload_n 3, 1, 0, 0, 0) := by decide +kernel
theorem pa_158_410 : pz_at 158 410 = some (410, .getfield 113, 3, 7, 43, 954) := by decide +kernel
theorem pa_158_413 : pz_at 158 413 = some (413, .iload_n 1, 1, 0, 0, 0) := by decide +kernel
theorem pa_158_414 : pz_at 158 414 = some (414, .dup2, 1, 0, 0, 0) := by decide +kernel
theorem pa_158_415 : pz_at 158 415 = some (415, .iaload, 1, 0, 0, 0) := by decide +kernel
theorem pa_158_416 : pz_at 158 416 = some (416, .iconst 1, 1, 0, 0, 0) := by decide +kernel
theorem pa_158_417 : pz_at 158 417 = some (417, .iadd, 1, 0, 0, 0) := by decide +kernel
theorem pa_158_418 : pz_at 158 418 = some (418, .iastore, 1, 0, 0, 0) := by decide +kernel
theorem pa_158_419 : pz_at 158 419 = some (419, .return_, 1, 0, 0, 0) := by decide +kernel
theorem pa_158_42 : pz_at 158 42 = some (42, .bipush 11, 2, 0, 0, 0) := by decide +kernel
theorem pa_158_44 : pz_at 158 44 = some (44, .if_icmp .eq 15, 3, 59, 0, 0) := by decide +kernel
theorem pa_158_47 : pz_at 158 47 = some (47, .iload_n 3, 1, 0, 0, 0) := by decide +kernel
theorem pa_158_48 : pz_at 158 48 = some (48, .bipush 13, 2, 0, 0, 0) := by decide +kernel
theorem pa_158_5 : pz_at 158 5 = some (5, .iaload, 1, 0, 0, 0) := by decide +kernel
theorem pa_158_50 : pz_at 158 50 = some (50, .if_icmp .eq 9, 3, 59, 0, 0) := by decide +kernel
theorem pa_158_53 : pz_at 158 53 = some (53, .iload_n 3, 1, 0, 0, 0) := by decide +kernel
theorem pa_158_54 : pz_at 158 54 = some (54, .bipush 15, 2, 0, 0, 0) := by decide +kernel
theorem pa_158_56 : pz_at 158 56 = some (56, .if_icmp .ne 7, 3, 63, 0, 0) := by decide +kernel
theorem pa_158_59 : pz_at 158 59 = some (59, .iconst 1, 1, 0, 0, 0) := by decide +kernel
theorem pa_158_6 : pz_at 158 6 = some (6, .istore_n 3, 1, 0, 0, 0) := by decide +kernel
theorem pa_158_60 : pz_at 158 60 = some (60, .goto 4, 3, 64, 0, 0) := by decide +kernel
theorem pa_158_63 : pz_at 158 63 = some (63, .iconst 0, 1, 0, 0, 0) := by decide +kernel
theorem pa_158_64 : pz_at 158 64 = some (64, .istore 7, 2, 0, 0, 0) := by decide +kernel
theorem pa_158_66 : pz_at 158 66 = some (66, .iload 7, 2, 0, 0, 0) := by decide +kernel
theorem pa_158_68 : pz_at 158 68 = some (68, .ifCond .eq 13, 3, 81, 0, 0) := by decide +kernel
theorem pa_158_7 : pz_at 158 7 = some (7, .bipush 8, 2, 0, 0, 0) := by decide +kernel
theorem pa_158_71 : pz_at 158 71 = some (71, .aload_n 0, 1, 0, 0, 0) := by decide +kernel
theorem pa_158_72 : pz_at 158 72 = some (72, .getfield 119, 3, 7, 45, 956) := by decide +kernel
theorem pa_158_75 : pz_at 158 75 = some (75, .iload 4, 2, 0, 0, 0) := by decide +kernel
theorem pa_158_77 : pz_at 158 77 = some (77, .iaload, 1, 0, 0, 0) := by decide +kernel
theorem pa_158_78 : pz_at 158 78 = some (78, .goto 10, 3, 88, 0, 0) := by decide +kernel
theorem pa_158_81 : pz_at 158 81 = some (81, .aload_n 0, 1, 0, 0, 0) := by decide +kernel
theorem pa_158_82 : pz_at 158 82 = some (82, .getfield 119, 3, 7, 45, 956) := by decide +kernel
theorem pa_158_85 : pz_at 158 85 = some (85, .iload 5, 2, 0, 0, 0) := by decide +kernel
theorem pa_158_87 : pz_at 158 87 = some (87, .iaload, 1, 0, 0, 0) := by decide +kernel
theorem pa_158_88 : pz_at 158 88 = some (88, .istore 8, 2, 0, 0, 0) := by decide +kernel
theorem pa_158_9 : pz_at 158 9 = some (9, .iload_n 1, 1, 0, 0, 0) := by decide +kernel
theorem pa_158_90 : pz_at 158 90 = some (90, .iload_n 3, 1, 0, 0, 0) := by decide +kernel
theorem pa_158_91 : pz_at 158 91 = some (91, .bipush 14, 2, 0, 0, 0) := by decide +kernel
theorem pa_158_93 : pz_at 158 93 = some (93, .if_icmp .ne 21, 3, 114, 0, 0) := by decide +kernel
theorem pa_158_96 : pz_at 158 96 = some (96, .aload_n 0, 1, 0, 0, 0) := by decide +kernel
theorem pa_158_97 : pz_at 158 97 = some (97, .getfield 116, 3, 7, 44, 955) := by decide +kernel
theorem pm_152 : pz_mi 152 = (7, 4, none) := by decide +kernel
theorem pm_154 : pz_mi 154 = (7, 3, none) := by decide +kernel
theorem pm_155 : pz_mi 155 = (7, 3, none) := by decide +kernel
theorem pm_156 : pz_mi 156 = (7, 6, (some .int)) := by decide +kernel
theorem pr_158 : (pz_mi 158).2.2 = none := by decide +kernel
theorem pa_159_0 : pz_at 159 0 = some (0, .iload_n 0, 1, 0, 0, 0) := by decide +kernel
theorem pa_159_1 : pz_at 159 1 = some (1, .iconst 1, 1, 0, 0, 0) := by decide +kernel
theorem pa_159_11 : pz_at 159 11 = some (11, .iload_n 0, 1, 0, 0, 0) := by decide +kernel
theorem pa_159_12 : pz_at 159 12 = some (12, .iconst 2, 1, 0, 0, 0) := by decide +kernel
theorem pa_159_13 : pz_at 159 13 = some (13, .if_icmp .ne 9, 3, 22, 0, 0) := by decide +kernel
theorem pa_159_16 : pz_at 159 16 = some (16, .iload_n 1, 1, 0, 0, 0) := by decide +kernel
theorem pa_159_17 : pz_at 159 17 = some (17, .iload_n 2, 1, 0, 0, 0) := by decide +kernel
theorem pa_159_18 : pz_at 159 18 = some (18, .isub, 1, 0, 0, 0) := by decide +kernel
theorem pa_159_19 : pz_at 159 19 = some (19, .goto 28, 3, 47, 0, 0) := by decide +kernel
theorem pa_159_2 : pz_at 159 2 = some (2, .if_icmp .ne 9, 3, 11, 0, 0) := by decide +kernel
theorem pa_159_22 : pz_at 159 22 = some (22, .iload_n 0, 1, 0, 0, 0) := by decide +kernel
theorem pa_159_23 : pz_at 159 23 = some (23, .iconst 3, 1, 0, 0, 0) := by decide +kernel
theorem pa_159_24 : pz_at 159 24 = some (24, .if_icmp .ne 9, 3, 33, 0, 0) := by decide +kernel
theorem pa_159_27 : pz_at 159 27 = some (27, .iload_n 1, 1, 0, 0, 0) := by decide +kernel
theorem pa_159_28 : pz_at 159 28 = some (28, .iload_n 2, 1, 0, 0, 0) := by decide +kernel
theorem pa_159_29 : pz_at 159 29 = some (29, .imul, 1, 0, 0, 0) := by decide +kernel
theorem pa_159_30 : pz_at 159 30 = some (30, .goto 17, 3, 47, 0, 0) := by decide +kernel
theorem pa_159_33 : pz_at 159 33 = some (33, .iload_n 0, 1, 0, 0, 0) := by decide +kernel
theorem pa_159_34 : pz_at 159 34 = some (34, .iconst 4, 1, 0, 0, 0) := by decide +kernel
theorem pa_159_35 : pz_at 159 35 = some (35, .if_icmp .ne 9, 3, 44, 0, 0) := by decide +kernel
theorem pa_159_38 : pz_at 159 38 = some (38, .iload_n 1, 1, 0, 0, 0) := by decide +kernel
theorem pa_159_39 : pz_at 159 39 = some (39, .iload_n 2, 1, 0, 0, 0) := by decide +kernel
theorem pa_159_40 : pz_at 159 40 = some (40, .idiv, 1, 0, 0, 0) := by decide +kernel
theorem pa_159_41 : pz_at 159 41 = some (41, .goto 6, 3, 47, 0, 0) := by decide +kernel
theorem pa_159_44 : pz_at 159 44 = some (44, .iload_n 1, 1, 0, 0, 0) := by decide +kernel
theorem pa_159_45 : pz_at 159 45 = some (45, .iload_n 2, 1, 0, 0, 0) := by decide +kernel
theorem pa_159_46 : pz_at 159 46 = some (46, .irem, 1, 0, 0, 0) := by decide +kernel
theorem pa_159_47 : pz_at 159 47 = some (47, .ireturn, 1, 0, 0, 0) := by decide +kernel
theorem pa_159_5 : pz_at 159 5 = some (5, .iload_n 1, 1, 0, 0, 0) := by decide +kernel
theorem pa_159_6 : pz_at 159 6 = some (6, .iload_n 2, 1, 0, 0, 0) := by decide +kernel
theorem pa_159_7 : pz_at 159 7 = some (7, .iadd, 1, 0, 0, 0) := by decide +kernel
theorem pa_159_8 : pz_at 159 8 = some (8, .goto 39, 3, 47, 0, 0) := by decide +kernel
theorem pr_159 : (pz_mi 159).2.2 = (some .int) := by decide +kernel
theorem pa_160_0 : pz_at 160 0 = some (0, .bipush 8, 2, 0, 0, 0) := by decide +kernel
theorem pa_160_10 : pz_at 160 10 = some (10, .bipush 7, 2, 0, 0, 0) := by decide +kernel
theorem pa_160_12 : pz_at 160 12 = some (12, .iand, 1, 0, 0, 0) := by decide +kernel
theorem pa_160_13 : pz_at 160 13 = some (13, .iadd, 1, 0, 0, 0) := by decide +kernel
theorem pa_160_14 : pz_at 160 14 = some (14, .istore_n 3, 1, 0, 0, 0) := by decide +kernel
theorem pa_160_140 : pz_at 160 140 = some (140, .aload_n 0, 1, 0, 0, 0) := by decide +kernel
theorem pa_160_141 : pz_at 160 141 = some (141, .getfield 116, 3, 7, 44, 955) := by decide +kernel
theorem pa_160_144 : pz_at 160 144 = some (144, .iload_n 3, 1, 0, 0, 0) := by decide +kernel
theorem pa_160_145 : pz_at 160 145 = some (145, .iload 5, 2, 0, 0, 0) := by decide +kernel
theorem pa_160_147 : pz_at 160 147 = some (147, .iastore, 1, 0, 0, 0) := by decide +kernel
theorem pa_160_148 : pz_at 160 148 = some (148, .goto 319, 3, 467, 0, 0) := by decide +kernel
theorem pa_160_15 : pz_at 160 15 = some (15, .aload_n 0, 1, 0, 0, 0) := by decide +kernel
theorem pa_160_151 : pz_at 160 151 = some (151, .aload_n 0, 1, 0, 0, 0) := by decide +kernel
theorem pa_160_152 : pz_at 160 152 = some (152, .getfield 35, 3, 7, 12, 923) := by decide +kernel
theorem pa_160_155 : pz_at 160 155 = some (155, .iload_n 2, 1, 0, 0, 0) := by decide +kernel
theorem pa_160_156 : pz_at 160 156 = some (156, .iaload, 1, 0, 0, 0) := by decide +kernel
theorem pa_160_157 : pz_at 160 157 = some (157, .iconst 3, 1, 0, 0, 0) := by decide +kernel
theorem pa_160_158 : pz_at 160 158 = some (158, .if_icmp .le 24, 3, 182, 0, 0) := by decide +kernel
theorem pa_160_16 : pz_at 160 16 = some (16, .getfield 41, 3, 7, 14, 925) := by decide +kernel
theorem pa_160_161 : pz_at 160 161 = some (161, .aload_n 0, 1, 0, 0, 0) := by decide +kernel
theorem pa_160_162 : pz_at 160 162 = some (162, .getfield 116, 3, 7, 44, 955) := by decide +kernel
theorem pa_160_165 : pz_at 160 165 = some (165, .bipush 8, 2, 0, 0, 0) := by decide +kernel
theorem pa_160_167 : pz_at 160 167 = some (167, .iload_n 1, 1, 0, 0, 0) := by decide +kernel
theorem pa_160_168 : pz_at 160 168 = some (168, .imul, 1, 0, 0, 0) := by decide +kernel
theorem pa_160_169 : pz_at 160 169 = some (169, .iload 5, 2, 0, 0, 0) := by decide +kernel
theorem pa_160_171 : pz_at 160 171 = some (171, .iadd, 1, 0, 0, 0) := by decide +kernel
theorem pa_160_172 : pz_at 160 172 = some (172, .iaload, 1, 0, 0, 0) := by decide +kernel
theorem pa_160_173 : pz_at 160 173 = some (173, .ifCond .ne 9, 3, 182, 0, 0) := by decide +kernel
theorem pa_160_176 : pz_at 160 176 = some (176, .aload_n 0, 1, 0, 0, 0) := by decide +kernel
theorem pa_160_177 : pz_at 160 177 = some (177, .iconst 1, 1, 0, 0, 0) := by decide +kernel
theorem pa_160_178 : pz_at 160 178 = some (178, .invokevirtual 317, 3, 152, 1, 1327) := by decide +kernel
theorem pa_160_181 : pz_at 160 181 = some (181, .return_, 1, 0, 0, 0) := by decide +kernel
theorem pa_160_182 : pz_at 160 182 = some (182, .aload_n 0, 1, 0, 0, 0) := by decide +kernel
theorem pa_160_183 : pz_at 160 183 = some (183, .getfield 116, 3, 7, 44, 955) := by decide +kernel
theorem pa_160_186 : pz_at 160 186 = some (186, .iload_n 3, 1, 0, 0, 0) := by decide +kernel
theorem pa_160_187 : pz_at 160 187 = some (187, .aload_n 0, 1, 0, 0, 0) := by decide +kernel
theorem pa_160_188 : pz_at 160 188 = some (188, .getfield 35, 3, 7, 12, 923) := by decide +kernel
theorem pa_160_19 : pz_at 160 19 = some (19, .iload_n 2, 1, 0, 0, 0) := by decide +kernel
theorem pa_160_191 : pz_at 160 191 = some (191, .iload_n 2, 1, 0, 0, 0) := by decide +kernel
theorem pa_160_192 : pz_at 160 192 = some (192, .iaload, 1, 0, 0, 0) := by decide +kernel
theorem pa_160_193 : pz_at 160 193 = some (193, .aload_n 0, 1, 0, 0, 0) := by decide +kernel
theorem pa_160_194 : pz_at 160 194 = some (194, .getfield 116, 3, 7, 44, 955) := by decide +kernel
theorem pa_160_197 : pz_at 160 197 = some (197, .bipush 8, 2, 0, 0, 0) := by decide +kernel
theorem pa_160_199 : pz_at 160 199 = some (199, .iload_n 1, 1, 0, 0, 0) := by decide +kernel
theorem pa_160_2 : pz_at 160 2 = some (2, .iload_n 1, 1, 0, 0, 0) := by decide +kernel
theorem pa_160_20 : pz_at 160 20 = some (20, .iaload, 1, 0, 0, 0) := by decide +kernel
theorem pa_160_200 : pz_at 160 200 = some (200, .imul, 1, 0, 0, 0) := by decide +kernel
theorem pa_160_201 : pz_at 160 201 = some (201, .iload 4, 2, 0, 0, 0) := by decide +kernel
theorem pa_160_203 : pz_at 160 203 = some (203, .iadd, 1, 0, 0, 0) := by decide +kernel
theorem pa_160_204 : pz_at 160 204 = some (204, .iaload, 1, 0, 0, 0) := by decide +kernel
theorem pa_160_205 : pz_at 160 205 = some (205, .aload_n 0, 1, 0, 0, 0) := by decide +kernel
theorem pa_160_206 : pz_at 160 206 = some (206, .getfield 116, 3, 7, 44, 955) := by decide +kernel
theorem pa_160_209 : pz_at 160 209 = some (209, .bipush 8, 2, 0, 0, 0) := by decide +kernel
theorem pa_160_21 : pz_at 160 21 = some (21, .istore 4, 2, 0, 0, 0) := by decide +kernel
theorem pa_160_211 : pz_at 160 211 = some (211, .iload_n 1, 1, 0, 0, 0) := by decide +kernel
theorem pa_160_212 : pz_at 160 212 = some (212, .imul, 1, 0, 0, 0) := by decide +kernel
theorem pa_160_213 : pz_at 160 213 = some (213, .iload 5, 2, 0, 0, 0) := by decide +kernel
theorem pa_160_215 : pz_at 160 215 = some (215, .iadd, 1, 0, 0, 0) := by decide +kernel
theorem pa_160_216 : pz_at 160 216 = some (216, .iaload, 1, 0, 0, 0) := by decide +kernel
theorem pa_160_217 : pz_at 160 217 = some (217, .invokestatic 325, 3, 159, 3, 1343) := by decide +kernel
theorem pa_160_220 : pz_at 160 220 = some (220, .iastore, 1, 0, 0, 0) := by decide +kernel
theorem pa_160_221 : pz_at 160 221 = some (221, .goto 246, 3, 467, 0, 0) := by decide +kernel
theorem pa_160_224 : pz_at 160 224 = some (224, .aload_n 0, 1, 0, 0, 0) := by decide +kernel
theorem pa_160_225 : pz_at 160 225 = some (225, .getfield 119, 3, 7, 45, 956) := by decide +kernel
theorem pa_160_228 : pz_at 160 228 = some (228, .iload_n 3, 1, 0, 0, 0) := by decide +kernel
theorem pa_160_229 : pz_at 160 229 = some (229, .iconst (-1), 1, 0, 0, 0) := by decide +kernel
theorem pa_160_23 : pz_at 160 23 = some (23, .aload_n 0, 1, 0, 0, 0) := by decide +kernel
theorem pa_160_230 : pz_at 160 230 = some (230, .iastore, 1, 0, 0, 0) := by decide +kernel
theorem pa_160_231 : pz_at 160 231 = some (231, .goto 236, 3, 467, 0, 0) := by decide +kernel
theorem pa_160_234 : pz_at 160 234 = some (234, .aload_n 0, 1, 0, 0, 0) := by decide +kernel
theorem pa_160_235 : pz_at 160 235 = some (235, .getfield 119, 3, 7, 45, 956) := by decide +kernel
theorem pa_160_238 : pz_at 160 238 = some (238, .iload_n 3, 1, 0, 0, 0) := by decide +kernel
theorem pa_160_239 : pz_at 160 239 = some (239, .aload_n 0, 1, 0, 0, 0) := by decide +kernel
theorem pa_160_24 : pz_at 160 24 = some (24, .getfield 44, 3, 7, 15, 926) := by decide +kernel
theorem pa_160_240 : pz_at 160 240 = some (240, .getfield 119, 3, 7, 45, 956) := by decide +kernel
theorem pa_160_243 : pz_at 160 243 = some (243, .bipush 8, 2, 0, 0, 0) := by decide +kernel
theorem pa_160_245 : pz_at 160 245 = some (245, .iload_n 1, 1, 0, 0, 0) := by decide +kernel
theorem pa_160_246 : pz_at 160 246 = some (246, .imul, 1, 0, 0, 0) := by decide +kernel
theorem pa_160_247 : pz_at 160 247 = some (247, .iload 4, 2, 0, 0, 0) := by decide +kernel
theorem pa_160_249 : pz_at 160 249 = some (249, .iadd, 1, 0, 0, 0) := by decide +kernel
theorem pa_160_250 : pz_at 160 250 = some (250, .iaload, 1, 0, 0, 0) := by decide +kernel
theorem pa_160_251 : pz_at 160 251 = some (251, .iastore, 1, 0, 0, 0) := by decide +kernel
theorem pa_160_252 : pz_at 160 252 = some (252, .goto 215, 3, 467, 0, 0) := by decide +kernel
theorem pa_160_255 : pz_at 160 255 = some (255, .aload_n 0, 1, 0, 0, 0) := by decide +kernel
theorem pa_160_256 : pz_at 160 256 = some (256, .iload 4, 2, 0, 0, 0) := by decide +kernel
theorem pa_160_258 : pz_at 160 258 = some (258, .iconst 0, 1, 0, 0, 0) := by decide +kernel
theorem pa_160_259 : pz_at 160 259 = some (259, .invokevirtual 328, 3, 153, 2, 1346) := by decide +kernel
theorem pa_160_262 : pz_at 160 262 = some (262, .istore 6, 2, 0, 0, 0) := by decide +kernel
theorem pa_160_264 : pz_at 160 264 = some (264, .aload_n 0, 1, 0, 0, 0) := by decide +kernel
theorem pa_160_265 : pz_at 160 265 = some (265, .getfield 119, 3, 7, 45, 956) := by decide +kernel
theorem pa_160_268 : pz_at 160 268 = some (268, .iload_n 3, 1, 0, 0, 0) := by decide +kernel
theorem pa_160_269 : pz_at 160 269 = some (269, .iload 6, 2, 0, 0, 0) := by decide +kernel
theorem pa_160_27 : pz_at 160 27 = some (27, .iload_n 2, 1, 0, 0, 0) := by decide +kernel
theorem pa_160_271 : pz_at 160 271 = some (271, .iastore, 1, 0, 0, 0) := by decide +kernel
theorem pa_160_272 : pz_at 160 272 = some (272, .goto 195, 3, 467, 0, 0) := by decide +kernel
theorem pa_160_275 : pz_at 160 275 = some (275, .aload_n 0, 1, 0, 0, 0) := by decide +kernel
theorem pa_160_276 : pz_at 160 276 = some (276, .iload_n 1, 1, 0, 0, 0) := by decide +kernel
theorem pa_160_277 : pz_at 160 277 = some (277, .iload_n 3, 1, 0, 0, 0) := by decide +kernel
theorem pa_160_278 : pz_at 160 278 = some (278, .aload_n 0, 1, 0, 0, 0) := by decide +kernel
theorem pa_160_279 : pz_at 160 279 = some (279, .getfield 116, 3, 7, 44, 955) := by decide +kernel
theorem pa_160_28 : pz_at 160 28 = some (28, .iaload, 1, 0, 0, 0) := by decide +kernel
theorem pa_160_282 : pz_at 160 282 = some (282, .bipush 8, 2, 0, 0, 0) := by decide +kernel
theorem pa_160_284 : pz_at 160 284 = some (284, .iload_n 1, 1, 0, 0, 0) := by decide +kernel
theorem pa_160_285 : pz_at 160 285 = some (285, .imul, 1, 0, 0, 0) := by decide +kernel
theorem pa_160_286 : pz_at 160 286 = some (286, .iload 4, 2, 0, 0, 0) := by decide +kernel
theorem pa_160_288 : pz_at 160 288 = some (288, .iadd, 1, 0, 0, 0) := by decide +kernel
theorem pa_160_289 : pz_at 160 289 = some (289, .iaload, 1, 0, 0, 0) := by decide +kernel
theorem pa_160_29 : pz_at 160 29 = some (29, .istore 5, 2, 0, 0, 0) := by decide +kernel
theorem pa_160_290 : pz_at 160 290 = some (290, .invokevirtual 332, 3, 161, 3, 1350) := by decide +kernel
theorem pa_160_293 : pz_at 160 293 = some (293, .return_, 1, 0, 0, 0) := by decide +kernel
theorem pa_160_294 : pz_at 160 294 = some (294, .aload_n 0, 1, 0, 0, 0) := by decide +kernel
theorem pa_160_295 : pz_at 160 295 = some (295, .dup, 1, 0, 0, 0) := by decide +kernel
theorem pa_160_296 : pz_at 160 296 = some (296, .getfield 335, 3, 7, 58, 969) := by decide +kernel
theorem pa_160_299 : pz_at 160 299 = some (299, .iconst 1, 1, 0, 0, 0) := by decide +kernel
theorem pa_160_3 : pz_at 160 3 = some (3, .imul, 1, 0, 0, 0) := by decide +kernel
theorem pa_160_300 : pz_at 160 300 = some (300, .bipush 16, 2, 0, 0, 0) := by decide +kernel
theorem pa_160_302 : pz_at 160 302 = some (302, .iload 4, 2, 0, 0, 0) := by decide +kernel
theorem pa_160_304 : pz_at 160 304 = some (304, .iadd, 1, 0, 0, 0) := by decide +kernel
theorem pa_160_305 : pz_at 160 305 = some (305, .ishl, 1, 0, 0, 0) := by decide +kernel
theorem pa_160_306 : pz_at 160 306 = some (306, .ior, 1, 0, 0, 0) := by decide +kernel
theorem pa_160_307 : pz_at 160 307 = some (307, .putfield 335, 3, 7, 58, 969) := by decide +kernel
theorem pa_160_31 : pz_at 160 31 = some (31, .aload_n 0, 1, 0, 0, 0) := by decide +kernel
theorem pa_160_310 : pz_at 160 310 = some (310, .aload_n 0, 1, 0, 0, 0) := by decide +kernel
theorem pa_160_311 : pz_at 160 311 = some (311, .getfield 116, 3, 7, 44, 955) := by decide +kernel
theorem pa_160_314 : pz_at 160 314 = some (314, .iload_n 3, 1, 0, 0, 0) := by decide +kernel
theorem pa_160_315 : pz_at 160 315 = some (315, .aload_n 0, 1, 0, 0, 0) := by decide +kernel
theorem pa_160_316 : pz_at 160 316 = some (316, .getfield 71, 3, 7, 26, 937) := by decide +kernel
theorem pa_160_319 : pz_at 160 319 = some (319, .iload 4, 2, 0, 0, 0) := by decide +kernel
theorem pa_160_32 : pz_at 160 32 = some (32, .getfield 35, 3, 7, 12, 923) := by decide +kernel
theorem pa_160_321 : pz_at 160 321 = some (321, .iaload, 1, 0, 0, 0) := by decide +kernel
theorem pa_160_322 : pz_at 160 322 = some (322, .iastore, 1, 0, 0, 0) := by decide +kernel
theorem pa_160_323 : pz_at 160 323 = some (323, .goto 144, 3, 467, 0, 0) := by decide +kernel
theorem pa_160_326 : pz_at 160 326 = some (326, .aload_n 0, 1, 0, 0, 0) := by decide +kernel
theorem pa_160_327 : pz_at 160 327 = some (327, .dup, 1, 0, 0, 0) := by decide +kernel
theorem pa_160_328 : pz_at 160 328 = some (328, .getfield 335, 3, 7, 58, 969) := by decide +kernel
theorem pa_160_331 : pz_at 160 331 = some (331, .iconst 1, 1, 0, 0, 0) := by decide +kernel
theorem pa_160_332 : pz_at 160 332 = some (332, .bipush 16, 2, 0, 0, 0) := by decide +kernel
theorem pa_160_334 : pz_at 160 334 = some (334, .iload 4, 2, 0, 0, 0) := by decide +kernel
theorem pa_160_336 : pz_at 160 336 = some (336, .iadd, 1, 0, 0, 0) := by decide +kernel
theorem pa_160_337 : pz_at 160 337 = some (337, .ishl, 1, 0, 0, 0) := by decide +kernel
theorem pa_160_338 : pz_at 160 338 = some (338, .ior, 1, 0, 0, 0) := by decide +kernel
theorem pa_160_339 : pz_at 160 339 = some (339, .putfield 335, 3, 7, 58, 969) := by decide +kernel
theorem pa_160_342 : pz_at 160 342 = some (342, .aload_n 0, 1, 0, 0, 0) := by decide +kernel
theorem pa_160_343 : pz_at 160 343 = some (343, .getfield 119, 3, 7, 45, 956) := by decide +kernel
theorem pa_160_346 : pz_at 160 346 = some (346, .iload_n 3, 1, 0, 0, 0) := by decide +kernel
theorem pa_160_347 : pz_at 160 347 = some (347, .aload_n 0, 1, 0, 0, 0) := by decide +kernel
theorem pa_160_348 : pz_at 160 348 = some (348, .getfield 71, 3, 7, 26, 937) := by decide +kernel
theorem pa_160_35 : pz_at 160 35 = some (35, .iload_n 2, 1, 0, 0, 0) := by decide +kernel
theorem pa_160_351 : pz_at 160 351 = some (351, .iload 4, 2, 0, 0, 0) := by decide +kernel
theorem pa_160_353 : pz_at 160 353 = some (353, .iaload, 1, 0, 0, 0) := by decide +kernel
theorem pa_160_354 : pz_at 160 354 = some (354, .iastore, 1, 0, 0, 0) := by decide +kernel
theorem pa_160_355 : pz_at 160 355 = some (355, .goto 112, 3, 467, 0, 0) := by decide +kernel
theorem pa_160_358 : pz_at 160 358 = some (358, .aload_n 0, 1, 0, 0, 0) := by decide +kernel
theorem pa_160_359 : pz_at 160 359 = some (359, .dup, 1, 0, 0, 0) := by decide +kernel
theorem pa_160_36 : pz_at 160 36 = some (36, .iaload, 1, 0, 0, 0) := by decide +kernel
theorem pa_160_360 : pz_at 160 360 = some (360, .getfield 338, 3, 7, 59, 970) := by decide +kernel
theorem pa_160_363 : pz_at 160 363 = some (363, .iconst 1, 1, 0, 0, 0) := by decide +kernel
theorem pa_160_364 : pz_at 160 364 = some (364, .bipush 16, 2, 0, 0, 0) := by decide +kernel
theorem pa_160_366 : pz_at 160 366 = some (366, .aload_n 0, 1, 0, 0, 0) := by decide +kernel
theorem pa_160_367 : pz_at 160 367 = some (367, .getfield 38, 3, 7, 13, 924) := by decide +kernel
theorem pa_160_37 : pz_at 160 37 = some (37, .tableswitch 420 0 21 #[103, 114, 114, 114, 114, 114, 187, 197, 218, 238, 420, 420, 420, 420, 420, 420, 257, 321, 289, 367, 420, 413], 103, 0, 0, 0) := by decide +kernel
theorem pa_160_370 : pz_at 160 370 = some (370, .iload_n 2, 1, 0, 0, 0) := by decide +kernel
theorem pa_160_371 : pz_at 160 371 = some (371, .iaload, 1, 0, 0, 0) := by decide +kernel
theorem pa_160_372 : pz_at 160 372 = some (372, .iadd, 1, 0, 0, 0) := by decide +kernel
theorem pa_160_373 : pz_at 160 373 = some (373, .ishl, 1, 0, 0, 0) := by decide +kernel
theorem pa_160_374 : pz_at 160 374 = some (374, .ior, 1, 0, 0, 0) := by decide +kernel
theorem pa_160_375 : pz_at 160 375 = some (375, .putfield 338, 3, 7, 59, 970) := by decide +kernel
theorem pa_160_378 : pz_at 160 378 = some (378, .aload_n 0, 1, 0, 0, 0) := by decide +kernel
theorem pa_160_379 : pz_at 160 379 = some (379, .getfield 71, 3, 7, 26, 937) := by decide +kernel
theorem pa_160_382 : pz_at 160 382 = some (382, .aload_n 0, 1, 0, 0, 0) := by decide +kernel
theorem pa_160_383 : pz_at 160 383 = some (383, .getfield 38, 3, 7, 13, 924) := by decide +kernel
theorem pa_160_386 : pz_at 160 386 = some (386, .iload_n 2, 1, 0, 0, 0) := by decide +kernel
theorem pa_160_387 : pz_at 160 387 = some (387, .iaload, 1, 0, 0, 0) := by decide +kernel
theorem pa_160_388 : pz_at 160 388 = some (388, .aload_n 0, 1, 0, 0, 0) := by decide +kernel
theorem pa_160_389 : pz_at 160 389 = some (389, .getfield 116, 3, 7, 44, 955) := by decide +kernel
theorem pa_160_392 : pz_at 160 392 = some (392, .bipush 8, 2, 0, 0, 0) := by decide +kernel
theorem pa_160_394 : pz_at 160 394 = some (394, .iload_n 1, 1, 0, 0, 0) := by decide +kernel
theorem pa_160_395 : pz_at 160 395 = some (395, .imul, 1, 0, 0, 0) := by decide +kernel
theorem pa_160_396 : pz_at 160 396 = some (396, .iload 4, 2, 0, 0, 0) := by decide +kernel
theorem pa_160_398 : pz_at 160 398 = some (398, .iadd, 1, 0, 0, 0) := by decide +kernel
theorem pa_160_399 : pz_at 160 399 = some (399, .iaload, 1, 0, 0, 0) := by decide +kernel
theorem pa_160_4 : pz_at 160 4 = some (4, .aload_n 0, 1, 0, 0, 0) := by decide +kernel
theorem pa_160_400 : pz_at 160 400 = some (400, .iastore, 1, 0, 0, 0) := by decide +kernel
theorem pa_160_401 : pz_at 160 401 = some (401, .goto 66, 3, 467, 0, 0) := by decide +kernel
theorem pa_160_404 : pz_at 160 404 = some (404, .aload_n 0, 1, 0, 0, 0) := by decide +kernel
theorem pa_160_405 : pz_at 160 405 = some (405, .dup, 1, 0, 0, 0) := by decide +kernel
theorem pa_160_406 : pz_at 160 406 = some (406, .getfield 338, 3, 7, 59, 970) := by decide +kernel
theorem pa_160_409 : pz_at 160 409 = some (409, .iconst 1, 1, 0, 0, 0) := by decide +kernel
theorem pa_160_410 : pz_at 160 410 = some (410, .bipush 16, 2, 0, 0, 0) := by decide +kernel
theorem pa_160_412 : pz_at 160 412 = some (412, .aload_n 0, 1, 0, 0, 0) := by decide +kernel
theorem pa_160_413 : pz_at 160 413 = some (413, .getfield 38, 3, 7, 13, 924) := by decide +kernel
theorem pa_160_416 : pz_at 160 416 = some (416, .iload_n 2, 1, 0, 0, 0) := by decide +kernel
theorem pa_160_417 : pz_at 160 417 = some (417, .iaload, 1, 0, 0, 0) := by decide +kernel
theorem pa_160_418 : pz_at 160 418 = some (418, .iadd, 1, 0, 0, 0) := by decide +kernel
theorem pa_160_419 : pz_at 160 419 = some (419, .ishl, 1, 0, 0, 0) := by decide +kernel
theorem pa_160_420 : pz_at 160 420 = some (420, .ior, 1, 0, 0, 0) := by decide +kernel
theorem pa_160_421 : pz_at 160 421 = some (421, .putfield 338, 3, 7, 59, 970) := by decide +kernel
theorem pa_160_424 : pz_at 160 424 = some (424, .aload_n 0, 1, 0, 0, 0) := by decide +kernel
theorem pa_160_425 : pz_at 160 425 = some (425, .getfield 71, 3, 7, 26, 937) := by decide +kernel
theorem pa_160_428 : pz_at 160 428 = some (428, .aload_n 0, 1, 0, 0, 0) := by decide +kernel
theorem pa_160_429 : pz_at 160 429 = some (429, .getfield 38, 3, 7, 13, 924) := by decide +kernel
theorem pa_160_432 : pz_at 160 432 = some (432, .iload_n 2, 1, 0, 0, 0) := by decide +kernel
theorem pa_160_433 : pz_at 160 433 = some (433, .iaload, 1, 0, 0, 0) := by decide +kernel
theorem pa_160_434 : pz_at 160 434 = some (434, .aload_n 0, 1, 0, 0, 0) := by decide +kernel
theorem pa_160_435 : pz_at 160 435 = some (435, .getfield 119, 3, 7, 45, 956) := by decide +kernel
theorem pa_160_438 : pz_at 160 438 = some (438, .bipush 8, 2, 0, 0, 0) := by decide +kernel
theorem pa_160_440 : pz_at 160 440 = some (440, .iload_n 1, 1, 0, 0, 0) := by decide +kernel
theorem pa_160_441 : pz_at 160 441 = some (441, .imul, 1, 0, 0, 0) := by decide +kernel
theorem pa_160_442 : pz_at 160 442 = some (442, .iload 4, 2, 0, 0, 0) := by decide +kernel
theorem pa_160_444 : pz_at 160 444 = some (444, .iadd, 1, 0, 0, 0) := by decide +kernel
theorem pa_160_445 : pz_at 160 445 = some (445, .iaload, 1, 0, 0, 0) := by decide +kernel
theorem pa_160_446 : pz_at 160 446 = some (446, .iastore, 1, 0, 0, 0) := by decide +kernel
theorem pa_160_447 : pz_at 160 447 = some (447, .goto 20, 3, 467, 0, 0) := by decide +kernel
theorem pa_160_450 : pz_at 160 450 = some (450, .aload_n 0, 1, 0, 0, 0) := by decide +kernel
theorem pa_160_451 : pz_at 160 451 = some (451, .iload_n 1, 1, 0, 0, 0) := by decide +kernel
theorem pa_160_452 : pz_at 160 452 = some (452, .iload_n 2, 1, 0, 0, 0) := by decide +kernel
theorem pa_160_453 : pz_at 160 453 = some (453, .invokevirtual 341, 3, 163, 2, 1354) := by decide +kernel
theorem pa_160_456 : pz_at 160 456 = some (456, .return_, 1, 0, 0, 0) := by decide +kernel
theorem pa_160_457 : pz_at 160 457 = some (457, .aload_n 0, 1, 0, 0, 0) := by decide +kernel
theorem pa_160_458 : pz_at 160 458 = some (458, .aload_n 0, 1, 0, 0, 0) := by decide +kernel
theorem pa_160_459 : pz_at 160 459 = some (459, .getfield 116, 3, 7, 44, 955) := by decide +kernel
theorem pa_160_462 : pz_at 160 462 = some (462, .iload_n 3, 1, 0, 0, 0) := by decide +kernel
theorem pa_160_463 : pz_at 160 463 = some (463, .iaload, 1, 0, 0, 0) := by decide +kernel
theorem pa_160_464 : pz_at 160 464 = some (464, .invokevirtual 344, 3, 162, 1, 1358) := by decide +kernel
theorem pa_160_467 : pz_at 160 467 = some (467, .aload_n 0, 1, 0, 0, 0) := by decide +kernel
theorem pa_160_468 : pz_at 160 468 = some (468, .getfield 113, 3, 7, 43, 954) := by decide +kernel
theorem pa_160_471 : pz_at 160 471 = some (471, .iload_n 1, 1, 0, 0, 0) := by decide +kernel
theorem pa_160_472 : pz_at 160 472 = some (472, .dup2, 1, 0, 0, 0) := by decide +kernel
theorem pa_160_473 : pz_at 160 473 = some (473, .iaload, 1, 0, 0, 0) := by decide +kernel
theorem pa_160_474 : pz_at 160 474 = some (474, .iconst 1, 1, 0, 0, 0) := by decide +kernel
theorem pa_160_475 : pz_at 160 475 = some (475, .iadd, 1, 0, 0, 0) := by decide +kernel
theorem pa_160_476 : pz_at 160 476 = some (476, .iastore, 1, 0, 0, 0) := by decide +kernel
theorem pa_160_477 : pz_at 160 477 = some (477, .return_, 1, 0, 0, 0) := by decide +kernel
theorem pa_160_5 : pz_at 160 5 = some (5, .getfield 38, 3, 7, 13, 924) := by decide +kernel
theorem pa_160_8 : pz_at 160 8 = some (8, .iload_n 2, 1, 0, 0, 0) := by decide +kernel
theorem pa_160_9 : pz_at 160 9 = some (9, .iaload, 1, 0, 0, 0) := by decide +kernel
theorem pf_55_7_58 : pz_gf 55 7 58 = some none := by decide +kernel
theorem pf_55_7_59 : pz_gf 55 7 59 = some none := by decide +kernel
theorem pm_153 : pz_mi 153 = (7, 3, (some .int)) := by decide +kernel
theorem pm_159 : pz_mi 159 = (7, 3, (some .int)) := by decide +kernel
theorem pm_161 : pz_mi 161 = (7, 4, none) := by decide +kernel
theorem pm_162 : pz_mi 162 = (7, 2, none) := by decide +kernel
theorem pm_163 : pz_mi 163 = (7, 5, none) := by decide +kernel
theorem pr_160 : (pz_mi 160).2.2 = none := by decide +kernel
theorem pa_161_0 : pz_at 161 0 = some (0, .iload_n 3, 1, 0, 0, 0) := by decide +kernel
theorem pa_161_1 : pz_at 161 1 = some (1, .ifCond .ge 9, 3, 10, 0, 0) := by decide +kernel
theorem pa_161_10 : pz_at 161 10 = some (10, .iload_n 3, 1, 0, 0, 0) := by decide +kernel
theorem pa_161_11 : pz_at 161 11 = some (11, .bipush 16, 2, 0, 0, 0) := by decide +kernel
theorem pa_161_13 : pz_at 161 13 = some (13, .if_icmp .le 9, 3, 22, 0, 0) := by decide +kernel
theorem pa_161_16 : pz_at 161 16 = some (16, .aload_n 0, 1, 0, 0, 0) := by decide +kernel
theorem pa_161_17 : pz_at 161 17 = some (17, .iconst 1, 1, 0, 0, 0) := by decide +kernel
theorem pa_161_18 : pz_at 161 18 = some (18, .putfield 275, 3, 7, 46, 957) := by decide +kernel
theorem pa_161_21 : pz_at 161 21 = some (21, .return_, 1, 0, 0, 0) := by decide +kernel
theorem pa_161_22 : pz_at 161 22 = some (22, .aload_n 0, 1, 0, 0, 0) := by decide +kernel
theorem pa_161_23 : pz_at 161 23 = some (23, .getfield 119, 3, 7, 45, 956) := by decide +kernel
theorem pa_161_26 : pz_at 161 26 = some (26, .iload_n 2, 1, 0, 0, 0) := by decide +kernel
theorem pa_161_27 : pz_at 161 27 = some (27, .aload_n 0, 1, 0, 0, 0) := by decide +kernel
theorem pa_161_28 : pz_at 161 28 = some (28, .iconst (-1), 1, 0, 0, 0) := by decide +kernel
theorem pa_161_29 : pz_at 161 29 = some (29, .iload_n 3, 1, 0, 0, 0) := by decide +kernel
theorem pa_161_30 : pz_at 161 30 = some (30, .invokevirtual 328, 3, 153, 2, 1346) := by decide +kernel
theorem pa_161_33 : pz_at 161 33 = some (33, .iastore, 1, 0, 0, 0) := by decide +kernel
theorem pa_161_34 : pz_at 161 34 = some (34, .aload_n 0, 1, 0, 0, 0) := by decide +kernel
theorem pa_161_35 : pz_at 161 35 = some (35, .getfield 113, 3, 7, 43, 954) := by decide +kernel
theorem pa_161_38 : pz_at 161 38 = some (38, .iload_n 1, 1, 0, 0, 0) := by decide +kernel
theorem pa_161_39 : pz_at 161 39 = some (39, .dup2, 1, 0, 0, 0) := by decide +kernel
theorem pa_161_4 : pz_at 161 4 = some (4, .aload_n 0, 1, 0, 0, 0) := by decide +kernel
theorem pa_161_40 : pz_at 161 40 = some (40, .iaload, 1, 0, 0, 0) := by decide +kernel
theorem pa_161_41 : pz_at 161 41 = some (41, .iconst 1, 1, 0, 0, 0) := by decide +kernel
theorem pa_161_42 : pz_at 161 42 = some (42, .iadd, 1, 0, 0, 0) := by decide +kernel
theorem pa_161_43 : pz_at 161 43 = some (43, .iastore, 1, 0, 0, 0) := by decide +kernel
theorem pa_161_44 : pz_at 161 44 = some (44, .return_, 1, 0, 0, 0) := by decide +kernel
theorem pa_161_5 : pz_at 161 5 = some (5, .iconst 2, 1, 0, 0, 0) := by decide +kernel
theorem pa_161_6 : pz_at 161 6 = some (6, .invokevirtual 317, 3, 152, 1, 1327) := by decide +kernel
theorem pa_161_9 : pz_at 161 9 = some (9, .return_, 1, 0, 0, 0) := by decide +kernel
theorem pr_161 : (pz_mi 161).2.2 = none := by decide +kernel
theorem pa_162_0 : pz_at 162 0 = some (0, .aload_n 0, 1, 0, 0, 0) := by decide +kernel
theorem pa_162_1 : pz_at 162 1 = some (1, .getfield 347, 3, 7, 27, 938) := by decide +kernel
theorem pa_162_10 : pz_at 162 10 = some (10, .aload_n 0, 1, 0, 0, 0) := by decide +kernel
theorem pa_162_11 : pz_at 162 11 = some (11, .getfield 74, 3, 7, 28, 939) := by decide +kernel
theorem pa_162_14 : pz_at 162 14 = some (14, .aload_n 0, 1, 0, 0, 0) := by decide +kernel
theorem pa_162_15 : pz_at 162 15 = some (15, .getfield 347, 3, 7, 27, 938) := by decide +kernel
theorem pa_162_18 : pz_at 162 18 = some (18, .iload_n 1, 1, 0, 0, 0) := by decide +kernel
theorem pa_162_19 : pz_at 162 19 = some (19, .iastore, 1, 0, 0, 0) := by decide +kernel
theorem pa_162_20 : pz_at 162 20 = some (20, .aload_n 0, 1, 0, 0, 0) := by decide +kernel
theorem pa_162_21 : pz_at 162 21 = some (21, .dup, 1, 0, 0, 0) := by decide +kernel
theorem pa_162_22 : pz_at 162 22 = some (22, .getfield 347, 3, 7, 27, 938) := by decide +kernel
theorem pa_162_25 : pz_at 162 25 = some (25, .iconst 1, 1, 0, 0, 0) := by decide +kernel
theorem pa_162_26 : pz_at 162 26 = some (26, .iadd, 1, 0, 0, 0) := by decide +kernel
theorem pa_162_27 : pz_at 162 27 = some (27, .putfield 347, 3, 7, 27, 938) := by decide +kernel
theorem pa_162_30 : pz_at 162 30 = some (30, .return_, 1, 0, 0, 0) := by decide +kernel
theorem pa_162_4 : pz_at 162 4 = some (4, .sipush 200, 3, 0, 0, 0) := by decide +kernel
theorem pa_162_7 : pz_at 162 7 = some (7, .if_icmp .ge 13, 3, 20, 0, 0) := by decide +kernel
theorem pf_55_7_27 : pz_gf 55 7 27 = some none := by decide +kernel
theorem pf_55_7_28 : pz_gf 55 7 28 = some (some 77) := by decide +kernel
theorem pg_77 : pz_ga 77 = some (.int, 200) := by decide +kernel
theorem pr_162 : (pz_mi 162).2.2 = none := by decide +kernel
theorem pa_163_0 : pz_at 163 0 = some (0, .aload_n 0, 1, 0, 0, 0) := by decide +kernel
theorem pa_163_1 : pz_at 163 1 = some (1, .getfield 41, 3, 7, 14, 925) := by decide +kernel
theorem pa_163_102 : pz_at 163 102 = some (102, .bipush 8, 2, 0, 0, 0) := by decide +kernel
theorem pa_163_104 : pz_at 163 104 = some (104, .iload_n 1, 1, 0, 0, 0) := by decide +kernel
theorem pa_163_105 : pz_at 163 105 = some (105, .imul, 1, 0, 0, 0) := by decide +kernel
theorem pa_163_106 : pz_at 163 106 = some (106, .aload_n 0, 1, 0, 0, 0) := by decide +kernel
theorem pa_163_107 : pz_at 163 107 = some (107, .getfield 44, 3, 7, 15, 926) := by decide +kernel
theorem pa_163_110 : pz_at 163 110 = some (110, .iload_n 2, 1, 0, 0, 0) := by decide +kernel
theorem pa_163_111 : pz_at 163 111 = some (111, .iaload, 1, 0, 0, 0) := by decide +kernel
theorem pa_163_112 : pz_at 163 112 = some (112, .iadd, 1, 0, 0, 0) := by decide +kernel
theorem pa_163_113 : pz_at 163 113 = some (113, .iload 4, 2, 0, 0, 0) := by decide +kernel
theorem pa_163_115 : pz_at 163 115 = some (115, .iadd, 1, 0, 0, 0) := by decide +kernel
theorem pa_163_116 : pz_at 163 116 = some (116, .iaload, 1, 0, 0, 0) := by decide +kernel
theorem pa_163_117 : pz_at 163 117 = some (117, .iastore, 1, 0, 0, 0) := by decide +kernel
theorem pa_163_118 : pz_at 163 118 = some (118, .iinc 4 1, 3, 0, 0, 0) := by decide +kernel
theorem pa_163_12 : pz_at 163 12 = some (12, .ifCond .ne 4, 3, 16, 0, 0) := by decide +kernel
theorem pa_163_121 : pz_at 163 121 = some (121, .goto (-48), 3, 73, 0, 0) := by decide +kernel
theorem pa_163_124 : pz_at 163 124 = some (124, .return_, 1, 0, 0, 0) := by decide +kernel
theorem pa_163_15 : pz_at 163 15 = some (15, .return_, 1, 0, 0, 0) := by decide +kernel
theorem pa_163_16 : pz_at 163 16 = some (16, .iconst 0, 1, 0, 0, 0) := by decide +kernel
theorem pa_163_17 : pz_at 163 17 = some (17, .istore 4, 2, 0, 0, 0) := by decide +kernel
theorem pa_163_19 : pz_at 163 19 = some (19, .iload 4, 2, 0, 0, 0) := by decide +kernel
theorem pa_163_21 : pz_at 163 21 = some (21, .aload_n 0, 1, 0, 0, 0) := by decide +kernel
theorem pa_163_22 : pz_at 163 22 = some (22, .getfield 23, 3, 7, 8, 919) := by decide +kernel
theorem pa_163_25 : pz_at 163 25 = some (25, .iload_n 3, 1, 0, 0, 0) := by decide +kernel
theorem pa_163_26 : pz_at 163 26 = some (26, .iaload, 1, 0, 0, 0) := by decide +kernel
theorem pa_163_27 : pz_at 163 27 = some (27, .if_icmp .ge 43, 3, 70, 0, 0) := by decide +kernel
theorem pa_163_30 : pz_at 163 30 = some (30, .aload_n 0, 1, 0, 0, 0) := by decide +kernel
theorem pa_163_31 : pz_at 163 31 = some (31, .getfield 116, 3, 7, 44, 955) := by decide +kernel
theorem pa_163_34 : pz_at 163 34 = some (34, .bipush 8, 2, 0, 0, 0) := by decide +kernel
theorem pa_163_36 : pz_at 163 36 = some (36, .iload_n 1, 1, 0, 0, 0) := by decide +kernel
theorem pa_163_37 : pz_at 163 37 = some (37, .imul, 1, 0, 0, 0) := by decide +kernel
theorem pa_163_38 : pz_at 163 38 = some (38, .bipush 8, 2, 0, 0, 0) := by decide +kernel
theorem pa_163_4 : pz_at 163 4 = some (4, .iload_n 2, 1, 0, 0, 0) := by decide +kernel
theorem pa_163_40 : pz_at 163 40 = some (40, .iadd, 1, 0, 0, 0) := by decide +kernel
theorem pa_163_41 : pz_at 163 41 = some (41, .iload 4, 2, 0, 0, 0) := by decide +kernel
theorem pa_163_43 : pz_at 163 43 = some (43, .iadd, 1, 0, 0, 0) := by decide +kernel
theorem pa_163_44 : pz_at 163 44 = some (44, .aload_n 0, 1, 0, 0, 0) := by decide +kernel
theorem pa_163_45 : pz_at 163 45 = some (45, .getfield 116, 3, 7, 44, 955) := by decide +kernel
theorem pa_163_48 : pz_at 163 48 = some (48, .bipush 8, 2, 0, 0, 0) := by decide +kernel
theorem pa_163_5 : pz_at 163 5 = some (5, .iaload, 1, 0, 0, 0) := by decide +kernel
theorem pa_163_50 : pz_at 163 50 = some (50, .iload_n 1, 1, 0, 0, 0) := by decide +kernel
theorem pa_163_51 : pz_at 163 51 = some (51, .imul, 1, 0, 0, 0) := by decide +kernel
theorem pa_163_52 : pz_at 163 52 = some (52, .aload_n 0, 1, 0, 0, 0) := by decide +kernel
theorem pa_163_53 : pz_at 163 53 = some (53, .getfield 38, 3, 7, 13, 924) := by decide +kernel
theorem pa_163_56 : pz_at 163 56 = some (56, .iload_n 2, 1, 0, 0, 0) := by decide +kernel
theorem pa_163_57 : pz_at 163 57 = some (57, .iaload, 1, 0, 0, 0) := by decide +kernel
theorem pa_163_58 : pz_at 163 58 = some (58, .iadd, 1, 0, 0, 0) := by decide +kernel
theorem pa_163_59 : pz_at 163 59 = some (59, .iload 4, 2, 0, 0, 0) := by decide +kernel
theorem pa_163_6 : pz_at 163 6 = some (6, .istore_n 3, 1, 0, 0, 0) := by decide +kernel
theorem pa_163_61 : pz_at 163 61 = some (61, .iadd, 1, 0, 0, 0) := by decide +kernel
theorem pa_163_62 : pz_at 163 62 = some (62, .iaload, 1, 0, 0, 0) := by decide +kernel
theorem pa_163_63 : pz_at 163 63 = some (63, .iastore, 1, 0, 0, 0) := by decide +kernel
theorem pa_163_64 : pz_at 163 64 = some (64, .iinc 4 1, 3, 0, 0, 0) := by decide +kernel
theorem pa_163_67 : pz_at 163 67 = some (67, .goto (-48), 3, 19, 0, 0) := by decide +kernel
theorem pa_163_7 : pz_at 163 7 = some (7, .aload_n 0, 1, 0, 0, 0) := by decide +kernel
theorem pa_163_70 : pz_at 163 70 = some (70, .iconst 0, 1, 0, 0, 0) := by decide +kernel
theorem pa_163_71 : pz_at 163 71 = some (71, .istore 4, 2, 0, 0, 0) := by decide +kernel
theorem pa_163_73 : pz_at 163 73 = some (73, .iload 4, 2, 0, 0, 0) := by decide +kernel
theorem pa_163_75 : pz_at 163 75 = some (75, .aload_n 0, 1, 0, 0, 0) := by decide +kernel
theorem pa_163_76 : pz_at 163 76 = some (76, .getfield 26, 3, 7, 9, 920) := by decide +kernel
theorem pa_163_79 : pz_at 163 79 = some (79, .iload_n 3, 1, 0, 0, 0) := by decide +kernel
theorem pa_163_8 : pz_at 163 8 = some (8, .iload_n 3, 1, 0, 0, 0) := by decide +kernel
theorem pa_163_80 : pz_at 163 80 = some (80, .iaload, 1, 0, 0, 0) := by decide +kernel
theorem pa_163_81 : pz_at 163 81 = some (81, .if_icmp .ge 43, 3, 124, 0, 0) := by decide +kernel
theorem pa_163_84 : pz_at 163 84 = some (84, .aload_n 0, 1, 0, 0, 0) := by decide +kernel
theorem pa_163_85 : pz_at 163 85 = some (85, .getfield 119, 3, 7, 45, 956) := by decide +kernel
theorem pa_163_88 : pz_at 163 88 = some (88, .bipush 8, 2, 0, 0, 0) := by decide +kernel
theorem pa_163_9 : pz_at 163 9 = some (9, .invokevirtual 350, 3, 150, 1, 1307) := by decide +kernel
theorem pa_163_90 : pz_at 163 90 = some (90, .iload_n 1, 1, 0, 0, 0) := by decide +kernel
theorem pa_163_91 : pz_at 163 91 = some (91, .imul, 1, 0, 0, 0) := by decide +kernel
theorem pa_163_92 : pz_at 163 92 = some (92, .bipush 8, 2, 0, 0, 0) := by decide +kernel
theorem pa_163_94 : pz_at 163 94 = some (94, .iadd, 1, 0, 0, 0) := by decide +kernel
theorem pa_163_95 : pz_at 163 95 = some (95, .iload 4, 2, 0, 0, 0) := by decide +kernel
theorem pa_163_97 : pz_at 163 97 = some (97, .iadd, 1, 0, 0, 0) := by decide +kernel
theorem pa_163_98 : pz_at 163 98 = some (98, .aload_n 0, 1, 0, 0, 0) := by decide +kernel
theorem pa_163_99 : pz_at 163 99 = some (99, .getfield 119, 3, 7, 45, 956) := by decide +kernel
theorem pm_150 : pz_mi 150 = (7, 3, (some .boolean)) := by decide +kernel
theorem pr_163 : (pz_mi 163).2.2 = none := by decide +kernel
theorem pa_164_0 : pz_at 164 0 = some (0, .iload_n 1, 1, 0, 0, 0) := by decide +kernel
theorem pa_164_1 : pz_at 164 1 = some (1, .ifCond .lt 30, 3, 31, 0, 0) := by decide +kernel
theorem pa_164_10 : pz_at 164 10 = some (10, .ifCond .lt 21, 3, 31, 0, 0) := by decide +kernel
theorem pa_164_13 : pz_at 164 13 = some (13, .aload_n 0, 1, 0, 0, 0) := by decide +kernel
theorem pa_164_14 : pz_at 164 14 = some (14, .aload_n 0, 1, 0, 0, 0) := by decide +kernel
theorem pa_164_15 : pz_at 164 15 = some (15, .getfield 62, 3, 7, 23, 934) := by decide +kernel
theorem pa_164_18 : pz_at 164 18 = some (18, .iload_n 1, 1, 0, 0, 0) := by decide +kernel
theorem pa_164_19 : pz_at 164 19 = some (19, .iaload, 1, 0, 0, 0) := by decide +kernel
theorem pa_164_20 : pz_at 164 20 = some (20, .iload_n 2, 1, 0, 0, 0) := by decide +kernel
theorem pa_164_21 : pz_at 164 21 = some (21, .invokevirtual 173, 3, 111, 2, 1136) := by decide +kernel
theorem pa_164_24 : pz_at 164 24 = some (24, .ifCond .eq 7, 3, 31, 0, 0) := by decide +kernel
theorem pa_164_27 : pz_at 164 27 = some (27, .iconst 1, 1, 0, 0, 0) := by decide +kernel
theorem pa_164_28 : pz_at 164 28 = some (28, .goto 4, 3, 32, 0, 0) := by decide +kernel
theorem pa_164_31 : pz_at 164 31 = some (31, .iconst 0, 1, 0, 0, 0) := by decide +kernel
theorem pa_164_32 : pz_at 164 32 = some (32, .ireturn, 1, 0, 0, 0) := by decide +kernel
theorem pa_164_4 : pz_at 164 4 = some (4, .aload_n 0, 1, 0, 0, 0) := by decide +kernel
theorem pa_164_5 : pz_at 164 5 = some (5, .getfield 62, 3, 7, 23, 934) := by decide +kernel
theorem pa_164_8 : pz_at 164 8 = some (8, .iload_n 1, 1, 0, 0, 0) := by decide +kernel
theorem pa_164_9 : pz_at 164 9 = some (9, .iaload, 1, 0, 0, 0) := by decide +kernel
theorem pr_164 : (pz_mi 164).2.2 = (some .boolean) := by decide +kernel
theorem pa_165_0 : pz_at 165 0 = some (0, .aload_n 0, 1, 0, 0, 0) := by decide +kernel
theorem pa_165_1 : pz_at 165 1 = some (1, .getfield 110, 3, 7, 42, 953) := by decide +kernel
theorem pa_165_10 : pz_at 165 10 = some (10, .imul, 1, 0, 0, 0) := by decide +kernel
theorem pa_165_100 : pz_at 165 100 = some (100, .getfield 116, 3, 7, 44, 955) := by decide +kernel
theorem pa_165_103 : pz_at 165 103 = some (103, .iload 5, 2, 0, 0, 0) := by decide +kernel
theorem pa_165_105 : pz_at 165 105 = some (105, .iaload, 1, 0, 0, 0) := by decide +kernel
theorem pa_165_106 : pz_at 165 106 = some (106, .if_icmp .ge 7, 3, 113, 0, 0) := by decide +kernel
theorem pa_165_109 : pz_at 165 109 = some (109, .iconst 1, 1, 0, 0, 0) := by decide +kernel
theorem pa_165_11 : pz_at 165 11 = some (11, .aload_n 0, 1, 0, 0, 0) := by decide +kernel
theorem pa_165_110 : pz_at 165 110 = some (110, .goto 4, 3, 114, 0, 0) := by decide +kernel
theorem pa_165_113 : pz_at 165 113 = some (113, .iconst 0, 1, 0, 0, 0) := by decide +kernel
theorem pa_165_114 : pz_at 165 114 = some (114, .istore 6, 2, 0, 0, 0) := by decide +kernel
theorem pa_165_116 : pz_at 165 116 = some (116, .goto 207, 3, 323, 0, 0) := by decide +kernel
theorem pa_165_119 : pz_at 165 119 = some (119, .aload_n 0, 1, 0, 0, 0) := by decide +kernel
theorem pa_165_12 : pz_at 165 12 = some (12, .getfield 38, 3, 7, 13, 924) := by decide +kernel
theorem pa_165_120 : pz_at 165 120 = some (120, .getfield 116, 3, 7, 44, 955) := by decide +kernel
theorem pa_165_123 : pz_at 165 123 = some (123, .iload 4, 2, 0, 0, 0) := by decide +kernel
theorem pa_165_125 : pz_at 165 125 = some (125, .iaload, 1, 0, 0, 0) := by decide +kernel
theorem pa_165_126 : pz_at 165 126 = some (126, .aload_n 0, 1, 0, 0, 0) := by decide +kernel
theorem pa_165_127 : pz_at 165 127 = some (127, .getfield 116, 3, 7, 44, 955) := by decide +kernel
theorem pa_165_130 : pz_at 165 130 = some (130, .iload 5, 2, 0, 0, 0) := by decide +kernel
theorem pa_165_132 : pz_at 165 132 = some (132, .iaload, 1, 0, 0, 0) := by decide +kernel
theorem pa_165_133 : pz_at 165 133 = some (133, .if_icmp .ne 7, 3, 140, 0, 0) := by decide +kernel
theorem pa_165_136 : pz_at 165 136 = some (136, .iconst 1, 1, 0, 0, 0) := by decide +kernel
theorem pa_165_137 : pz_at 165 137 = some (137, .goto 4, 3, 141, 0, 0) := by decide +kernel
theorem pa_165_140 : pz_at 165 140 = some (140, .iconst 0, 1, 0, 0, 0) := by decide +kernel
theorem pa_165_141 : pz_at 165 141 = some (141, .istore 6, 2, 0, 0, 0) := by decide +kernel
theorem pa_165_143 : pz_at 165 143 = some (143, .goto 180, 3, 323, 0, 0) := by decide +kernel
theorem pa_165_146 : pz_at 165 146 = some (146, .aload_n 0, 1, 0, 0, 0) := by decide +kernel
theorem pa_165_147 : pz_at 165 147 = some (147, .getfield 119, 3, 7, 45, 956) := by decide +kernel
theorem pa_165_15 : pz_at 165 15 = some (15, .iload_n 2, 1, 0, 0, 0) := by decide +kernel
theorem pa_165_150 : pz_at 165 150 = some (150, .iload 4, 2, 0, 0, 0) := by decide +kernel
theorem pa_165_152 : pz_at 165 152 = some (152, .iaload, 1, 0, 0, 0) := by decide +kernel
theorem pa_165_153 : pz_at 165 153 = some (153, .ifCond .ge 7, 3, 160, 0, 0) := by decide +kernel
theorem pa_165_156 : pz_at 165 156 = some (156, .iconst 1, 1, 0, 0, 0) := by decide +kernel
theorem pa_165_157 : pz_at 165 157 = some (157, .goto 4, 3, 161, 0, 0) := by decide +kernel
theorem pa_165_16 : pz_at 165 16 = some (16, .iaload, 1, 0, 0, 0) := by decide +kernel
theorem pa_165_160 : pz_at 165 160 = some (160, .iconst 0, 1, 0, 0, 0) := by decide +kernel
theorem pa_165_161 : pz_at 165 161 = some (161, .istore 6, 2, 0, 0, 0) := by decide +kernel
theorem pa_165_163 : pz_at 165 163 = some (163, .goto 160, 3, 323, 0, 0) := by decide +kernel
theorem pa_165_166 : pz_at 165 166 = some (166, .aload_n 0, 1, 0, 0, 0) := by decide +kernel
theorem pa_165_167 : pz_at 165 167 = some (167, .getfield 119, 3, 7, 45, 956) := by decide +kernel
theorem pa_165_17 : pz_at 165 17 = some (17, .bipush 7, 2, 0, 0, 0) := by decide +kernel
theorem pa_165_170 : pz_at 165 170 = some (170, .iload 4, 2, 0, 0, 0) := by decide +kernel
theorem pa_165_172 : pz_at 165 172 = some (172, .iaload, 1, 0, 0, 0) := by decide +kernel
theorem pa_165_173 : pz_at 165 173 = some (173, .aload_n 0, 1, 0, 0, 0) := by decide +kernel
theorem pa_165_174 : pz_at 165 174 = some (174, .getfield 119, 3, 7, 45, 956) := by decide +kernel
theorem pa_165_177 : pz_at 165 177 = some (177, .iload 5, 2, 0, 0, 0) := by decide +kernel
theorem pa_165_179 : pz_at 165 179 = some (179, .iaload, 1, 0, 0, 0) := by decide +kernel
theorem pa_165_180 : pz_at 165 180 = some (180, .if_icmp .ne 7, 3, 187, 0, 0) := by decide +kernel
theorem pa_165_183 : pz_at 165 183 = some (183, .iconst 1, 1, 0, 0, 0) := by decide +kernel
theorem pa_165_184 : pz_at 165 184 = some (184, .goto 4, 3, 188, 0, 0) := by decide +kernel
theorem pa_165_187 : pz_at 165 187 = some (187, .iconst 0, 1, 0, 0, 0) := by decide +kernel
theorem pa_165_188 : pz_at 165 188 = some (188, .istore 6, 2, 0, 0, 0) := by decide +kernel
theorem pa_165_19 : pz_at 165 19 = some (19, .iand, 1, 0, 0, 0) := by decide +kernel
theorem pa_165_190 : pz_at 165 190 = some (190, .goto 133, 3, 323, 0, 0) := by decide +kernel
theorem pa_165_193 : pz_at 165 193 = some (193, .aload_n 0, 1, 0, 0, 0) := by decide +kernel
theorem pa_165_194 : pz_at 165 194 = some (194, .aload_n 0, 1, 0, 0, 0) := by decide +kernel
theorem pa_165_195 : pz_at 165 195 = some (195, .getfield 119, 3, 7, 45, 956) := by decide +kernel
theorem pa_165_198 : pz_at 165 198 = some (198, .iload 4, 2, 0, 0, 0) := by decide +kernel
theorem pa_165_20 : pz_at 165 20 = some (20, .iadd, 1, 0, 0, 0) := by decide +kernel
theorem pa_165_200 : pz_at 165 200 = some (200, .iaload, 1, 0, 0, 0) := by decide +kernel
theorem pa_165_201 : pz_at 165 201 = some (201, .aload_n 0, 1, 0, 0, 0) := by decide +kernel
theorem pa_165_202 : pz_at 165 202 = some (202, .getfield 41, 3, 7, 14, 925) := by decide +kernel
theorem pa_165_205 : pz_at 165 205 = some (205, .iload_n 2, 1, 0, 0, 0) := by decide +kernel
theorem pa_165_206 : pz_at 165 206 = some (206, .iaload, 1, 0, 0, 0) := by decide +kernel
theorem pa_165_207 : pz_at 165 207 = some (207, .invokevirtual 353, 3, 164, 2, 1366) := by decide +kernel
theorem pa_165_21 : pz_at 165 21 = some (21, .istore 4, 2, 0, 0, 0) := by decide +kernel
theorem pa_165_210 : pz_at 165 210 = some (210, .istore 6, 2, 0, 0, 0) := by decide +kernel
theorem pa_165_212 : pz_at 165 212 = some (212, .goto 111, 3, 323, 0, 0) := by decide +kernel
theorem pa_165_215 : pz_at 165 215 = some (215, .iconst 1, 1, 0, 0, 0) := by decide +kernel
theorem pa_165_216 : pz_at 165 216 = some (216, .istore 6, 2, 0, 0, 0) := by decide +kernel
theorem pa_165_218 : pz_at 165 218 = some (218, .goto 105, 3, 323, 0, 0) := by decide +kernel
theorem pa_165_221 : pz_at 165 221 = some (221, .aload_n 0, 1, 0, 0, 0) := by decide +kernel
theorem pa_165_222 : pz_at 165 222 = some (222, .getfield 119, 3, 7, 45, 956) := by decide +kernel
theorem pa_165_225 : pz_at 165 225 = some (225, .iload 4, 2, 0, 0, 0) := by decide +kernel
theorem pa_165_227 : pz_at 165 227 = some (227, .iaload, 1, 0, 0, 0) := by decide +kernel
theorem pa_165_228 : pz_at 165 228 = some (228, .ifCond .lt 29, 3, 257, 0, 0) := by decide +kernel
theorem pa_165_23 : pz_at 165 23 = some (23, .bipush 8, 2, 0, 0, 0) := by decide +kernel
theorem pa_165_231 : pz_at 165 231 = some (231, .aload_n 0, 1, 0, 0, 0) := by decide +kernel
theorem pa_165_232 : pz_at 165 232 = some (232, .aload_n 0, 1, 0, 0, 0) := by decide +kernel
theorem pa_165_233 : pz_at 165 233 = some (233, .getfield 119, 3, 7, 45, 956) := by decide +kernel
theorem pa_165_236 : pz_at 165 236 = some (236, .iload 4, 2, 0, 0, 0) := by decide +kernel
theorem pa_165_238 : pz_at 165 238 = some (238, .iaload, 1, 0, 0, 0) := by decide +kernel
theorem pa_165_239 : pz_at 165 239 = some (239, .aload_n 0, 1, 0, 0, 0) := by decide +kernel
theorem pa_165_240 : pz_at 165 240 = some (240, .getfield 41, 3, 7, 14, 925) := by decide +kernel
theorem pa_165_243 : pz_at 165 243 = some (243, .iload_n 2, 1, 0, 0, 0) := by decide +kernel
theorem pa_165_244 : pz_at 165 244 = some (244, .iaload, 1, 0, 0, 0) := by decide +kernel
theorem pa_165_245 : pz_at 165 245 = some (245, .invokevirtual 353, 3, 164, 2, 1366) := by decide +kernel
theorem pa_165_248 : pz_at 165 248 = some (248, .ifCond .ne 9, 3, 257, 0, 0) := by decide +kernel
theorem pa_165_25 : pz_at 165 25 = some (25, .iload_n 1, 1, 0, 0, 0) := by decide +kernel
theorem pa_165_251 : pz_at 165 251 = some (251, .aload_n 0, 1, 0, 0, 0) := by decide +kernel
theorem pa_165_252 : pz_at 165 252 = some (252, .iconst 5, 1, 0, 0, 0) := by decide +kernel
theorem pa_165_253 : pz_at 165 253 = some (253, .invokevirtual 317, 3, 152, 1, 1327) := by decide +kernel
theorem pa_165_256 : pz_at 165 256 = some (256, .return_, 1, 0, 0, 0) := by decide +kernel
theorem pa_165_257 : pz_at 165 257 = some (257, .iconst 0, 1, 0, 0, 0) := by decide +kernel
theorem pa_165_258 : pz_at 165 258 = some (258, .istore 6, 2, 0, 0, 0) := by decide +kernel
theorem pa_165_26 : pz_at 165 26 = some (26, .imul, 1, 0, 0, 0) := by decide +kernel
theorem pa_165_260 : pz_at 165 260 = some (260, .goto 63, 3, 323, 0, 0) := by decide +kernel
theorem pa_165_263 : pz_at 165 263 = some (263, .aload_n 0, 1, 0, 0, 0) := by decide +kernel
theorem pa_165_264 : pz_at 165 264 = some (264, .bipush 6, 2, 0, 0, 0) := by decide +kernel
theorem pa_165_266 : pz_at 165 266 = some (266, .aload_n 0, 1, 0, 0, 0) := by decide +kernel
theorem pa_165_267 : pz_at 165 267 = some (267, .getfield 38, 3, 7, 13, 924) := by decide +kernel
theorem pa_165_27 : pz_at 165 27 = some (27, .aload_n 0, 1, 0, 0, 0) := by decide +kernel
theorem pa_165_270 : pz_at 165 270 = some (270, .iload_n 2, 1, 0, 0, 0) := by decide +kernel
theorem pa_165_271 : pz_at 165 271 = some (271, .iaload, 1, 0, 0, 0) := by decide +kernel
theorem pa_165_272 : pz_at 165 272 = some (272, .iadd, 1, 0, 0, 0) := by decide +kernel
theorem pa_165_273 : pz_at 165 273 = some (273, .invokevirtual 317, 3, 152, 1, 1327) := by decide +kernel
theorem pa_165_276 : pz_at 165 276 = some (276, .return_, 1, 0, 0, 0) := by decide +kernel
theorem pa_165_277 : pz_at 165 277 = some (277, .aload_n 0, 1, 0, 0, 0) := by decide +kernel
theorem pa_165_278 : pz_at 165 278 = some (278, .aload_n 0, 1, 0, 0, 0) := by decide +kernel
theorem pa_165_279 : pz_at 165 279 = some (279, .getfield 29, 3, 7, 10, 921) := by decide +kernel
theorem pa_165_28 : pz_at 165 28 = some (28, .getfield 41, 3, 7, 14, 925) := by decide +kernel
theorem pa_165_282 : pz_at 165 282 = some (282, .iload_n 3, 1, 0, 0, 0) := by decide +kernel
theorem pa_165_283 : pz_at 165 283 = some (283, .iaload, 1, 0, 0, 0) := by decide +kernel
theorem pa_165_284 : pz_at 165 284 = some (284, .iconst 1, 1, 0, 0, 0) := by decide +kernel
theorem pa_165_285 : pz_at 165 285 = some (285, .if_icmp .ne 13, 3, 298, 0, 0) := by decide +kernel
theorem pa_165_288 : pz_at 165 288 = some (288, .aload_n 0, 1, 0, 0, 0) := by decide +kernel
theorem pa_165_289 : pz_at 165 289 = some (289, .getfield 116, 3, 7, 44, 955) := by decide +kernel
theorem pa_165_292 : pz_at 165 292 = some (292, .iload 4, 2, 0, 0, 0) := by decide +kernel
theorem pa_165_294 : pz_at 165 294 = some (294, .iaload, 1, 0, 0, 0) := by decide +kernel
theorem pa_165_295 : pz_at 165 295 = some (295, .goto 24, 3, 319, 0, 0) := by decide +kernel
theorem pa_165_298 : pz_at 165 298 = some (298, .aload_n 0, 1, 0, 0, 0) := by decide +kernel
theorem pa_165_299 : pz_at 165 299 = some (299, .getfield 29, 3, 7, 10, 921) := by decide +kernel
theorem pa_165_302 : pz_at 165 302 = some (302, .iload_n 3, 1, 0, 0, 0) := by decide +kernel
theorem pa_165_303 : pz_at 165 303 = some (303, .iaload, 1, 0, 0, 0) := by decide +kernel
theorem pa_165_304 : pz_at 165 304 = some (304, .iconst 2, 1, 0, 0, 0) := by decide +kernel
theorem pa_165_305 : pz_at 165 305 = some (305, .if_icmp .ne 13, 3, 318, 0, 0) := by decide +kernel
theorem pa_165_308 : pz_at 165 308 = some (308, .aload_n 0, 1, 0, 0, 0) := by decide +kernel
theorem pa_165_309 : pz_at 165 309 = some (309, .getfield 119, 3, 7, 45, 956) := by decide +kernel
theorem pa_165_31 : pz_at 165 31 = some (31, .iload_n 2, 1, 0, 0, 0) := by decide +kernel
theorem pa_165_312 : pz_at 165 312 = some (312, .iload 4, 2, 0, 0, 0) := by decide +kernel
theorem pa_165_314 : pz_at 165 314 = some (314, .iaload, 1, 0, 0, 0) := by decide +kernel
theorem pa_165_315 : pz_at 165 315 = some (315, .goto 4, 3, 319, 0, 0) := by decide +kernel
theorem pa_165_318 : pz_at 165 318 = some (318, .iconst 0, 1, 0, 0, 0) := by decide +kernel
theorem pa_165_319 : pz_at 165 319 = some (319, .invokevirtual 299, 3, 151, 1, 1315) := by decide +kernel
theorem pa_165_32 : pz_at 165 32 = some (32, .iaload, 1, 0, 0, 0) := by decide +kernel
theorem pa_165_322 : pz_at 165 322 = some (322, .return_, 1, 0, 0, 0) := by decide +kernel
theorem pa_165_323 : pz_at 165 323 = some (323, .aload_n 0, 1, 0, 0, 0) := by decide +kernel
theorem pa_165_324 : pz_at 165 324 = some (324, .getfield 113, 3, 7, 43, 954) := by decide +kernel
theorem pa_165_327 : pz_at 165 327 = some (327, .iload_n 1, 1, 0, 0, 0) := by decide +kernel
theorem pa_165_328 : pz_at 165 328 = some (328, .iload 6, 2, 0, 0, 0) := by decide +kernel
theorem pa_165_33 : pz_at 165 33 = some (33, .bipush 7, 2, 0, 0, 0) := by decide +kernel
theorem pa_165_330 : pz_at 165 330 = some (330, .ifCond .eq 12, 3, 342, 0, 0) := by decide +kernel
theorem pa_165_333 : pz_at 165 333 = some (333, .aload_n 0, 1, 0, 0, 0) := by decide +kernel
theorem pa_165_334 : pz_at 165 334 = some (334, .getfield 44, 3, 7, 15, 926) := by decide +kernel
theorem pa_165_337 : pz_at 165 337 = some (337, .iload_n 2, 1, 0, 0, 0) := by decide +kernel
theorem pa_165_338 : pz_at 165 338 = some (338, .iaload, 1, 0, 0, 0) := by decide +kernel
theorem pa_165_339 : pz_at 165 339 = some (339, .goto 11, 3, 350, 0, 0) := by decide +kernel
theorem pa_165_342 : pz_at 165 342 = some (342, .aload_n 0, 1, 0, 0, 0) := by decide +kernel
theorem pa_165_343 : pz_at 165 343 = some (343, .getfield 113, 3, 7, 43, 954) := by decide +kernel
theorem pa_165_346 : pz_at 165 346 = some (346, .iload_n 1, 1, 0, 0, 0) := by decide +kernel
theorem pa_165_347 : pz_at 165 347 = some (347, .iaload, 1, 0, 0, 0) := by decide +kernel
theorem pa_165_348 : pz_at 165 348 = some (348, .iconst 1, 1, 0, 0, 0) := by decide +kernel
theorem pa_165_349 : pz_at 165 349 = some (349, .iadd, 1, 0, 0, 0) := by decide +kernel
theorem pa_165_35 : pz_at 165 35 = some (35, .iand, 1, 0, 0, 0) := by decide +kernel
theorem pa_165_350 : pz_at 165 350 = some (350, .iastore, 1, 0, 0, 0) := by decide +kernel
theorem pa_165_351 : pz_at 165 351 = some (351, .return_, 1, 0, 0, 0) := by decide +kernel
theorem pa_165_36 : pz_at 165 36 = some (36, .iadd, 1, 0, 0, 0) := by decide +kernel
theorem pa_165_37 : pz_at 165 37 = some (37, .istore 5, 2, 0, 0, 0) := by decide +kernel
theorem pa_165_39 : pz_at 165 39 = some (39, .aload_n 0, 1, 0, 0, 0) := by decide +kernel
theorem pa_165_4 : pz_at 165 4 = some (4, .iload_n 1, 1, 0, 0, 0) := by decide +kernel
theorem pa_165_40 : pz_at 165 40 = some (40, .getfield 35, 3, 7, 12, 923) := by decide +kernel
theorem pa_165_43 : pz_at 165 43 = some (43, .iload_n 2, 1, 0, 0, 0) := by decide +kernel
theorem pa_165_44 : pz_at 165 44 = some (44, .iaload, 1, 0, 0, 0) := by decide +kernel
theorem pa_165_45 : pz_at 165 45 = some (45, .tableswitch 232 23 30 #[47, 74, 101, 121, 148, 170, 176, 218], 47, 0, 0, 0) := by decide +kernel
theorem pa_165_5 : pz_at 165 5 = some (5, .iaload, 1, 0, 0, 0) := by decide +kernel
theorem pa_165_6 : pz_at 165 6 = some (6, .istore_n 3, 1, 0, 0, 0) := by decide +kernel
theorem pa_165_7 : pz_at 165 7 = some (7, .bipush 8, 2, 0, 0, 0) := by decide +kernel
theorem pa_165_9 : pz_at 165 9 = some (9, .iload_n 1, 1, 0, 0, 0) := by decide +kernel
theorem pa_165_92 : pz_at 165 92 = some (92, .aload_n 0, 1, 0, 0, 0) := by decide +kernel
theorem pa_165_93 : pz_at 165 93 = some (93, .getfield 116, 3, 7, 44, 955) := by decide +kernel
theorem pa_165_96 : pz_at 165 96 = some (96, .iload 4, 2, 0, 0, 0) := by decide +kernel
theorem pa_165_98 : pz_at 165 98 = some (98, .iaload, 1, 0, 0, 0) := by decide +kernel
theorem pa_165_99 : pz_at 165 99 = some (99, .aload_n 0, 1, 0, 0, 0) := by decide +kernel
theorem pm_164 : pz_mi 164 = (7, 3, (some .boolean)) := by decide +kernel
theorem pr_165 : (pz_mi 165).2.2 = none := by decide +kernel
theorem pa_166_0 : pz_at 166 0 = some (0, .aload_n 0, 1, 0, 0, 0) := by decide +kernel
theorem pa_166_1 : pz_at 166 1 = some (1, .iconst 0, 1, 0, 0, 0) := by decide +kernel
theorem pa_166_10 : pz_at 166 10 = some (10, .aload_n 0, 1, 0, 0, 0) := by decide +kernel
theorem pa_166_100 : pz_at 166 100 = some (100, .iload_n 1, 1, 0, 0, 0) := by decide +kernel
theorem pa_166_101 : pz_at 166 101 = some (101, .invokevirtual 350, 3, 150, 1, 1307) := by decide +kernel
theorem pa_166_104 : pz_at 166 104 = some (104, .istore_n 3, 1, 0, 0, 0) := by decide +kernel
theorem pa_166_105 : pz_at 166 105 = some (105, .iconst 0, 1, 0, 0, 0) := by decide +kernel
theorem pa_166_106 : pz_at 166 106 = some (106, .istore 4, 2, 0, 0, 0) := by decide +kernel
theorem pa_166_108 : pz_at 166 108 = some (108, .iload 4, 2, 0, 0, 0) := by decide +kernel
theorem pa_166_11 : pz_at 166 11 = some (11, .iconst 0, 1, 0, 0, 0) := by decide +kernel
theorem pa_166_110 : pz_at 166 110 = some (110, .aload_n 0, 1, 0, 0, 0) := by decide +kernel
theorem pa_166_111 : pz_at 166 111 = some (111, .getfield 23, 3, 7, 8, 919) := by decide +kernel
theorem pa_166_114 : pz_at 166 114 = some (114, .iload_n 1, 1, 0, 0, 0) := by decide +kernel
theorem pa_166_115 : pz_at 166 115 = some (115, .iaload, 1, 0, 0, 0) := by decide +kernel
theorem pa_166_116 : pz_at 166 116 = some (116, .if_icmp .ge 27, 3, 143, 0, 0) := by decide +kernel
theorem pa_166_119 : pz_at 166 119 = some (119, .aload_n 0, 1, 0, 0, 0) := by decide +kernel
theorem pa_166_12 : pz_at 166 12 = some (12, .putfield 302, 3, 7, 47, 958) := by decide +kernel
theorem pa_166_120 : pz_at 166 120 = some (120, .getfield 116, 3, 7, 44, 955) := by decide +kernel
theorem pa_166_123 : pz_at 166 123 = some (123, .iload 4, 2, 0, 0, 0) := by decide +kernel
theorem pa_166_125 : pz_at 166 125 = some (125, .aload_n 0, 1, 0, 0, 0) := by decide +kernel
theorem pa_166_126 : pz_at 166 126 = some (126, .getfield 77, 3, 7, 29, 940) := by decide +kernel
theorem pa_166_129 : pz_at 166 129 = some (129, .iconst 3, 1, 0, 0, 0) := by decide +kernel
theorem pa_166_130 : pz_at 166 130 = some (130, .iload_n 2, 1, 0, 0, 0) := by decide +kernel
theorem pa_166_131 : pz_at 166 131 = some (131, .imul, 1, 0, 0, 0) := by decide +kernel
theorem pa_166_132 : pz_at 166 132 = some (132, .iload 4, 2, 0, 0, 0) := by decide +kernel
theorem pa_166_134 : pz_at 166 134 = some (134, .iadd, 1, 0, 0, 0) := by decide +kernel
theorem pa_166_135 : pz_at 166 135 = some (135, .iaload, 1, 0, 0, 0) := by decide +kernel
theorem pa_166_136 : pz_at 166 136 = some (136, .iastore, 1, 0, 0, 0) := by decide +kernel
theorem pa_166_137 : pz_at 166 137 = some (137, .iinc 4 1, 3, 0, 0, 0) := by decide +kernel
theorem pa_166_140 : pz_at 166 140 = some (140, .goto (-32), 3, 108, 0, 0) := by decide +kernel
theorem pa_166_143 : pz_at 166 143 = some (143, .iconst 0, 1, 0, 0, 0) := by decide +kernel
theorem pa_166_144 : pz_at 166 144 = some (144, .istore 4, 2, 0, 0, 0) := by decide +kernel
theorem pa_166_146 : pz_at 166 146 = some (146, .iload 4, 2, 0, 0, 0) := by decide +kernel
theorem pa_166_148 : pz_at 166 148 = some (148, .aload_n 0, 1, 0, 0, 0) := by decide +kernel
theorem pa_166_149 : pz_at 166 149 = some (149, .getfield 26, 3, 7, 9, 920) := by decide +kernel
theorem pa_166_15 : pz_at 166 15 = some (15, .aload_n 0, 1, 0, 0, 0) := by decide +kernel
theorem pa_166_152 : pz_at 166 152 = some (152, .iload_n 1, 1, 0, 0, 0) := by decide +kernel
theorem pa_166_153 : pz_at 166 153 = some (153, .iaload, 1, 0, 0, 0) := by decide +kernel
theorem pa_166_154 : pz_at 166 154 = some (154, .if_icmp .ge 29, 3, 183, 0, 0) := by decide +kernel
theorem pa_166_157 : pz_at 166 157 = some (157, .aload_n 0, 1, 0, 0, 0) := by decide +kernel
theorem pa_166_158 : pz_at 166 158 = some (158, .getfield 119, 3, 7, 45, 956) := by decide +kernel
theorem pa_166_16 : pz_at 166 16 = some (16, .iconst 0, 1, 0, 0, 0) := by decide +kernel
theorem pa_166_161 : pz_at 166 161 = some (161, .iload 4, 2, 0, 0, 0) := by decide +kernel
theorem pa_166_163 : pz_at 166 163 = some (163, .aload_n 0, 1, 0, 0, 0) := by decide +kernel
theorem pa_166_164 : pz_at 166 164 = some (164, .getfield 80, 3, 7, 30, 941) := by decide +kernel
theorem pa_166_167 : pz_at 166 167 = some (167, .iconst 3, 1, 0, 0, 0) := by decide +kernel
theorem pa_166_168 : pz_at 166 168 = some (168, .iload_n 2, 1, 0, 0, 0) := by decide +kernel
theorem pa_166_169 : pz_at 166 169 = some (169, .imul, 1, 0, 0, 0) := by decide +kernel
theorem pa_166_17 : pz_at 166 17 = some (17, .putfield 284, 3, 7, 48, 959) := by decide +kernel
theorem pa_166_170 : pz_at 166 170 = some (170, .iload 4, 2, 0, 0, 0) := by decide +kernel
theorem pa_166_172 : pz_at 166 172 = some (172, .iadd, 1, 0, 0, 0) := by decide +kernel
theorem pa_166_173 : pz_at 166 173 = some (173, .iaload, 1, 0, 0, 0) := by decide +kernel
theorem pa_166_174 : pz_at 166 174 = some (174, .iconst 1, 1, 0, 0, 0) := by decide +kernel
theorem pa_166_175 : pz_at 166 175 = some (175, .isub, 1, 0, 0, 0) := by decide +kernel
theorem pa_166_176 : pz_at 166 176 = some (176, .iastore, 1, 0, 0, 0) := by decide +kernel
theorem pa_166_177 : pz_at 166 177 = some (177, .iinc 4 1, 3, 0, 0, 0) := by decide +kernel
theorem pa_166_180 : pz_at 166 180 = some (180, .goto (-34), 3, 146, 0, 0) := by decide +kernel
theorem pa_166_183 : pz_at 166 183 = some (183, .iload_n 3, 1, 0, 0, 0) := by decide +kernel
theorem pa_166_184 : pz_at 166 184 = some (184, .ifCond .eq 24, 3, 208, 0, 0) := by decide +kernel
theorem pa_166_187 : pz_at 166 187 = some (187, .aload_n 0, 1, 0, 0, 0) := by decide +kernel
theorem pa_166_188 : pz_at 166 188 = some (188, .getfield 272, 3, 7, 41, 952) := by decide +kernel
theorem pa_166_191 : pz_at 166 191 = some (191, .ifCond .le 17, 3, 208, 0, 0) := by decide +kernel
theorem pa_166_194 : pz_at 166 194 = some (194, .aload_n 0, 1, 0, 0, 0) := by decide +kernel
theorem pa_166_195 : pz_at 166 195 = some (195, .getfield 275, 3, 7, 46, 957) := by decide +kernel
theorem pa_166_198 : pz_at 166 198 = some (198, .ifCond .ne 10, 3, 208, 0, 0) := by decide +kernel
theorem pa_166_2 : pz_at 166 2 = some (2, .putfield 272, 3, 7, 41, 952) := by decide +kernel
theorem pa_166_20 : pz_at 166 20 = some (20, .aload_n 0, 1, 0, 0, 0) := by decide +kernel
theorem pa_166_201 : pz_at 166 201 = some (201, .aload_n 0, 1, 0, 0, 0) := by decide +kernel
theorem pa_166_202 : pz_at 166 202 = some (202, .invokevirtual 359, 3, 157, 0, 1311) := by decide +kernel
theorem pa_166_205 : pz_at 166 205 = some (205, .goto (-22), 3, 183, 0, 0) := by decide +kernel
theorem pa_166_208 : pz_at 166 208 = some (208, .aload_n 0, 1, 0, 0, 0) := by decide +kernel
theorem pa_166_209 : pz_at 166 209 = some (209, .getfield 275, 3, 7, 46, 957) := by decide +kernel
theorem pa_166_21 : pz_at 166 21 = some (21, .aload_n 0, 1, 0, 0, 0) := by decide +kernel
theorem pa_166_212 : pz_at 166 212 = some (212, .ifCond .ne 7, 3, 219, 0, 0) := by decide +kernel
theorem pa_166_215 : pz_at 166 215 = some (215, .iconst 1, 1, 0, 0, 0) := by decide +kernel
theorem pa_166_216 : pz_at 166 216 = some (216, .goto 4, 3, 220, 0, 0) := by decide +kernel
theorem pa_166_219 : pz_at 166 219 = some (219, .iconst 0, 1, 0, 0, 0) := by decide +kernel
theorem pa_166_22 : pz_at 166 22 = some (22, .getfield 170, 3, 7, 22, 933) := by decide +kernel
theorem pa_166_220 : pz_at 166 220 = some (220, .ireturn, 1, 0, 0, 0) := by decide +kernel
theorem pa_166_25 : pz_at 166 25 = some (25, .putfield 290, 3, 7, 49, 960) := by decide +kernel
theorem pa_166_28 : pz_at 166 28 = some (28, .aload_n 0, 1, 0, 0, 0) := by decide +kernel
theorem pa_166_29 : pz_at 166 29 = some (29, .aload_n 0, 1, 0, 0, 0) := by decide +kernel
theorem pa_166_30 : pz_at 166 30 = some (30, .getfield 347, 3, 7, 27, 938) := by decide +kernel
theorem pa_166_33 : pz_at 166 33 = some (33, .putfield 356, 3, 7, 50, 961) := by decide +kernel
theorem pa_166_36 : pz_at 166 36 = some (36, .aload_n 0, 1, 0, 0, 0) := by decide +kernel
theorem pa_166_37 : pz_at 166 37 = some (37, .iconst 0, 1, 0, 0, 0) := by decide +kernel
theorem pa_166_38 : pz_at 166 38 = some (38, .putfield 287, 3, 7, 51, 962) := by decide +kernel
theorem pa_166_41 : pz_at 166 41 = some (41, .aload_n 0, 1, 0, 0, 0) := by decide +kernel
theorem pa_166_42 : pz_at 166 42 = some (42, .iconst 0, 1, 0, 0, 0) := by decide +kernel
theorem pa_166_43 : pz_at 166 43 = some (43, .putfield 278, 3, 7, 52, 963) := by decide +kernel
theorem pa_166_46 : pz_at 166 46 = some (46, .aload_n 0, 1, 0, 0, 0) := by decide +kernel
theorem pa_166_47 : pz_at 166 47 = some (47, .iconst 0, 1, 0, 0, 0) := by decide +kernel
theorem pa_166_48 : pz_at 166 48 = some (48, .putfield 281, 3, 7, 53, 964) := by decide +kernel
theorem pa_166_5 : pz_at 166 5 = some (5, .aload_n 0, 1, 0, 0, 0) := by decide +kernel
theorem pa_166_51 : pz_at 166 51 = some (51, .aload_n 0, 1, 0, 0, 0) := by decide +kernel
theorem pa_166_52 : pz_at 166 52 = some (52, .iconst 0, 1, 0, 0, 0) := by decide +kernel
theorem pa_166_53 : pz_at 166 53 = some (53, .putfield 293, 3, 7, 54, 965) := by decide +kernel
theorem pa_166_56 : pz_at 166 56 = some (56, .aload_n 0, 1, 0, 0, 0) := by decide +kernel
theorem pa_166_57 : pz_at 166 57 = some (57, .iconst 0, 1, 0, 0, 0) := by decide +kernel
theorem pa_166_58 : pz_at 166 58 = some (58, .putfield 296, 3, 7, 55, 966) := by decide +kernel
theorem pa_166_6 : pz_at 166 6 = some (6, .iconst 0, 1, 0, 0, 0) := by decide +kernel
theorem pa_166_61 : pz_at 166 61 = some (61, .aload_n 0, 1, 0, 0, 0) := by decide +kernel
theorem pa_166_62 : pz_at 166 62 = some (62, .iconst 0, 1, 0, 0, 0) := by decide +kernel
theorem pa_166_63 : pz_at 166 63 = some (63, .putfield 335, 3, 7, 58, 969) := by decide +kernel
theorem pa_166_66 : pz_at 166 66 = some (66, .aload_n 0, 1, 0, 0, 0) := by decide +kernel
theorem pa_166_67 : pz_at 166 67 = some (67, .iconst 0, 1, 0, 0, 0) := by decide +kernel
theorem pa_166_68 : pz_at 166 68 = some (68, .putfield 338, 3, 7, 59, 970) := by decide +kernel
theorem pa_166_7 : pz_at 166 7 = some (7, .putfield 275, 3, 7, 46, 957) := by decide +kernel
theorem pa_166_71 : pz_at 166 71 = some (71, .iconst 0, 1, 0, 0, 0) := by decide +kernel
theorem pa_166_72 : pz_at 166 72 = some (72, .istore_n 3, 1, 0, 0, 0) := by decide +kernel
theorem pa_166_73 : pz_at 166 73 = some (73, .iload_n 3, 1, 0, 0, 0) := by decide +kernel
theorem pa_166_74 : pz_at 166 74 = some (74, .bipush 60, 2, 0, 0, 0) := by decide +kernel
theorem pa_166_76 : pz_at 166 76 = some (76, .if_icmp .ge 23, 3, 99, 0, 0) := by decide +kernel
theorem pa_166_79 : pz_at 166 79 = some (79, .aload_n 0, 1, 0, 0, 0) := by decide +kernel
theorem pa_166_80 : pz_at 166 80 = some (80, .getfield 122, 3, 7, 56, 967) := by decide +kernel
theorem pa_166_83 : pz_at 166 83 = some (83, .iload_n 3, 1, 0, 0, 0) := by decide +kernel
theorem pa_166_84 : pz_at 166 84 = some (84, .iconst 0, 1, 0, 0, 0) := by decide +kernel
theorem pa_166_85 : pz_at 166 85 = some (85, .iastore, 1, 0, 0, 0) := by decide +kernel
theorem pa_166_86 : pz_at 166 86 = some (86, .aload_n 0, 1, 0, 0, 0) := by decide +kernel
theorem pa_166_87 : pz_at 166 87 = some (87, .getfield 125, 3, 7, 57, 968) := by decide +kernel
theorem pa_166_90 : pz_at 166 90 = some (90, .iload_n 3, 1, 0, 0, 0) := by decide +kernel
theorem pa_166_91 : pz_at 166 91 = some (91, .iconst 0, 1, 0, 0, 0) := by decide +kernel
theorem pa_166_92 : pz_at 166 92 = some (92, .iastore, 1, 0, 0, 0) := by decide +kernel
theorem pa_166_93 : pz_at 166 93 = some (93, .iinc 3 1, 3, 0, 0, 0) := by decide +kernel
theorem pa_166_96 : pz_at 166 96 = some (96, .goto (-23), 3, 73, 0, 0) := by decide +kernel
theorem pa_166_99 : pz_at 166 99 = some (99, .aload_n 0, 1, 0, 0, 0) := by decide +kernel
theorem pf_55_7_50 : pz_gf 55 7 50 = some none := by decide +kernel
theorem pm_157 : pz_mi 157 = (7, 4, none) := by decide +kernel
theorem pr_166 : (pz_mi 166).2.2 = (some .boolean) := by decide +kernel
theorem pa_167_0 : pz_at 167 0 = some (0, .iconst 0, 1, 0, 0, 0) := by decide +kernel
theorem pa_167_1 : pz_at 167 1 = some (1, .istore_n 2, 1, 0, 0, 0) := by decide +kernel
theorem pa_167_10 : pz_at 167 10 = some (10, .aload_n 1, 1, 0, 0, 0) := by decide +kernel
theorem pa_167_100 : pz_at 167 100 = some (100, .istore_n 3, 1, 0, 0, 0) := by decide +kernel
theorem pa_167_101 : pz_at 167 101 = some (101, .iload_n 3, 1, 0, 0, 0) := by decide +kernel
theorem pa_167_102 : pz_at 167 102 = some (102, .sipush 200, 3, 0, 0, 0) := by decide +kernel
theorem pa_167_105 : pz_at 167 105 = some (105, .if_icmp .ge 20, 3, 125, 0, 0) := by decide +kernel
theorem pa_167_108 : pz_at 167 108 = some (108, .aload_n 1, 1, 0, 0, 0) := by decide +kernel
theorem pa_167_109 : pz_at 167 109 = some (109, .iload_n 2, 1, 0, 0, 0) := by decide +kernel
theorem pa_167_11 : pz_at 167 11 = some (11, .iload_n 2, 1, 0, 0, 0) := by decide +kernel
theorem pa_167_110 : pz_at 167 110 = some (110, .iload_n 3, 1, 0, 0, 0) := by decide +kernel
theorem pa_167_111 : pz_at 167 111 = some (111, .iadd, 1, 0, 0, 0) := by decide +kernel
theorem pa_167_112 : pz_at 167 112 = some (112, .aload_n 0, 1, 0, 0, 0) := by decide +kernel
theorem pa_167_113 : pz_at 167 113 = some (113, .getfield 74, 3, 7, 28, 939) := by decide +kernel
theorem pa_167_116 : pz_at 167 116 = some (116, .iload_n 3, 1, 0, 0, 0) := by decide +kernel
theorem pa_167_117 : pz_at 167 117 = some (117, .iaload, 1, 0, 0, 0) := by decide +kernel
theorem pa_167_118 : pz_at 167 118 = some (118, .iastore, 1, 0, 0, 0) := by decide +kernel
theorem pa_167_119 : pz_at 167 119 = some (119, .iinc 3 1, 3, 0, 0, 0) := by decide +kernel
theorem pa_167_12 : pz_at 167 12 = some (12, .aload_n 0, 1, 0, 0, 0) := by decide +kernel
theorem pa_167_122 : pz_at 167 122 = some (122, .goto (-21), 3, 101, 0, 0) := by decide +kernel
theorem pa_167_125 : pz_at 167 125 = some (125, .iinc 2 200, 6, 0, 0, 0) := by decide +kernel
theorem pa_167_13 : pz_at 167 13 = some (13, .getfield 62, 3, 7, 23, 934) := by decide +kernel
theorem pa_167_131 : pz_at 167 131 = some (131, .aload_n 1, 1, 0, 0, 0) := by decide +kernel
theorem pa_167_132 : pz_at 167 132 = some (132, .iload_n 2, 1, 0, 0, 0) := by decide +kernel
theorem pa_167_133 : pz_at 167 133 = some (133, .aload_n 0, 1, 0, 0, 0) := by decide +kernel
theorem pa_167_134 : pz_at 167 134 = some (134, .getfield 170, 3, 7, 22, 933) := by decide +kernel
theorem pa_167_137 : pz_at 167 137 = some (137, .iastore, 1, 0, 0, 0) := by decide +kernel
theorem pa_167_138 : pz_at 167 138 = some (138, .aload_n 1, 1, 0, 0, 0) := by decide +kernel
theorem pa_167_139 : pz_at 167 139 = some (139, .iload_n 2, 1, 0, 0, 0) := by decide +kernel
theorem pa_167_140 : pz_at 167 140 = some (140, .iconst 1, 1, 0, 0, 0) := by decide +kernel
theorem pa_167_141 : pz_at 167 141 = some (141, .iadd, 1, 0, 0, 0) := by decide +kernel
theorem pa_167_142 : pz_at 167 142 = some (142, .aload_n 0, 1, 0, 0, 0) := by decide +kernel
theorem pa_167_143 : pz_at 167 143 = some (143, .getfield 347, 3, 7, 27, 938) := by decide +kernel
theorem pa_167_146 : pz_at 167 146 = some (146, .iastore, 1, 0, 0, 0) := by decide +kernel
theorem pa_167_147 : pz_at 167 147 = some (147, .return_, 1, 0, 0, 0) := by decide +kernel
theorem pa_167_16 : pz_at 167 16 = some (16, .iload_n 3, 1, 0, 0, 0) := by decide +kernel
theorem pa_167_17 : pz_at 167 17 = some (17, .iaload, 1, 0, 0, 0) := by decide +kernel
theorem pa_167_18 : pz_at 167 18 = some (18, .iastore, 1, 0, 0, 0) := by decide +kernel
theorem pa_167_19 : pz_at 167 19 = some (19, .aload_n 1, 1, 0, 0, 0) := by decide +kernel
theorem pa_167_2 : pz_at 167 2 = some (2, .iconst 0, 1, 0, 0, 0) := by decide +kernel
theorem pa_167_20 : pz_at 167 20 = some (20, .iload_n 2, 1, 0, 0, 0) := by decide +kernel
theorem pa_167_21 : pz_at 167 21 = some (21, .iconst 1, 1, 0, 0, 0) := by decide +kernel
theorem pa_167_22 : pz_at 167 22 = some (22, .iadd, 1, 0, 0, 0) := by decide +kernel
theorem pa_167_23 : pz_at 167 23 = some (23, .aload_n 0, 1, 0, 0, 0) := by decide +kernel
theorem pa_167_24 : pz_at 167 24 = some (24, .getfield 65, 3, 7, 24, 935) := by decide +kernel
theorem pa_167_27 : pz_at 167 27 = some (27, .iload_n 3, 1, 0, 0, 0) := by decide +kernel
theorem pa_167_28 : pz_at 167 28 = some (28, .iaload, 1, 0, 0, 0) := by decide +kernel
theorem pa_167_29 : pz_at 167 29 = some (29, .iastore, 1, 0, 0, 0) := by decide +kernel
theorem pa_167_3 : pz_at 167 3 = some (3, .istore_n 3, 1, 0, 0, 0) := by decide +kernel
theorem pa_167_30 : pz_at 167 30 = some (30, .iinc 2 2, 3, 0, 0, 0) := by decide +kernel
theorem pa_167_33 : pz_at 167 33 = some (33, .iinc 3 1, 3, 0, 0, 0) := by decide +kernel
theorem pa_167_36 : pz_at 167 36 = some (36, .goto (-32), 3, 4, 0, 0) := by decide +kernel
theorem pa_167_39 : pz_at 167 39 = some (39, .iconst 0, 1, 0, 0, 0) := by decide +kernel
theorem pa_167_4 : pz_at 167 4 = some (4, .iload_n 3, 1, 0, 0, 0) := by decide +kernel
theorem pa_167_40 : pz_at 167 40 = some (40, .istore_n 3, 1, 0, 0, 0) := by decide +kernel
theorem pa_167_41 : pz_at 167 41 = some (41, .iload_n 3, 1, 0, 0, 0) := by decide +kernel
theorem pa_167_42 : pz_at 167 42 = some (42, .sipush 960, 3, 0, 0, 0) := by decide +kernel
theorem pa_167_45 : pz_at 167 45 = some (45, .if_icmp .ge 20, 3, 65, 0, 0) := by decide +kernel
theorem pa_167_48 : pz_at 167 48 = some (48, .aload_n 1, 1, 0, 0, 0) := by decide +kernel
theorem pa_167_49 : pz_at 167 49 = some (49, .iload_n 2, 1, 0, 0, 0) := by decide +kernel
theorem pa_167_5 : pz_at 167 5 = some (5, .bipush 60, 2, 0, 0, 0) := by decide +kernel
theorem pa_167_50 : pz_at 167 50 = some (50, .iload_n 3, 1, 0, 0, 0) := by decide +kernel
theorem pa_167_51 : pz_at 167 51 = some (51, .iadd, 1, 0, 0, 0) := by decide +kernel
theorem pa_167_52 : pz_at 167 52 = some (52, .aload_n 0, 1, 0, 0, 0) := by decide +kernel
theorem pa_167_53 : pz_at 167 53 = some (53, .getfield 68, 3, 7, 25, 936) := by decide +kernel
theorem pa_167_56 : pz_at 167 56 = some (56, .iload_n 3, 1, 0, 0, 0) := by decide +kernel
theorem pa_167_57 : pz_at 167 57 = some (57, .iaload, 1, 0, 0, 0) := by decide +kernel
theorem pa_167_58 : pz_at 167 58 = some (58, .iastore, 1, 0, 0, 0) := by decide +kernel
theorem pa_167_59 : pz_at 167 59 = some (59, .iinc 3 1, 3, 0, 0, 0) := by decide +kernel
theorem pa_167_62 : pz_at 167 62 = some (62, .goto (-21), 3, 41, 0, 0) := by decide +kernel
theorem pa_167_65 : pz_at 167 65 = some (65, .iinc 2 960, 6, 0, 0, 0) := by decide +kernel
theorem pa_167_7 : pz_at 167 7 = some (7, .if_icmp .ge 32, 3, 39, 0, 0) := by decide +kernel
theorem pa_167_71 : pz_at 167 71 = some (71, .iconst 0, 1, 0, 0, 0) := by decide +kernel
theorem pa_167_72 : pz_at 167 72 = some (72, .istore_n 3, 1, 0, 0, 0) := by decide +kernel
theorem pa_167_73 : pz_at 167 73 = some (73, .iload_n 3, 1, 0, 0, 0) := by decide +kernel
theorem pa_167_74 : pz_at 167 74 = some (74, .bipush 8, 2, 0, 0, 0) := by decide +kernel
theorem pa_167_76 : pz_at 167 76 = some (76, .if_icmp .ge 20, 3, 96, 0, 0) := by decide +kernel
theorem pa_167_79 : pz_at 167 79 = some (79, .aload_n 1, 1, 0, 0, 0) := by decide +kernel
theorem pa_167_80 : pz_at 167 80 = some (80, .iload_n 2, 1, 0, 0, 0) := by decide +kernel
theorem pa_167_81 : pz_at 167 81 = some (81, .iload_n 3, 1, 0, 0, 0) := by decide +kernel
theorem pa_167_82 : pz_at 167 82 = some (82, .iadd, 1, 0, 0, 0) := by decide +kernel
theorem pa_167_83 : pz_at 167 83 = some (83, .aload_n 0, 1, 0, 0, 0) := by decide +kernel
theorem pa_167_84 : pz_at 167 84 = some (84, .getfield 71, 3, 7, 26, 937) := by decide +kernel
theorem pa_167_87 : pz_at 167 87 = some (87, .iload_n 3, 1, 0, 0, 0) := by decide +kernel
theorem pa_167_88 : pz_at 167 88 = some (88, .iaload, 1, 0, 0, 0) := by decide +kernel
theorem pa_167_89 : pz_at 167 89 = some (89, .iastore, 1, 0, 0, 0) := by decide +kernel
theorem pa_167_90 : pz_at 167 90 = some (90, .iinc 3 1, 3, 0, 0, 0) := by decide +kernel
theorem pa_167_93 : pz_at 167 93 = some (93, .goto (-20), 3, 73, 0, 0) := by decide +kernel
theorem pa_167_96 : pz_at 167 96 = some (96, .iinc 2 8, 3, 0, 0, 0) := by decide +kernel
theorem pa_167_99 : pz_at 167 99 = some (99, .iconst 0, 1, 0, 0, 0) := by decide +kernel
theorem pg_95 : pz_ga 95 = some (.int, 1300) := by decide +kernel
theorem pr_167 : (pz_mi 167).2.2 = none := by decide +kernel
theorem pg_96 : pz_ga 96 = some (.int, 1300) := by decide +kernel
theorem pa_168_0 : pz_at 168 0 = some (0, .iconst 0, 1, 0, 0, 0) := by decide +kernel
theorem pa_168_1 : pz_at 168 1 = some (1, .istore_n 2, 1, 0, 0, 0) := by decide +kernel
theorem pa_168_10 : pz_at 168 10 = some (10, .aload_n 0, 1, 0, 0, 0) := by decide +kernel
theorem pa_168_100 : pz_at 168 100 = some (100, .istore_n 3, 1, 0, 0, 0) := by decide +kernel
theorem pa_168_101 : pz_at 168 101 = some (101, .iload_n 3, 1, 0, 0, 0) := by decide +kernel
theorem pa_168_102 : pz_at 168 102 = some (102, .sipush 200, 3, 0, 0, 0) := by decide +kernel
theorem pa_168_105 : pz_at 168 105 = some (105, .if_icmp .ge 20, 3, 125, 0, 0) := by decide +kernel
theorem pa_168_108 : pz_at 168 108 = some (108, .aload_n 0, 1, 0, 0, 0) := by decide +kernel
theorem pa_168_109 : pz_at 168 109 = some (109, .getfield 74, 3, 7, 28, 939) := by decide +kernel
theorem pa_168_11 : pz_at 168 11 = some (11, .getfield 62, 3, 7, 23, 934) := by decide +kernel
theorem pa_168_112 : pz_at 168 112 = some (112, .iload_n 3, 1, 0, 0, 0) := by decide +kernel
theorem pa_168_113 : pz_at 168 113 = some (113, .aload_n 1, 1, 0, 0, 0) := by decide +kernel
theorem pa_168_114 : pz_at 168 114 = some (114, .iload_n 2, 1, 0, 0, 0) := by decide +kernel
theorem pa_168_115 : pz_at 168 115 = some (115, .iload_n 3, 1, 0, 0, 0) := by decide +kernel
theorem pa_168_116 : pz_at 168 116 = some (116, .iadd, 1, 0, 0, 0) := by decide +kernel
theorem pa_168_117 : pz_at 168 117 = some (117, .iaload, 1, 0, 0, 0) := by decide +kernel
theorem pa_168_118 : pz_at 168 118 = some (118, .iastore, 1, 0, 0, 0) := by decide +kernel
theorem pa_168_119 : pz_at 168 119 = some (119, .iinc 3 1, 3, 0, 0, 0) := by decide +kernel
theorem pa_168_122 : pz_at 168 122 = some (122, .goto (-21), 3, 101, 0, 0) := by decide +kernel
theorem pa_168_125 : pz_at 168 125 = some (125, .iinc 2 200, 6, 0, 0, 0) := by decide +kernel
theorem pa_168_131 : pz_at 168 131 = some (131, .aload_n 0, 1, 0, 0, 0) := by decide +kernel
theorem pa_168_132 : pz_at 168 132 = some (132, .aload_n 1, 1, 0, 0, 0) := by decide +kernel
theorem pa_168_133 : pz_at 168 133 = some (133, .iload_n 2, 1, 0, 0, 0) := by decide +kernel
theorem pa_168_134 : pz_at 168 134 = some (134, .iaload, 1, 0, 0, 0) := by decide +kernel
theorem pa_168_135 : pz_at 168 135 = some (135, .putfield 170, 3, 7, 22, 933) := by decide +kernel
theorem pa_168_138 : pz_at 168 138 = some (138, .aload_n 0, 1, 0, 0, 0) := by decide +kernel
theorem pa_168_139 : pz_at 168 139 = some (139, .aload_n 1, 1, 0, 0, 0) := by decide +kernel
theorem pa_168_14 : pz_at 168 14 = some (14, .iload_n 3, 1, 0, 0, 0) := by decide +kernel
theorem pa_168_140 : pz_at 168 140 = some (140, .iload_n 2, 1, 0, 0, 0) := by decide +kernel
theorem pa_168_141 : pz_at 168 141 = some (141, .iconst 1, 1, 0, 0, 0) := by decide +kernel
theorem pa_168_142 : pz_at 168 142 = some (142, .iadd, 1, 0, 0, 0) := by decide +kernel
theorem pa_168_143 : pz_at 168 143 = some (143, .iaload, 1, 0, 0, 0) := by decide +kernel
theorem pa_168_144 : pz_at 168 144 = some (144, .putfield 347, 3, 7, 27, 938) := by decide +kernel
theorem pa_168_147 : pz_at 168 147 = some (147, .return_, 1, 0, 0, 0) := by decide +kernel
theorem pa_168_15 : pz_at 168 15 = some (15, .aload_n 1, 1, 0, 0, 0) := by decide +kernel
theorem pa_168_16 : pz_at 168 16 = some (16, .iload_n 2, 1, 0, 0, 0) := by decide +kernel
theorem pa_168_17 : pz_at 168 17 = some (17, .iaload, 1, 0, 0, 0) := by decide +kernel
theorem pa_168_18 : pz_at 168 18 = some (18, .iastore, 1, 0, 0, 0) := by decide +kernel
theorem pa_168_19 : pz_at 168 19 = some (19, .aload_n 0, 1, 0, 0, 0) := by decide +kernel
theorem pa_168_2 : pz_at 168 2 = some (2, .iconst 0, 1, 0, 0, 0) := by decide +kernel
theorem pa_168_20 : pz_at 168 20 = some (20, .getfield 65, 3, 7, 24, 935) := by decide +kernel
theorem pa_168_23 : pz_at 168 23 = some (23, .iload_n 3, 1, 0, 0, 0) := by decide +kernel
theorem pa_168_24 : pz_at 168 24 = some (24, .aload_n 1, 1, 0, 0, 0) := by decide +kernel
theorem pa_168_25 : pz_at 168 25 = some (25, .iload_n 2, 1, 0, 0, 0) := by decide +kernel
theorem pa_168_26 : pz_at 168 26 = some (26, .iconst 1, 1, 0, 0, 0) := by decide +kernel
theorem pa_168_27 : pz_at 168 27 = some (27, .iadd, 1, 0, 0, 0) := by decide +kernel
theorem pa_168_28 : pz_at 168 28 = some (28, .iaload, 1, 0, 0, 0) := by decide +kernel
theorem pa_168_29 : pz_at 168 29 = some (29, .iastore, 1, 0, 0, 0) := by decide +kernel
theorem pa_168_3 : pz_at 168 3 = some (3, .istore_n 3, 1, 0, 0, 0) := by decide +kernel
theorem pa_168_30 : pz_at 168 30 = some (30, .iinc 2 2, 3, 0, 0, 0) := by decide +kernel
theorem pa_168_33 : pz_at 168 33 = some (33, .iinc 3 1, 3, 0, 0, 0) := by decide +kernel
theorem pa_168_36 : pz_at 168 36 = some (36, .goto (-32), 3, 4, 0, 0) := by decide +kernel
theorem pa_168_39 : pz_at 168 39 = some (39, .iconst 0, 1, 0, 0, 0) := by decide +kernel
theorem pa_168_4 : pz_at 168 4 = some (4, .iload_n 3, 1, 0, 0, 0) := by decide +kernel
theorem pa_168_40 : pz_at 168 40 = some (40, .istore_n 3, 1, 0, 0, 0) := by decide +kernel
theorem pa_168_41 : pz_at 168 41 = some (41, .iload_n 3, 1, 0, 0, 0) := by decide +kernel
theorem pa_168_42 : pz_at 168 42 = some (42, .sipush 960, 3, 0, 0, 0) := by decide +kernel
theorem pa_168_45 : pz_at 168 45 = some (45, .if_icmp .ge 20, 3, 65, 0, 0) := by decide +kernel
theorem pa_168_48 : pz_at 168 48 = some (48, .aload_n 0, 1, 0, 0, 0) := by decide +kernel
theorem pa_168_49 : pz_at 168 49 = some (49, .getfield 68, 3, 7, 25, 936) := by decide +kernel
theorem pa_168_5 : pz_at 168 5 = some (5, .bipush 60, 2, 0, 0, 0) := by decide +kernel
theorem pa_168_52 : pz_at 168 52 = some (52, .iload_n 3, 1, 0, 0, 0) := by decide +kernel
theorem pa_168_53 : pz_at 168 53 = some (53, .aload_n 1, 1, 0, 0, 0) := by decide +kernel
theorem pa_168_54 : pz_at 168 54 = some (54, .iload_n 2, 1, 0, 0, 0) := by decide +kernel
theorem pa_168_55 : pz_at 168 55 = some (55, .iload_n 3, 1, 0, 0, 0) := by decide +kernel
theorem pa_168_56 : pz_at 168 56 = some (56, .iadd, 1, 0, 0, 0) := by decide +kernel
theorem pa_168_57 : pz_at 168 57 = some (57, .iaload, 1, 0, 0, 0) := by decide +kernel
theorem pa_168_58 : pz_at 168 58 = some (58, .iastore, 1, 0, 0, 0) := by decide +kernel
theorem pa_168_59 : pz_at 168 59 = some (59, .iinc 3 1, 3, 0, 0, 0) := by decide +kernel
theorem pa_168_62 : pz_at 168 62 = some (62, .goto (-21), 3, 41, 0, 0) := by decide +kernel
theorem pa_168_65 : pz_at 168 65 = some (65, .iinc 2 960, 6, 0, 0, 0) := by decide +kernel
theorem pa_168_7 : pz_at 168 7 = some (7, .if_icmp .ge 32, 3, 39, 0, 0) := by decide +kernel
theorem pa_168_71 : pz_at 168 71 = some (71, .iconst 0, 1, 0, 0, 0) := by decide +kernel
theorem pa_168_72 : pz_at 168 72 = some (72, .istore_n 3, 1, 0, 0, 0) := by decide +kernel
theorem pa_168_73 : pz_at 168 73 = some (73, .iload_n 3, 1, 0, 0, 0) := by decide +kernel
theorem pa_168_74 : pz_at 168 74 = some (74, .bipush 8, 2, 0, 0, 0) := by decide +kernel
theorem pa_168_76 : pz_at 168 76 = some (76, .if_icmp .ge 20, 3, 96, 0, 0) := by decide +kernel
theorem pa_168_79 : pz_at 168 79 = some (79, .aload_n 0, 1, 0, 0, 0) := by decide +kernel
theorem pa_168_80 : pz_at 168 80 = some (80, .getfield 71, 3, 7, 26, 937) := by decide +kernel
theorem pa_168_83 : pz_at 168 83 = some (83, .iload_n 3, 1, 0, 0, 0) := by decide +kernel
theorem pa_168_84 : pz_at 168 84 = some (84, .aload_n 1, 1, 0, 0, 0) := by decide +kernel
theorem pa_168_85 : pz_at 168 85 = some (85, .iload_n 2, 1, 0, 0, 0) := by decide +kernel
theorem pa_168_86 : pz_at 168 86 = some (86, .iload_n 3, 1, 0, 0, 0) := by decide +kernel
theorem pa_168_87 : pz_at 168 87 = some (87, .iadd, 1, 0, 0, 0) := by decide +kernel
theorem pa_168_88 : pz_at 168 88 = some (88, .iaload, 1, 0, 0, 0) := by decide +kernel
theorem pa_168_89 : pz_at 168 89 = some (89, .iastore, 1, 0, 0, 0) := by decide +kernel
theorem pa_168_90 : pz_at 168 90 = some (90, .iinc 3 1, 3, 0, 0, 0) := by decide +kernel
theorem pa_168_93 : pz_at 168 93 = some (93, .goto (-20), 3, 73, 0, 0) := by decide +kernel
theorem pa_168_96 : pz_at 168 96 = some (96, .iinc 2 8, 3, 0, 0, 0) := by decide +kernel
theorem pa_168_99 : pz_at 168 99 = some (99, .iconst 0, 1, 0, 0, 0) := by decide +kernel
theorem pr_168 : (pz_mi 168).2.2 = none := by decide +kernel
theorem pa_169_0 : pz_at 169 0 = some (0, .aload_n 0, 1, 0, 0, 0) := by decide +kernel
theorem pa_169_1 : pz_at 169 1 = some (1, .getfield 335, 3, 7, 58, 969) := by decide +kernel
theorem pa_169_10 : pz_at 169 10 = some (10, .imul, 1, 0, 0, 0) := by decide +kernel
theorem pa_169_100 : pz_at 169 100 = some (100, .iconst 0, 1, 0, 0, 0) := by decide +kernel
theorem pa_169_101 : pz_at 169 101 = some (101, .istore_n 3, 1, 0, 0, 0) := by decide +kernel
theorem pa_169_102 : pz_at 169 102 = some (102, .iload_n 3, 1, 0, 0, 0) := by decide +kernel
theorem pa_169_103 : pz_at 169 103 = some (103, .aload_n 0, 1, 0, 0, 0) := by decide +kernel
theorem pa_169_104 : pz_at 169 104 = some (104, .getfield 290, 3, 7, 49, 960) := by decide +kernel
theorem pa_169_107 : pz_at 169 107 = some (107, .if_icmp .ge 161, 3, 268, 0, 0) := by decide +kernel
theorem pa_169_11 : pz_at 169 11 = some (11, .iconst 3, 1, 0, 0, 0) := by decide +kernel
theorem pa_169_110 : pz_at 169 110 = some (110, .iload_n 2, 1, 0, 0, 0) := by decide +kernel
theorem pa_169_111 : pz_at 169 111 = some (111, .ifCond .eq 157, 3, 268, 0, 0) := by decide +kernel
theorem pa_169_114 : pz_at 169 114 = some (114, .aload_n 0, 1, 0, 0, 0) := by decide +kernel
theorem pa_169_115 : pz_at 169 115 = some (115, .getfield 101, 3, 7, 37, 948) := by decide +kernel
theorem pa_169_118 : pz_at 169 118 = some (118, .iconst 4, 1, 0, 0, 0) := by decide +kernel
theorem pa_169_119 : pz_at 169 119 = some (119, .iload_n 1, 1, 0, 0, 0) := by decide +kernel
theorem pa_169_12 : pz_at 169 12 = some (12, .iadd, 1, 0, 0, 0) := by decide +kernel
theorem pa_169_120 : pz_at 169 120 = some (120, .imul, 1, 0, 0, 0) := by decide +kernel
theorem pa_169_121 : pz_at 169 121 = some (121, .iconst 3, 1, 0, 0, 0) := by decide +kernel
theorem pa_169_122 : pz_at 169 122 = some (122, .iadd, 1, 0, 0, 0) := by decide +kernel
theorem pa_169_123 : pz_at 169 123 = some (123, .iaload, 1, 0, 0, 0) := by decide +kernel
theorem pa_169_124 : pz_at 169 124 = some (124, .istore 4, 2, 0, 0, 0) := by decide +kernel
theorem pa_169_126 : pz_at 169 126 = some (126, .aload_n 0, 1, 0, 0, 0) := by decide +kernel
theorem pa_169_127 : pz_at 169 127 = some (127, .getfield 104, 3, 7, 38, 949) := by decide +kernel
theorem pa_169_13 : pz_at 169 13 = some (13, .iaload, 1, 0, 0, 0) := by decide +kernel
theorem pa_169_130 : pz_at 169 130 = some (130, .iconst 4, 1, 0, 0, 0) := by decide +kernel
theorem pa_169_131 : pz_at 169 131 = some (131, .iload_n 1, 1, 0, 0, 0) := by decide +kernel
theorem pa_169_132 : pz_at 169 132 = some (132, .imul, 1, 0, 0, 0) := by decide +kernel
theorem pa_169_133 : pz_at 169 133 = some (133, .iconst 3, 1, 0, 0, 0) := by decide +kernel
theorem pa_169_134 : pz_at 169 134 = some (134, .iadd, 1, 0, 0, 0) := by decide +kernel
theorem pa_169_135 : pz_at 169 135 = some (135, .iaload, 1, 0, 0, 0) := by decide +kernel
theorem pa_169_136 : pz_at 169 136 = some (136, .istore 5, 2, 0, 0, 0) := by decide +kernel
theorem pa_169_138 : pz_at 169 138 = some (138, .iconst 0, 1, 0, 0, 0) := by decide +kernel
theorem pa_169_139 : pz_at 169 139 = some (139, .istore 6, 2, 0, 0, 0) := by decide +kernel
theorem pa_169_14 : pz_at 169 14 = some (14, .iconst (-1), 1, 0, 0, 0) := by decide +kernel
theorem pa_169_141 : pz_at 169 141 = some (141, .iload 6, 2, 0, 0, 0) := by decide +kernel
theorem pa_169_143 : pz_at 169 143 = some (143, .aload_n 0, 1, 0, 0, 0) := by decide +kernel
theorem pa_169_144 : pz_at 169 144 = some (144, .getfield 26, 3, 7, 9, 920) := by decide +kernel
theorem pa_169_147 : pz_at 169 147 = some (147, .iload_n 1, 1, 0, 0, 0) := by decide +kernel
theorem pa_169_148 : pz_at 169 148 = some (148, .iaload, 1, 0, 0, 0) := by decide +kernel
theorem pa_169_149 : pz_at 169 149 = some (149, .if_icmp .ge 79, 3, 228, 0, 0) := by decide +kernel
theorem pa_169_15 : pz_at 169 15 = some (15, .ixor, 1, 0, 0, 0) := by decide +kernel
theorem pa_169_152 : pz_at 169 152 = some (152, .aload_n 0, 1, 0, 0, 0) := by decide +kernel
theorem pa_169_153 : pz_at 169 153 = some (153, .getfield 80, 3, 7, 30, 941) := by decide +kernel
theorem pa_169_156 : pz_at 169 156 = some (156, .iload 6, 2, 0, 0, 0) := by decide +kernel
theorem pa_169_158 : pz_at 169 158 = some (158, .iaload, 1, 0, 0, 0) := by decide +kernel
theorem pa_169_159 : pz_at 169 159 = some (159, .iconst 1, 1, 0, 0, 0) := by decide +kernel
theorem pa_169_16 : pz_at 169 16 = some (16, .iand, 1, 0, 0, 0) := by decide +kernel
theorem pa_169_160 : pz_at 169 160 = some (160, .isub, 1, 0, 0, 0) := by decide +kernel
theorem pa_169_161 : pz_at 169 161 = some (161, .iload_n 3, 1, 0, 0, 0) := by decide +kernel
theorem pa_169_162 : pz_at 169 162 = some (162, .if_icmp .ne 7, 3, 169, 0, 0) := by decide +kernel
theorem pa_169_165 : pz_at 169 165 = some (165, .iconst 1, 1, 0, 0, 0) := by decide +kernel
theorem pa_169_166 : pz_at 169 166 = some (166, .goto 4, 3, 170, 0, 0) := by decide +kernel
theorem pa_169_169 : pz_at 169 169 = some (169, .iconst 0, 1, 0, 0, 0) := by decide +kernel
theorem pa_169_17 : pz_at 169 17 = some (17, .ifCond .ne 27, 3, 44, 0, 0) := by decide +kernel
theorem pa_169_170 : pz_at 169 170 = some (170, .istore 7, 2, 0, 0, 0) := by decide +kernel
theorem pa_169_172 : pz_at 169 172 = some (172, .iload 4, 2, 0, 0, 0) := by decide +kernel
theorem pa_169_174 : pz_at 169 174 = some (174, .iload 7, 2, 0, 0, 0) := by decide +kernel
theorem pa_169_176 : pz_at 169 176 = some (176, .ifCond .eq 17, 3, 193, 0, 0) := by decide +kernel
theorem pa_169_179 : pz_at 169 179 = some (179, .aload_n 0, 1, 0, 0, 0) := by decide +kernel
theorem pa_169_180 : pz_at 169 180 = some (180, .getfield 101, 3, 7, 37, 948) := by decide +kernel
theorem pa_169_183 : pz_at 169 183 = some (183, .iconst 4, 1, 0, 0, 0) := by decide +kernel
theorem pa_169_184 : pz_at 169 184 = some (184, .iload_n 1, 1, 0, 0, 0) := by decide +kernel
theorem pa_169_185 : pz_at 169 185 = some (185, .imul, 1, 0, 0, 0) := by decide +kernel
theorem pa_169_186 : pz_at 169 186 = some (186, .iload 6, 2, 0, 0, 0) := by decide +kernel
theorem pa_169_188 : pz_at 169 188 = some (188, .iadd, 1, 0, 0, 0) := by decide +kernel
theorem pa_169_189 : pz_at 169 189 = some (189, .iaload, 1, 0, 0, 0) := by decide +kernel
theorem pa_169_190 : pz_at 169 190 = some (190, .goto 4, 3, 194, 0, 0) := by decide +kernel
theorem pa_169_193 : pz_at 169 193 = some (193, .iconst 0, 1, 0, 0, 0) := by decide +kernel
theorem pa_169_194 : pz_at 169 194 = some (194, .ior, 1, 0, 0, 0) := by decide +kernel
theorem pa_169_195 : pz_at 169 195 = some (195, .istore 4, 2, 0, 0, 0) := by decide +kernel
theorem pa_169_197 : pz_at 169 197 = some (197, .iload 5, 2, 0, 0, 0) := by decide +kernel
theorem pa_169_199 : pz_at 169 199 = some (199, .iload 7, 2, 0, 0, 0) := by decide +kernel
theorem pa_169_20 : pz_at 169 20 = some (20, .aload_n 0, 1, 0, 0, 0) := by decide +kernel
theorem pa_169_201 : pz_at 169 201 = some (201, .ifCond .eq 17, 3, 218, 0, 0) := by decide +kernel
theorem pa_169_204 : pz_at 169 204 = some (204, .aload_n 0, 1, 0, 0, 0) := by decide +kernel
theorem pa_169_205 : pz_at 169 205 = some (205, .getfield 104, 3, 7, 38, 949) := by decide +kernel
theorem pa_169_208 : pz_at 169 208 = some (208, .iconst 4, 1, 0, 0, 0) := by decide +kernel
theorem pa_169_209 : pz_at 169 209 = some (209, .iload_n 1, 1, 0, 0, 0) := by decide +kernel
theorem pa_169_21 : pz_at 169 21 = some (21, .getfield 338, 3, 7, 59, 970) := by decide +kernel
theorem pa_169_210 : pz_at 169 210 = some (210, .imul, 1, 0, 0, 0) := by decide +kernel
theorem pa_169_211 : pz_at 169 211 = some (211, .iload 6, 2, 0, 0, 0) := by decide +kernel
theorem pa_169_213 : pz_at 169 213 = some (213, .iadd, 1, 0, 0, 0) := by decide +kernel
theorem pa_169_214 : pz_at 169 214 = some (214, .iaload, 1, 0, 0, 0) := by decide +kernel
theorem pa_169_215 : pz_at 169 215 = some (215, .goto 4, 3, 219, 0, 0) := by decide +kernel
theorem pa_169_218 : pz_at 169 218 = some (218, .iconst 0, 1, 0, 0, 0) := by decide +kernel
theorem pa_169_219 : pz_at 169 219 = some (219, .ior, 1, 0, 0, 0) := by decide +kernel
theorem pa_169_220 : pz_at 169 220 = some (220, .istore 5, 2, 0, 0, 0) := by decide +kernel
theorem pa_169_222 : pz_at 169 222 = some (222, .iinc 6 1, 3, 0, 0, 0) := by decide +kernel
theorem pa_169_225 : pz_at 169 225 = some (225, .goto (-84), 3, 141, 0, 0) := by decide +kernel
theorem pa_169_228 : pz_at 169 228 = some (228, .aload_n 0, 1, 0, 0, 0) := by decide +kernel
theorem pa_169_229 : pz_at 169 229 = some (229, .getfield 122, 3, 7, 56, 967) := by decide +kernel
theorem pa_169_232 : pz_at 169 232 = some (232, .iload_n 3, 1, 0, 0, 0) := by decide +kernel
theorem pa_169_233 : pz_at 169 233 = some (233, .iaload, 1, 0, 0, 0) := by decide +kernel
theorem pa_169_234 : pz_at 169 234 = some (234, .iload 4, 2, 0, 0, 0) := by decide +kernel
theorem pa_169_236 : pz_at 169 236 = some (236, .iconst (-1), 1, 0, 0, 0) := by decide +kernel
theorem pa_169_237 : pz_at 169 237 = some (237, .ixor, 1, 0, 0, 0) := by decide +kernel
theorem pa_169_238 : pz_at 169 238 = some (238, .iand, 1, 0, 0, 0) := by decide +kernel
theorem pa_169_239 : pz_at 169 239 = some (239, .ifCond .ne 21, 3, 260, 0, 0) := by decide +kernel
theorem pa_169_24 : pz_at 169 24 = some (24, .aload_n 0, 1, 0, 0, 0) := by decide +kernel
theorem pa_169_242 : pz_at 169 242 = some (242, .aload_n 0, 1, 0, 0, 0) := by decide +kernel
theorem pa_169_243 : pz_at 169 243 = some (243, .getfield 125, 3, 7, 57, 968) := by decide +kernel
theorem pa_169_246 : pz_at 169 246 = some (246, .iload_n 3, 1, 0, 0, 0) := by decide +kernel
theorem pa_169_247 : pz_at 169 247 = some (247, .iaload, 1, 0, 0, 0) := by decide +kernel
theorem pa_169_248 : pz_at 169 248 = some (248, .iload 5, 2, 0, 0, 0) := by decide +kernel
theorem pa_169_25 : pz_at 169 25 = some (25, .getfield 104, 3, 7, 38, 949) := by decide +kernel
theorem pa_169_250 : pz_at 169 250 = some (250, .iconst (-1), 1, 0, 0, 0) := by decide +kernel
theorem pa_169_251 : pz_at 169 251 = some (251, .ixor, 1, 0, 0, 0) := by decide +kernel
theorem pa_169_252 : pz_at 169 252 = some (252, .iand, 1, 0, 0, 0) := by decide +kernel
theorem pa_169_253 : pz_at 169 253 = some (253, .ifCond .ne 7, 3, 260, 0, 0) := by decide +kernel
theorem pa_169_256 : pz_at 169 256 = some (256, .iconst 1, 1, 0, 0, 0) := by decide +kernel
theorem pa_169_257 : pz_at 169 257 = some (257, .goto 4, 3, 261, 0, 0) := by decide +kernel
theorem pa_169_260 : pz_at 169 260 = some (260, .iconst 0, 1, 0, 0, 0) := by decide +kernel
theorem pa_169_261 : pz_at 169 261 = some (261, .istore_n 2, 1, 0, 0, 0) := by decide +kernel
theorem pa_169_262 : pz_at 169 262 = some (262, .iinc 3 1, 3, 0, 0, 0) := by decide +kernel
theorem pa_169_265 : pz_at 169 265 = some (265, .goto (-163), 3, 102, 0, 0) := by decide +kernel
theorem pa_169_268 : pz_at 169 268 = some (268, .iload_n 2, 1, 0, 0, 0) := by decide +kernel
theorem pa_169_269 : pz_at 169 269 = some (269, .ireturn, 1, 0, 0, 0) := by decide +kernel
theorem pa_169_28 : pz_at 169 28 = some (28, .iconst 4, 1, 0, 0, 0) := by decide +kernel
theorem pa_169_29 : pz_at 169 29 = some (29, .iload_n 1, 1, 0, 0, 0) := by decide +kernel
theorem pa_169_30 : pz_at 169 30 = some (30, .imul, 1, 0, 0, 0) := by decide +kernel
theorem pa_169_31 : pz_at 169 31 = some (31, .iconst 3, 1, 0, 0, 0) := by decide +kernel
theorem pa_169_32 : pz_at 169 32 = some (32, .iadd, 1, 0, 0, 0) := by decide +kernel
theorem pa_169_33 : pz_at 169 33 = some (33, .iaload, 1, 0, 0, 0) := by decide +kernel
theorem pa_169_34 : pz_at 169 34 = some (34, .iconst (-1), 1, 0, 0, 0) := by decide +kernel
theorem pa_169_35 : pz_at 169 35 = some (35, .ixor, 1, 0, 0, 0) := by decide +kernel
theorem pa_169_36 : pz_at 169 36 = some (36, .iand, 1, 0, 0, 0) := by decide +kernel
theorem pa_169_37 : pz_at 169 37 = some (37, .ifCond .ne 7, 3, 44, 0, 0) := by decide +kernel
theorem pa_169_4 : pz_at 169 4 = some (4, .aload_n 0, 1, 0, 0, 0) := by decide +kernel
theorem pa_169_40 : pz_at 169 40 = some (40, .iconst 1, 1, 0, 0, 0) := by decide +kernel
theorem pa_169_41 : pz_at 169 41 = some (41, .goto 4, 3, 45, 0, 0) := by decide +kernel
theorem pa_169_44 : pz_at 169 44 = some (44, .iconst 0, 1, 0, 0, 0) := by decide +kernel
theorem pa_169_45 : pz_at 169 45 = some (45, .istore_n 2, 1, 0, 0, 0) := by decide +kernel
theorem pa_169_46 : pz_at 169 46 = some (46, .iload_n 2, 1, 0, 0, 0) := by decide +kernel
theorem pa_169_47 : pz_at 169 47 = some (47, .ifCond .eq 51, 3, 98, 0, 0) := by decide +kernel
theorem pa_169_5 : pz_at 169 5 = some (5, .getfield 101, 3, 7, 37, 948) := by decide +kernel
theorem pa_169_50 : pz_at 169 50 = some (50, .aload_n 0, 1, 0, 0, 0) := by decide +kernel
theorem pa_169_51 : pz_at 169 51 = some (51, .getfield 347, 3, 7, 27, 938) := by decide +kernel
theorem pa_169_54 : pz_at 169 54 = some (54, .aload_n 0, 1, 0, 0, 0) := by decide +kernel
theorem pa_169_55 : pz_at 169 55 = some (55, .getfield 356, 3, 7, 50, 961) := by decide +kernel
theorem pa_169_58 : pz_at 169 58 = some (58, .if_icmp .eq 12, 3, 70, 0, 0) := by decide +kernel
theorem pa_169_61 : pz_at 169 61 = some (61, .aload_n 0, 1, 0, 0, 0) := by decide +kernel
theorem pa_169_62 : pz_at 169 62 = some (62, .getfield 92, 3, 7, 34, 945) := by decide +kernel
theorem pa_169_65 : pz_at 169 65 = some (65, .iload_n 1, 1, 0, 0, 0) := by decide +kernel
theorem pa_169_66 : pz_at 169 66 = some (66, .baload, 1, 0, 0, 0) := by decide +kernel
theorem pa_169_67 : pz_at 169 67 = some (67, .ifCond .eq 31, 3, 98, 0, 0) := by decide +kernel
theorem pa_169_70 : pz_at 169 70 = some (70, .aload_n 0, 1, 0, 0, 0) := by decide +kernel
theorem pa_169_71 : pz_at 169 71 = some (71, .getfield 287, 3, 7, 51, 962) := by decide +kernel
theorem pa_169_74 : pz_at 169 74 = some (74, .ifCond .eq 20, 3, 94, 0, 0) := by decide +kernel
theorem pa_169_77 : pz_at 169 77 = some (77, .aload_n 0, 1, 0, 0, 0) := by decide +kernel
theorem pa_169_78 : pz_at 169 78 = some (78, .getfield 95, 3, 7, 35, 946) := by decide +kernel
theorem pa_169_8 : pz_at 169 8 = some (8, .iconst 4, 1, 0, 0, 0) := by decide +kernel
theorem pa_169_81 : pz_at 169 81 = some (81, .iload_n 1, 1, 0, 0, 0) := by decide +kernel
theorem pa_169_82 : pz_at 169 82 = some (82, .iaload, 1, 0, 0, 0) := by decide +kernel
theorem pa_169_83 : pz_at 169 83 = some (83, .aload_n 0, 1, 0, 0, 0) := by decide +kernel
theorem pa_169_84 : pz_at 169 84 = some (84, .getfield 287, 3, 7, 51, 962) := by decide +kernel
theorem pa_169_87 : pz_at 169 87 = some (87, .ishr, 1, 0, 0, 0) := by decide +kernel
theorem pa_169_88 : pz_at 169 88 = some (88, .iconst 1, 1, 0, 0, 0) := by decide +kernel
theorem pa_169_89 : pz_at 169 89 = some (89, .iand, 1, 0, 0, 0) := by decide +kernel
theorem pa_169_9 : pz_at 169 9 = some (9, .iload_n 1, 1, 0, 0, 0) := by decide +kernel
theorem pa_169_90 : pz_at 169 90 = some (90, .iconst 1, 1, 0, 0, 0) := by decide +kernel
theorem pa_169_91 : pz_at 169 91 = some (91, .if_icmp .ne 7, 3, 98, 0, 0) := by decide +kernel
theorem pa_169_94 : pz_at 169 94 = some (94, .iconst 1, 1, 0, 0, 0) := by decide +kernel
theorem pa_169_95 : pz_at 169 95 = some (95, .goto 4, 3, 99, 0, 0) := by decide +kernel
theorem pa_169_98 : pz_at 169 98 = some (98, .iconst 0, 1, 0, 0, 0) := by decide +kernel
theorem pa_169_99 : pz_at 169 99 = some (99, .istore_n 2, 1, 0, 0, 0) := by decide +kernel
theorem pr_169 : (pz_mi 169).2.2 = (some .boolean) := by decide +kernel
theorem pa_170_0 : pz_at 170 0 = some (0, .iload_n 1, 1, 0, 0, 0) := by decide +kernel
theorem pa_170_1 : pz_at 170 1 = some (1, .i2l, 1, 0, 0, 0) := by decide +kernel
theorem pa_170_10 : pz_at 170 10 = some (10, .invokestatic 160, 3, 109, 3, 1129) := by decide +kernel
theorem pa_170_100 : pz_at 170 100 = some (100, .iconst 3, 1, 0, 0, 0) := by decide +kernel
theorem pa_170_101 : pz_at 170 101 = some (101, .aload_n 0, 1, 0, 0, 0) := by decide +kernel
theorem pa_170_102 : pz_at 170 102 = some (102, .getfield 302, 3, 7, 47, 958) := by decide +kernel
theorem pa_170_105 : pz_at 170 105 = some (105, .iastore, 1, 0, 0, 0) := by decide +kernel
theorem pa_170_106 : pz_at 170 106 = some (106, .aload_n 0, 1, 0, 0, 0) := by decide +kernel
theorem pa_170_107 : pz_at 170 107 = some (107, .getfield 134, 3, 7, 63, 974) := by decide +kernel
theorem pa_170_110 : pz_at 170 110 = some (110, .iconst 4, 1, 0, 0, 0) := by decide +kernel
theorem pa_170_111 : pz_at 170 111 = some (111, .aload_n 0, 1, 0, 0, 0) := by decide +kernel
theorem pa_170_112 : pz_at 170 112 = some (112, .getfield 170, 3, 7, 22, 933) := by decide +kernel
theorem pa_170_115 : pz_at 170 115 = some (115, .aload_n 0, 1, 0, 0, 0) := by decide +kernel
theorem pa_170_116 : pz_at 170 116 = some (116, .getfield 290, 3, 7, 49, 960) := by decide +kernel
theorem pa_170_119 : pz_at 170 119 = some (119, .isub, 1, 0, 0, 0) := by decide +kernel
theorem pa_170_120 : pz_at 170 120 = some (120, .iastore, 1, 0, 0, 0) := by decide +kernel
theorem pa_170_121 : pz_at 170 121 = some (121, .aload_n 0, 1, 0, 0, 0) := by decide +kernel
theorem pa_170_122 : pz_at 170 122 = some (122, .getfield 134, 3, 7, 63, 974) := by decide +kernel
theorem pa_170_125 : pz_at 170 125 = some (125, .iconst 5, 1, 0, 0, 0) := by decide +kernel
theorem pa_170_126 : pz_at 170 126 = some (126, .aload_n 0, 1, 0, 0, 0) := by decide +kernel
theorem pa_170_127 : pz_at 170 127 = some (127, .getfield 287, 3, 7, 51, 962) := by decide +kernel
theorem pa_170_13 : pz_at 170 13 = some (13, .ifCond .eq 5, 3, 18, 0, 0) := by decide +kernel
theorem pa_170_130 : pz_at 170 130 = some (130, .ifCond .le 7, 3, 137, 0, 0) := by decide +kernel
theorem pa_170_133 : pz_at 170 133 = some (133, .iconst 0, 1, 0, 0, 0) := by decide +kernel
theorem pa_170_134 : pz_at 170 134 = some (134, .goto 7, 3, 141, 0, 0) := by decide +kernel
theorem pa_170_137 : pz_at 170 137 = some (137, .aload_n 0, 1, 0, 0, 0) := by decide +kernel
theorem pa_170_138 : pz_at 170 138 = some (138, .getfield 278, 3, 7, 52, 963) := by decide +kernel
theorem pa_170_141 : pz_at 170 141 = some (141, .iastore, 1, 0, 0, 0) := by decide +kernel
theorem pa_170_142 : pz_at 170 142 = some (142, .aload_n 0, 1, 0, 0, 0) := by decide +kernel
theorem pa_170_143 : pz_at 170 143 = some (143, .aload_n 0, 1, 0, 0, 0) := by decide +kernel
theorem pa_170_144 : pz_at 170 144 = some (144, .getfield 164, 3, 7, 21, 932) := by decide +kernel
theorem pa_170_147 : pz_at 170 147 = some (147, .ifCond .eq 11, 3, 158, 0, 0) := by decide +kernel
theorem pa_170_150 : pz_at 170 150 = some (150, .aload_n 0, 1, 0, 0, 0) := by decide +kernel
theorem pa_170_151 : pz_at 170 151 = some (151, .iload_n 1, 1, 0, 0, 0) := by decide +kernel
theorem pa_170_152 : pz_at 170 152 = some (152, .invokevirtual 375, 3, 169, 1, 1374) := by decide +kernel
theorem pa_170_155 : pz_at 170 155 = some (155, .ifCond .eq 7, 3, 162, 0, 0) := by decide +kernel
theorem pa_170_158 : pz_at 170 158 = some (158, .iconst 1, 1, 0, 0, 0) := by decide +kernel
theorem pa_170_159 : pz_at 170 159 = some (159, .goto 4, 3, 163, 0, 0) := by decide +kernel
theorem pa_170_16 : pz_at 170 16 = some (16, .iconst (-1), 1, 0, 0, 0) := by decide +kernel
theorem pa_170_162 : pz_at 170 162 = some (162, .iconst 0, 1, 0, 0, 0) := by decide +kernel
theorem pa_170_163 : pz_at 170 163 = some (163, .putfield 137, 3, 7, 64, 975) := by decide +kernel
theorem pa_170_166 : pz_at 170 166 = some (166, .aload_n 0, 1, 0, 0, 0) := by decide +kernel
theorem pa_170_167 : pz_at 170 167 = some (167, .getfield 287, 3, 7, 51, 962) := by decide +kernel
theorem pa_170_17 : pz_at 170 17 = some (17, .ireturn, 1, 0, 0, 0) := by decide +kernel
theorem pa_170_170 : pz_at 170 170 = some (170, .ireturn, 1, 0, 0, 0) := by decide +kernel
theorem pa_170_18 : pz_at 170 18 = some (18, .aload_n 0, 1, 0, 0, 0) := by decide +kernel
theorem pa_170_19 : pz_at 170 19 = some (19, .aload_n 0, 1, 0, 0, 0) := by decide +kernel
theorem pa_170_2 : pz_at 170 2 = some (2, .lconst 0, 1, 0, 0, 0) := by decide +kernel
theorem pa_170_20 : pz_at 170 20 = some (20, .getfield 128, 3, 7, 60, 971) := by decide +kernel
theorem pa_170_23 : pz_at 170 23 = some (23, .invokevirtual 362, 3, 167, 1, 1299) := by decide +kernel
theorem pa_170_26 : pz_at 170 26 = some (26, .aload_n 0, 1, 0, 0, 0) := by decide +kernel
theorem pa_170_27 : pz_at 170 27 = some (27, .iload_n 1, 1, 0, 0, 0) := by decide +kernel
theorem pa_170_28 : pz_at 170 28 = some (28, .iconst 0, 1, 0, 0, 0) := by decide +kernel
theorem pa_170_29 : pz_at 170 29 = some (29, .invokevirtual 366, 3, 166, 2, 1303) := by decide +kernel
theorem pa_170_3 : pz_at 170 3 = some (3, .aload_n 0, 1, 0, 0, 0) := by decide +kernel
theorem pa_170_32 : pz_at 170 32 = some (32, .ifCond .ne 14, 3, 46, 0, 0) := by decide +kernel
theorem pa_170_35 : pz_at 170 35 = some (35, .aload_n 0, 1, 0, 0, 0) := by decide +kernel
theorem pa_170_36 : pz_at 170 36 = some (36, .aload_n 0, 1, 0, 0, 0) := by decide +kernel
theorem pa_170_37 : pz_at 170 37 = some (37, .getfield 128, 3, 7, 60, 971) := by decide +kernel
theorem pa_170_4 : pz_at 170 4 = some (4, .getfield 184, 3, 7, 7, 918) := by decide +kernel
theorem pa_170_40 : pz_at 170 40 = some (40, .invokevirtual 369, 3, 168, 1, 1370) := by decide +kernel
theorem pa_170_43 : pz_at 170 43 = some (43, .bipush (-4), 2, 0, 0, 0) := by decide +kernel
theorem pa_170_45 : pz_at 170 45 = some (45, .ireturn, 1, 0, 0, 0) := by decide +kernel
theorem pa_170_46 : pz_at 170 46 = some (46, .aload_n 0, 1, 0, 0, 0) := by decide +kernel
theorem pa_170_47 : pz_at 170 47 = some (47, .iconst 1, 1, 0, 0, 0) := by decide +kernel
theorem pa_170_48 : pz_at 170 48 = some (48, .putfield 372, 3, 7, 62, 973) := by decide +kernel
theorem pa_170_51 : pz_at 170 51 = some (51, .aload_n 0, 1, 0, 0, 0) := by decide +kernel
theorem pa_170_52 : pz_at 170 52 = some (52, .getfield 134, 3, 7, 63, 974) := by decide +kernel
theorem pa_170_55 : pz_at 170 55 = some (55, .iconst 0, 1, 0, 0, 0) := by decide +kernel
theorem pa_170_56 : pz_at 170 56 = some (56, .aload_n 0, 1, 0, 0, 0) := by decide +kernel
theorem pa_170_57 : pz_at 170 57 = some (57, .getfield 293, 3, 7, 54, 965) := by decide +kernel
theorem pa_170_60 : pz_at 170 60 = some (60, .aload_n 0, 1, 0, 0, 0) := by decide +kernel
theorem pa_170_61 : pz_at 170 61 = some (61, .getfield 335, 3, 7, 58, 969) := by decide +kernel
theorem pa_170_64 : pz_at 170 64 = some (64, .ior, 1, 0, 0, 0) := by decide +kernel
theorem pa_170_65 : pz_at 170 65 = some (65, .iastore, 1, 0, 0, 0) := by decide +kernel
theorem pa_170_66 : pz_at 170 66 = some (66, .aload_n 0, 1, 0, 0, 0) := by decide +kernel
theorem pa_170_67 : pz_at 170 67 = some (67, .getfield 134, 3, 7, 63, 974) := by decide +kernel
theorem pa_170_7 : pz_at 170 7 = some (7, .iconst 1, 1, 0, 0, 0) := by decide +kernel
theorem pa_170_70 : pz_at 170 70 = some (70, .iconst 1, 1, 0, 0, 0) := by decide +kernel
theorem pa_170_71 : pz_at 170 71 = some (71, .aload_n 0, 1, 0, 0, 0) := by decide +kernel
theorem pa_170_72 : pz_at 170 72 = some (72, .getfield 296, 3, 7, 55, 966) := by decide +kernel
theorem pa_170_75 : pz_at 170 75 = some (75, .aload_n 0, 1, 0, 0, 0) := by decide +kernel
theorem pa_170_76 : pz_at 170 76 = some (76, .getfield 338, 3, 7, 59, 970) := by decide +kernel
theorem pa_170_79 : pz_at 170 79 = some (79, .ior, 1, 0, 0, 0) := by decide +kernel
theorem pa_170_8 : pz_at 170 8 = some (8, .isub, 1, 0, 0, 0) := by decide +kernel
theorem pa_170_80 : pz_at 170 80 = some (80, .iastore, 1, 0, 0, 0) := by decide +kernel
theorem pa_170_81 : pz_at 170 81 = some (81, .aload_n 0, 1, 0, 0, 0) := by decide +kernel
theorem pa_170_82 : pz_at 170 82 = some (82, .getfield 134, 3, 7, 63, 974) := by decide +kernel
theorem pa_170_85 : pz_at 170 85 = some (85, .iconst 2, 1, 0, 0, 0) := by decide +kernel
theorem pa_170_86 : pz_at 170 86 = some (86, .aload_n 0, 1, 0, 0, 0) := by decide +kernel
theorem pa_170_87 : pz_at 170 87 = some (87, .getfield 347, 3, 7, 27, 938) := by decide +kernel
theorem pa_170_9 : pz_at 170 9 = some (9, .i2l, 1, 0, 0, 0) := by decide +kernel
theorem pa_170_90 : pz_at 170 90 = some (90, .aload_n 0, 1, 0, 0, 0) := by decide +kernel
theorem pa_170_91 : pz_at 170 91 = some (91, .getfield 356, 3, 7, 50, 961) := by decide +kernel
theorem pa_170_94 : pz_at 170 94 = some (94, .isub, 1, 0, 0, 0) := by decide +kernel
theorem pa_170_95 : pz_at 170 95 = some (95, .iastore, 1, 0, 0, 0) := by decide +kernel
theorem pa_170_96 : pz_at 170 96 = some (96, .aload_n 0, 1, 0, 0, 0) := by decide +kernel
theorem pa_170_97 : pz_at 170 97 = some (97, .getfield 134, 3, 7, 63, 974) := by decide +kernel
theorem pf_55_7_60 : pz_gf 55 7 60 = some (some 95) := by decide +kernel
theorem pf_55_7_62 : pz_gf 55 7 62 = some none := by decide +kernel
theorem pf_55_7_63 : pz_gf 55 7 63 = some (some 97) := by decide +kernel
theorem pf_55_7_64 : pz_gf 55 7 64 = some none := by decide +kernel
theorem pg_97 : pz_ga 97 = some (.int, 6) := by decide +kernel
theorem pm_166 : pz_mi 166 = (7, 5, (some .boolean)) := by decide +kernel
theorem pm_167 : pz_mi 167 = (7, 4, none) := by decide +kernel
theorem pm_168 : pz_mi 168 = (7, 4, none) := by decide +kernel
theorem pm_169 : pz_mi 169 = (7, 8, (some .boolean)) := by decide +kernel
theorem pr_170 : (pz_mi 170).2.2 = (some .int) := by decide +kernel
theorem pa_171_0 : pz_at 171 0 = some (0, .iload_n 1, 1, 0, 0, 0) := by decide +kernel
theorem pa_171_1 : pz_at 171 1 = some (1, .i2l, 1, 0, 0, 0) := by decide +kernel
theorem pa_171_12 : pz_at 171 12 = some (12, .bipush (-2), 2, 0, 0, 0) := by decide +kernel
theorem pa_171_14 : pz_at 171 14 = some (14, .goto 20, 3, 34, 0, 0) := by decide +kernel
theorem pa_171_17 : pz_at 171 17 = some (17, .aload_n 0, 1, 0, 0, 0) := by decide +kernel
theorem pa_171_18 : pz_at 171 18 = some (18, .getfield 372, 3, 7, 62, 973) := by decide +kernel
theorem pa_171_2 : pz_at 171 2 = some (2, .lconst 0, 1, 0, 0, 0) := by decide +kernel
theorem pa_171_21 : pz_at 171 21 = some (21, .ifCond .eq 12, 3, 33, 0, 0) := by decide +kernel
theorem pa_171_24 : pz_at 171 24 = some (24, .aload_n 0, 1, 0, 0, 0) := by decide +kernel
theorem pa_171_25 : pz_at 171 25 = some (25, .getfield 134, 3, 7, 63, 974) := by decide +kernel
theorem pa_171_28 : pz_at 171 28 = some (28, .iload_n 1, 1, 0, 0, 0) := by decide +kernel
theorem pa_171_29 : pz_at 171 29 = some (29, .iaload, 1, 0, 0, 0) := by decide +kernel
theorem pa_171_3 : pz_at 171 3 = some (3, .ldc2_w 378, 3, 5, 0, 1382) := by decide +kernel
theorem pa_171_30 : pz_at 171 30 = some (30, .goto 4, 3, 34, 0, 0) := by decide +kernel
theorem pa_171_33 : pz_at 171 33 = some (33, .iconst 0, 1, 0, 0, 0) := by decide +kernel
theorem pa_171_34 : pz_at 171 34 = some (34, .ireturn, 1, 0, 0, 0) := by decide +kernel
theorem pa_171_6 : pz_at 171 6 = some (6, .invokestatic 160, 3, 109, 3, 1129) := by decide +kernel
theorem pa_171_9 : pz_at 171 9 = some (9, .ifCond .eq 8, 3, 17, 0, 0) := by decide +kernel
theorem pr_171 : (pz_mi 171).2.2 = (some .int) := by decide +kernel
theorem pa_172_0 : pz_at 172 0 = some (0, .aload_n 0, 1, 0, 0, 0) := by decide +kernel
theorem pa_172_1 : pz_at 172 1 = some (1, .getfield 137, 3, 7, 64, 975) := by decide +kernel
theorem pa_172_11 : pz_at 172 11 = some (11, .iconst 0, 1, 0, 0, 0) := by decide +kernel
theorem pa_172_12 : pz_at 172 12 = some (12, .ireturn, 1, 0, 0, 0) := by decide +kernel
theorem pa_172_4 : pz_at 172 4 = some (4, .ifCond .eq 7, 3, 11, 0, 0) := by decide +kernel
theorem pa_172_7 : pz_at 172 7 = some (7, .iconst 1, 1, 0, 0, 0) := by decide +kernel
theorem pa_172_8 : pz_at 172 8 = some (8, .goto 4, 3, 12, 0, 0) := by decide +kernel
theorem pr_172 : (pz_mi 172).2.2 = (some .int) := by decide +kernel
theorem pa_173_0 : pz_at 173 0 = some (0, .iload_n 1, 1, 0, 0, 0) := by decide +kernel
theorem pa_173_1 : pz_at 173 1 = some (1, .iload_n 3, 1, 0, 0, 0) := by decide +kernel
theorem pa_173_10 : pz_at 173 10 = some (10, .iload_n 1, 1, 0, 0, 0) := by decide +kernel
theorem pa_173_11 : pz_at 173 11 = some (11, .iload_n 2, 1, 0, 0, 0) := by decide +kernel
theorem pa_173_12 : pz_at 173 12 = some (12, .if_icmp .ne 7, 3, 19, 0, 0) := by decide +kernel
theorem pa_173_15 : pz_at 173 15 = some (15, .iconst 1, 1, 0, 0, 0) := by decide +kernel
theorem pa_173_16 : pz_at 173 16 = some (16, .goto 4, 3, 20, 0, 0) := by decide +kernel
theorem pa_173_19 : pz_at 173 19 = some (19, .iconst 0, 1, 0, 0, 0) := by decide +kernel
theorem pa_173_2 : pz_at 173 2 = some (2, .if_icmp .lt 8, 3, 10, 0, 0) := by decide +kernel
theorem pa_173_20 : pz_at 173 20 = some (20, .ireturn, 1, 0, 0, 0) := by decide +kernel
theorem pa_173_21 : pz_at 173 21 = some (21, .aload_n 0, 1, 0, 0, 0) := by decide +kernel
theorem pa_173_22 : pz_at 173 22 = some (22, .getfield 147, 3, 7, 67, 978) := by decide +kernel
theorem pa_173_25 : pz_at 173 25 = some (25, .iload_n 1, 1, 0, 0, 0) := by decide +kernel
theorem pa_173_26 : pz_at 173 26 = some (26, .iaload, 1, 0, 0, 0) := by decide +kernel
theorem pa_173_27 : pz_at 173 27 = some (27, .ifCond .ge 46, 3, 73, 0, 0) := by decide +kernel
theorem pa_173_30 : pz_at 173 30 = some (30, .aload_n 0, 1, 0, 0, 0) := by decide +kernel
theorem pa_173_31 : pz_at 173 31 = some (31, .getfield 150, 3, 7, 68, 979) := by decide +kernel
theorem pa_173_34 : pz_at 173 34 = some (34, .iload_n 2, 1, 0, 0, 0) := by decide +kernel
theorem pa_173_35 : pz_at 173 35 = some (35, .baload, 1, 0, 0, 0) := by decide +kernel
theorem pa_173_36 : pz_at 173 36 = some (36, .ifCond .ne 37, 3, 73, 0, 0) := by decide +kernel
theorem pa_173_39 : pz_at 173 39 = some (39, .aload_n 0, 1, 0, 0, 0) := by decide +kernel
theorem pa_173_40 : pz_at 173 40 = some (40, .getfield 147, 3, 7, 67, 978) := by decide +kernel
theorem pa_173_43 : pz_at 173 43 = some (43, .iload_n 1, 1, 0, 0, 0) := by decide +kernel
theorem pa_173_44 : pz_at 173 44 = some (44, .iload_n 2, 1, 0, 0, 0) := by decide +kernel
theorem pa_173_45 : pz_at 173 45 = some (45, .iastore, 1, 0, 0, 0) := by decide +kernel
theorem pa_173_46 : pz_at 173 46 = some (46, .aload_n 0, 1, 0, 0, 0) := by decide +kernel
theorem pa_173_47 : pz_at 173 47 = some (47, .getfield 150, 3, 7, 68, 979) := by decide +kernel
theorem pa_173_5 : pz_at 173 5 = some (5, .iload_n 2, 1, 0, 0, 0) := by decide +kernel
theorem pa_173_50 : pz_at 173 50 = some (50, .iload_n 2, 1, 0, 0, 0) := by decide +kernel
theorem pa_173_51 : pz_at 173 51 = some (51, .iconst 1, 1, 0, 0, 0) := by decide +kernel
theorem pa_173_52 : pz_at 173 52 = some (52, .bastore, 1, 0, 0, 0) := by decide +kernel
theorem pa_173_53 : pz_at 173 53 = some (53, .aload_n 0, 1, 0, 0, 0) := by decide +kernel
theorem pa_173_54 : pz_at 173 54 = some (54, .getfield 153, 3, 7, 69, 980) := by decide +kernel
theorem pa_173_57 : pz_at 173 57 = some (57, .aload_n 0, 1, 0, 0, 0) := by decide +kernel
theorem pa_173_58 : pz_at 173 58 = some (58, .getfield 380, 3, 7, 70, 981) := by decide +kernel
theorem pa_173_6 : pz_at 173 6 = some (6, .iload_n 3, 1, 0, 0, 0) := by decide +kernel
theorem pa_173_61 : pz_at 173 61 = some (61, .iload_n 1, 1, 0, 0, 0) := by decide +kernel
theorem pa_173_62 : pz_at 173 62 = some (62, .iastore, 1, 0, 0, 0) := by decide +kernel
theorem pa_173_63 : pz_at 173 63 = some (63, .aload_n 0, 1, 0, 0, 0) := by decide +kernel
theorem pa_173_64 : pz_at 173 64 = some (64, .dup, 1, 0, 0, 0) := by decide +kernel
theorem pa_173_65 : pz_at 173 65 = some (65, .getfield 380, 3, 7, 70, 981) := by decide +kernel
theorem pa_173_68 : pz_at 173 68 = some (68, .iconst 1, 1, 0, 0, 0) := by decide +kernel
theorem pa_173_69 : pz_at 173 69 = some (69, .iadd, 1, 0, 0, 0) := by decide +kernel
theorem pa_173_7 : pz_at 173 7 = some (7, .if_icmp .ge 14, 3, 21, 0, 0) := by decide +kernel
theorem pa_173_70 : pz_at 173 70 = some (70, .putfield 380, 3, 7, 70, 981) := by decide +kernel
theorem pa_173_73 : pz_at 173 73 = some (73, .aload_n 0, 1, 0, 0, 0) := by decide +kernel
theorem pa_173_74 : pz_at 173 74 = some (74, .getfield 147, 3, 7, 67, 978) := by decide +kernel
theorem pa_173_77 : pz_at 173 77 = some (77, .iload_n 1, 1, 0, 0, 0) := by decide +kernel
theorem pa_173_78 : pz_at 173 78 = some (78, .iaload, 1, 0, 0, 0) := by decide +kernel
theorem pa_173_79 : pz_at 173 79 = some (79, .iload_n 2, 1, 0, 0, 0) := by decide +kernel
theorem pa_173_80 : pz_at 173 80 = some (80, .if_icmp .ne 7, 3, 87, 0, 0) := by decide +kernel
theorem pa_173_83 : pz_at 173 83 = some (83, .iconst 1, 1, 0, 0, 0) := by decide +kernel
theorem pa_173_84 : pz_at 173 84 = some (84, .goto 4, 3, 88, 0, 0) := by decide +kernel
theorem pa_173_87 : pz_at 173 87 = some (87, .iconst 0, 1, 0, 0, 0) := by decide +kernel
theorem pa_173_88 : pz_at 173 88 = some (88, .ireturn, 1, 0, 0, 0) := by decide +kernel
theorem pf_55_7_67 : pz_gf 55 7 67 = some (some 100) := by decide +kernel
theorem pf_55_7_68 : pz_gf 55 7 68 = some (some 101) := by decide +kernel
theorem pf_55_7_69 : pz_gf 55 7 69 = some (some 102) := by decide +kernel
theorem pf_55_7_70 : pz_gf 55 7 70 = some none := by decide +kernel
theorem pg_100 : pz_ga 100 = some (.int, 60) := by decide +kernel
theorem pg_101 : pz_ga 101 = some (.boolean, 60) := by decide +kernel
theorem pg_102 : pz_ga 102 = some (.int, 60) := by decide +kernel
theorem pr_173 : (pz_mi 173).2.2 = (some .boolean) := by decide +kernel
theorem pa_174_0 : pz_at 174 0 = some (0, .aload_n 0, 1, 0, 0, 0) := by decide +kernel
theorem pa_174_1 : pz_at 174 1 = some (1, .getfield 131, 3, 7, 61, 972) := by decide +kernel
theorem pa_174_101 : pz_at 174 101 = some (101, .iload_n 2, 1, 0, 0, 0) := by decide +kernel
theorem pa_174_102 : pz_at 174 102 = some (102, .iaload, 1, 0, 0, 0) := by decide +kernel
theorem pa_174_103 : pz_at 174 103 = some (103, .ifCond .lt 25, 3, 128, 0, 0) := by decide +kernel
theorem pa_174_106 : pz_at 174 106 = some (106, .aload_n 0, 1, 0, 0, 0) := by decide +kernel
theorem pa_174_107 : pz_at 174 107 = some (107, .getfield 16, 3, 7, 4, 915) := by decide +kernel
theorem pa_174_110 : pz_at 174 110 = some (110, .iload 5, 2, 0, 0, 0) := by decide +kernel
theorem pa_174_112 : pz_at 174 112 = some (112, .baload, 1, 0, 0, 0) := by decide +kernel
theorem pa_174_113 : pz_at 174 113 = some (113, .ifCond .eq 15, 3, 128, 0, 0) := by decide +kernel
theorem pa_174_116 : pz_at 174 116 = some (116, .aload_n 0, 1, 0, 0, 0) := by decide +kernel
theorem pa_174_117 : pz_at 174 117 = some (117, .iload 6, 2, 0, 0, 0) := by decide +kernel
theorem pa_174_119 : pz_at 174 119 = some (119, .iload 7, 2, 0, 0, 0) := by decide +kernel
theorem pa_174_12 : pz_at 174 12 = some (12, .iload_n 2, 1, 0, 0, 0) := by decide +kernel
theorem pa_174_121 : pz_at 174 121 = some (121, .iload_n 3, 1, 0, 0, 0) := by decide +kernel
theorem pa_174_122 : pz_at 174 122 = some (122, .invokevirtual 383, 3, 173, 3, 1399) := by decide +kernel
theorem pa_174_125 : pz_at 174 125 = some (125, .goto 15, 3, 140, 0, 0) := by decide +kernel
theorem pa_174_128 : pz_at 174 128 = some (128, .iload 6, 2, 0, 0, 0) := by decide +kernel
theorem pa_174_13 : pz_at 174 13 = some (13, .iaload, 1, 0, 0, 0) := by decide +kernel
theorem pa_174_130 : pz_at 174 130 = some (130, .iload 7, 2, 0, 0, 0) := by decide +kernel
theorem pa_174_132 : pz_at 174 132 = some (132, .if_icmp .ne 7, 3, 139, 0, 0) := by decide +kernel
theorem pa_174_135 : pz_at 174 135 = some (135, .iconst 1, 1, 0, 0, 0) := by decide +kernel
theorem pa_174_136 : pz_at 174 136 = some (136, .goto 4, 3, 140, 0, 0) := by decide +kernel
theorem pa_174_139 : pz_at 174 139 = some (139, .iconst 0, 1, 0, 0, 0) := by decide +kernel
theorem pa_174_14 : pz_at 174 14 = some (14, .if_icmp .ne 22, 3, 36, 0, 0) := by decide +kernel
theorem pa_174_140 : pz_at 174 140 = some (140, .istore 4, 2, 0, 0, 0) := by decide +kernel
theorem pa_174_142 : pz_at 174 142 = some (142, .iinc 5 1, 3, 0, 0, 0) := by decide +kernel
theorem pa_174_145 : pz_at 174 145 = some (145, .goto (-101), 3, 44, 0, 0) := by decide +kernel
theorem pa_174_148 : pz_at 174 148 = some (148, .iload 4, 2, 0, 0, 0) := by decide +kernel
theorem pa_174_150 : pz_at 174 150 = some (150, .ireturn, 1, 0, 0, 0) := by decide +kernel
theorem pa_174_17 : pz_at 174 17 = some (17, .aload_n 0, 1, 0, 0, 0) := by decide +kernel
theorem pa_174_18 : pz_at 174 18 = some (18, .getfield 131, 3, 7, 61, 972) := by decide +kernel
theorem pa_174_21 : pz_at 174 21 = some (21, .iconst 2, 1, 0, 0, 0) := by decide +kernel
theorem pa_174_22 : pz_at 174 22 = some (22, .iload_n 1, 1, 0, 0, 0) := by decide +kernel
theorem pa_174_23 : pz_at 174 23 = some (23, .imul, 1, 0, 0, 0) := by decide +kernel
theorem pa_174_24 : pz_at 174 24 = some (24, .iconst 1, 1, 0, 0, 0) := by decide +kernel
theorem pa_174_25 : pz_at 174 25 = some (25, .iadd, 1, 0, 0, 0) := by decide +kernel
theorem pa_174_26 : pz_at 174 26 = some (26, .iaload, 1, 0, 0, 0) := by decide +kernel
theorem pa_174_27 : pz_at 174 27 = some (27, .aload_n 0, 1, 0, 0, 0) := by decide +kernel
theorem pa_174_28 : pz_at 174 28 = some (28, .getfield 65, 3, 7, 24, 935) := by decide +kernel
theorem pa_174_31 : pz_at 174 31 = some (31, .iload_n 2, 1, 0, 0, 0) := by decide +kernel
theorem pa_174_32 : pz_at 174 32 = some (32, .iaload, 1, 0, 0, 0) := by decide +kernel
theorem pa_174_33 : pz_at 174 33 = some (33, .if_icmp .eq 5, 3, 38, 0, 0) := by decide +kernel
theorem pa_174_36 : pz_at 174 36 = some (36, .iconst 0, 1, 0, 0, 0) := by decide +kernel
theorem pa_174_37 : pz_at 174 37 = some (37, .ireturn, 1, 0, 0, 0) := by decide +kernel
theorem pa_174_38 : pz_at 174 38 = some (38, .iconst 1, 1, 0, 0, 0) := by decide +kernel
theorem pa_174_39 : pz_at 174 39 = some (39, .istore 4, 2, 0, 0, 0) := by decide +kernel
theorem pa_174_4 : pz_at 174 4 = some (4, .iconst 2, 1, 0, 0, 0) := by decide +kernel
theorem pa_174_41 : pz_at 174 41 = some (41, .iconst 0, 1, 0, 0, 0) := by decide +kernel
theorem pa_174_42 : pz_at 174 42 = some (42, .istore 5, 2, 0, 0, 0) := by decide +kernel
theorem pa_174_44 : pz_at 174 44 = some (44, .iload 5, 2, 0, 0, 0) := by decide +kernel
theorem pa_174_46 : pz_at 174 46 = some (46, .bipush 16, 2, 0, 0, 0) := by decide +kernel
theorem pa_174_48 : pz_at 174 48 = some (48, .if_icmp .ge 100, 3, 148, 0, 0) := by decide +kernel
theorem pa_174_5 : pz_at 174 5 = some (5, .iload_n 1, 1, 0, 0, 0) := by decide +kernel
theorem pa_174_51 : pz_at 174 51 = some (51, .iload 4, 2, 0, 0, 0) := by decide +kernel
theorem pa_174_53 : pz_at 174 53 = some (53, .ifCond .eq 95, 3, 148, 0, 0) := by decide +kernel
theorem pa_174_56 : pz_at 174 56 = some (56, .aload_n 0, 1, 0, 0, 0) := by decide +kernel
theorem pa_174_57 : pz_at 174 57 = some (57, .iload_n 2, 1, 0, 0, 0) := by decide +kernel
theorem pa_174_58 : pz_at 174 58 = some (58, .iload 5, 2, 0, 0, 0) := by decide +kernel
theorem pa_174_6 : pz_at 174 6 = some (6, .imul, 1, 0, 0, 0) := by decide +kernel
theorem pa_174_60 : pz_at 174 60 = some (60, .invokevirtual 219, 3, 126, 2, 1198) := by decide +kernel
theorem pa_174_63 : pz_at 174 63 = some (63, .ifCond .eq 79, 3, 142, 0, 0) := by decide +kernel
theorem pa_174_66 : pz_at 174 66 = some (66, .aload_n 0, 1, 0, 0, 0) := by decide +kernel
theorem pa_174_67 : pz_at 174 67 = some (67, .getfield 131, 3, 7, 61, 972) := by decide +kernel
theorem pa_174_7 : pz_at 174 7 = some (7, .iaload, 1, 0, 0, 0) := by decide +kernel
theorem pa_174_70 : pz_at 174 70 = some (70, .bipush 120, 2, 0, 0, 0) := by decide +kernel
theorem pa_174_72 : pz_at 174 72 = some (72, .bipush 16, 2, 0, 0, 0) := by decide +kernel
theorem pa_174_74 : pz_at 174 74 = some (74, .iload_n 1, 1, 0, 0, 0) := by decide +kernel
theorem pa_174_75 : pz_at 174 75 = some (75, .imul, 1, 0, 0, 0) := by decide +kernel
theorem pa_174_76 : pz_at 174 76 = some (76, .iadd, 1, 0, 0, 0) := by decide +kernel
theorem pa_174_77 : pz_at 174 77 = some (77, .iload 5, 2, 0, 0, 0) := by decide +kernel
theorem pa_174_79 : pz_at 174 79 = some (79, .iadd, 1, 0, 0, 0) := by decide +kernel
theorem pa_174_8 : pz_at 174 8 = some (8, .aload_n 0, 1, 0, 0, 0) := by decide +kernel
theorem pa_174_80 : pz_at 174 80 = some (80, .iaload, 1, 0, 0, 0) := by decide +kernel
theorem pa_174_81 : pz_at 174 81 = some (81, .istore 6, 2, 0, 0, 0) := by decide +kernel
theorem pa_174_83 : pz_at 174 83 = some (83, .aload_n 0, 1, 0, 0, 0) := by decide +kernel
theorem pa_174_84 : pz_at 174 84 = some (84, .getfield 68, 3, 7, 25, 936) := by decide +kernel
theorem pa_174_87 : pz_at 174 87 = some (87, .bipush 16, 2, 0, 0, 0) := by decide +kernel
theorem pa_174_89 : pz_at 174 89 = some (89, .iload_n 2, 1, 0, 0, 0) := by decide +kernel
theorem pa_174_9 : pz_at 174 9 = some (9, .getfield 62, 3, 7, 23, 934) := by decide +kernel
theorem pa_174_90 : pz_at 174 90 = some (90, .imul, 1, 0, 0, 0) := by decide +kernel
theorem pa_174_91 : pz_at 174 91 = some (91, .iload 5, 2, 0, 0, 0) := by decide +kernel
theorem pa_174_93 : pz_at 174 93 = some (93, .iadd, 1, 0, 0, 0) := by decide +kernel
theorem pa_174_94 : pz_at 174 94 = some (94, .iaload, 1, 0, 0, 0) := by decide +kernel
theorem pa_174_95 : pz_at 174 95 = some (95, .istore 7, 2, 0, 0, 0) := by decide +kernel
theorem pa_174_97 : pz_at 174 97 = some (97, .aload_n 0, 1, 0, 0, 0) := by decide +kernel
theorem pa_174_98 : pz_at 174 98 = some (98, .getfield 62, 3, 7, 23, 934) := by decide +kernel
theorem pf_55_7_61 : pz_gf 55 7 61 = some (some 96) := by decide +kernel
theorem pm_173 : pz_mi 173 = (7, 4, (some .boolean)) := by decide +kernel
theorem pr_174 : (pz_mi 174).2.2 = (some .boolean) := by decide +kernel
theorem pa_175_0 : pz_at 175 0 = some (0, .aload_n 0, 1, 0, 0, 0) := by decide +kernel
theorem pa_175_1 : pz_at 175 1 = some (1, .getfield 141, 3, 7, 65, 976) := by decide +kernel
theorem pa_175_10 : pz_at 175 10 = some (10, .iconst 2, 1, 0, 0, 0) := by decide +kernel
theorem pa_175_102 : pz_at 175 102 = some (102, .iconst 0, 1, 0, 0, 0) := by decide +kernel
theorem pa_175_103 : pz_at 175 103 = some (103, .istore 4, 2, 0, 0, 0) := by decide +kernel
theorem pa_175_105 : pz_at 175 105 = some (105, .iinc 5 1, 3, 0, 0, 0) := by decide +kernel
theorem pa_175_108 : pz_at 175 108 = some (108, .goto (-53), 3, 55, 0, 0) := by decide +kernel
theorem pa_175_11 : pz_at 175 11 = some (11, .iaload, 1, 0, 0, 0) := by decide +kernel
theorem pa_175_111 : pz_at 175 111 = some (111, .iconst 0, 1, 0, 0, 0) := by decide +kernel
theorem pa_175_112 : pz_at 175 112 = some (112, .istore 5, 2, 0, 0, 0) := by decide +kernel
theorem pa_175_114 : pz_at 175 114 = some (114, .iload 5, 2, 0, 0, 0) := by decide +kernel
theorem pa_175_116 : pz_at 175 116 = some (116, .bipush 60, 2, 0, 0, 0) := by decide +kernel
theorem pa_175_118 : pz_at 175 118 = some (118, .if_icmp .ge 25, 3, 143, 0, 0) := by decide +kernel
theorem pa_175_12 : pz_at 175 12 = some (12, .if_icmp .ne 37, 3, 49, 0, 0) := by decide +kernel
theorem pa_175_121 : pz_at 175 121 = some (121, .aload_n 0, 1, 0, 0, 0) := by decide +kernel
theorem pa_175_122 : pz_at 175 122 = some (122, .getfield 147, 3, 7, 67, 978) := by decide +kernel
theorem pa_175_125 : pz_at 175 125 = some (125, .iload 5, 2, 0, 0, 0) := by decide +kernel
theorem pa_175_127 : pz_at 175 127 = some (127, .iconst (-1), 1, 0, 0, 0) := by decide +kernel
theorem pa_175_128 : pz_at 175 128 = some (128, .iastore, 1, 0, 0, 0) := by decide +kernel
theorem pa_175_129 : pz_at 175 129 = some (129, .aload_n 0, 1, 0, 0, 0) := by decide +kernel
theorem pa_175_130 : pz_at 175 130 = some (130, .getfield 150, 3, 7, 68, 979) := by decide +kernel
theorem pa_175_133 : pz_at 175 133 = some (133, .iload 5, 2, 0, 0, 0) := by decide +kernel
theorem pa_175_135 : pz_at 175 135 = some (135, .iconst 0, 1, 0, 0, 0) := by decide +kernel
theorem pa_175_136 : pz_at 175 136 = some (136, .bastore, 1, 0, 0, 0) := by decide +kernel
theorem pa_175_137 : pz_at 175 137 = some (137, .iinc 5 1, 3, 0, 0, 0) := by decide +kernel
theorem pa_175_140 : pz_at 175 140 = some (140, .goto (-26), 3, 114, 0, 0) := by decide +kernel
theorem pa_175_143 : pz_at 175 143 = some (143, .aload_n 0, 1, 0, 0, 0) := by decide +kernel
theorem pa_175_144 : pz_at 175 144 = some (144, .iconst 0, 1, 0, 0, 0) := by decide +kernel
theorem pa_175_145 : pz_at 175 145 = some (145, .putfield 380, 3, 7, 70, 981) := by decide +kernel
theorem pa_175_148 : pz_at 175 148 = some (148, .iconst 0, 1, 0, 0, 0) := by decide +kernel
theorem pa_175_149 : pz_at 175 149 = some (149, .istore 5, 2, 0, 0, 0) := by decide +kernel
theorem pa_175_15 : pz_at 175 15 = some (15, .aload_n 0, 1, 0, 0, 0) := by decide +kernel
theorem pa_175_151 : pz_at 175 151 = some (151, .iload 5, 2, 0, 0, 0) := by decide +kernel
theorem pa_175_153 : pz_at 175 153 = some (153, .aload_n 0, 1, 0, 0, 0) := by decide +kernel
theorem pa_175_154 : pz_at 175 154 = some (154, .getfield 177, 3, 7, 5, 916) := by decide +kernel
theorem pa_175_157 : pz_at 175 157 = some (157, .if_icmp .ge 78, 3, 235, 0, 0) := by decide +kernel
theorem pa_175_16 : pz_at 175 16 = some (16, .getfield 141, 3, 7, 65, 976) := by decide +kernel
theorem pa_175_160 : pz_at 175 160 = some (160, .iload 4, 2, 0, 0, 0) := by decide +kernel
theorem pa_175_162 : pz_at 175 162 = some (162, .ifCond .eq 73, 3, 235, 0, 0) := by decide +kernel
theorem pa_175_165 : pz_at 175 165 = some (165, .aload_n 0, 1, 0, 0, 0) := by decide +kernel
theorem pa_175_166 : pz_at 175 166 = some (166, .getfield 20, 3, 7, 6, 917) := by decide +kernel
theorem pa_175_169 : pz_at 175 169 = some (169, .iload 5, 2, 0, 0, 0) := by decide +kernel
theorem pa_175_171 : pz_at 175 171 = some (171, .baload, 1, 0, 0, 0) := by decide +kernel
theorem pa_175_172 : pz_at 175 172 = some (172, .ifCond .eq 29, 3, 201, 0, 0) := by decide +kernel
theorem pa_175_175 : pz_at 175 175 = some (175, .aload_n 0, 1, 0, 0, 0) := by decide +kernel
theorem pa_175_176 : pz_at 175 176 = some (176, .aload_n 0, 1, 0, 0, 0) := by decide +kernel
theorem pa_175_177 : pz_at 175 177 = some (177, .getfield 131, 3, 7, 61, 972) := by decide +kernel
theorem pa_175_180 : pz_at 175 180 = some (180, .sipush 1080, 3, 0, 0, 0) := by decide +kernel
theorem pa_175_183 : pz_at 175 183 = some (183, .iload 5, 2, 0, 0, 0) := by decide +kernel
theorem pa_175_185 : pz_at 175 185 = some (185, .iadd, 1, 0, 0, 0) := by decide +kernel
theorem pa_175_186 : pz_at 175 186 = some (186, .iaload, 1, 0, 0, 0) := by decide +kernel
theorem pa_175_187 : pz_at 175 187 = some (187, .aload_n 0, 1, 0, 0, 0) := by decide +kernel
theorem pa_175_188 : pz_at 175 188 = some (188, .getfield 71, 3, 7, 26, 937) := by decide +kernel
theorem pa_175_19 : pz_at 175 19 = some (19, .iconst 1, 1, 0, 0, 0) := by decide +kernel
theorem pa_175_191 : pz_at 175 191 = some (191, .iload 5, 2, 0, 0, 0) := by decide +kernel
theorem pa_175_193 : pz_at 175 193 = some (193, .iaload, 1, 0, 0, 0) := by decide +kernel
theorem pa_175_194 : pz_at 175 194 = some (194, .iload_n 3, 1, 0, 0, 0) := by decide +kernel
theorem pa_175_195 : pz_at 175 195 = some (195, .invokevirtual 383, 3, 173, 3, 1399) := by decide +kernel
theorem pa_175_198 : pz_at 175 198 = some (198, .goto 29, 3, 227, 0, 0) := by decide +kernel
theorem pa_175_20 : pz_at 175 20 = some (20, .iaload, 1, 0, 0, 0) := by decide +kernel
theorem pa_175_201 : pz_at 175 201 = some (201, .aload_n 0, 1, 0, 0, 0) := by decide +kernel
theorem pa_175_202 : pz_at 175 202 = some (202, .getfield 131, 3, 7, 61, 972) := by decide +kernel
theorem pa_175_205 : pz_at 175 205 = some (205, .sipush 1080, 3, 0, 0, 0) := by decide +kernel
theorem pa_175_208 : pz_at 175 208 = some (208, .iload 5, 2, 0, 0, 0) := by decide +kernel
theorem pa_175_21 : pz_at 175 21 = some (21, .aload_n 0, 1, 0, 0, 0) := by decide +kernel
theorem pa_175_210 : pz_at 175 210 = some (210, .iadd, 1, 0, 0, 0) := by decide +kernel
theorem pa_175_211 : pz_at 175 211 = some (211, .iaload, 1, 0, 0, 0) := by decide +kernel
theorem pa_175_212 : pz_at 175 212 = some (212, .aload_n 0, 1, 0, 0, 0) := by decide +kernel
theorem pa_175_213 : pz_at 175 213 = some (213, .getfield 71, 3, 7, 26, 937) := by decide +kernel
theorem pa_175_216 : pz_at 175 216 = some (216, .iload 5, 2, 0, 0, 0) := by decide +kernel
theorem pa_175_218 : pz_at 175 218 = some (218, .iaload, 1, 0, 0, 0) := by decide +kernel
theorem pa_175_219 : pz_at 175 219 = some (219, .if_icmp .ne 7, 3, 226, 0, 0) := by decide +kernel
theorem pa_175_22 : pz_at 175 22 = some (22, .getfield 141, 3, 7, 65, 976) := by decide +kernel
theorem pa_175_222 : pz_at 175 222 = some (222, .iconst 1, 1, 0, 0, 0) := by decide +kernel
theorem pa_175_223 : pz_at 175 223 = some (223, .goto 4, 3, 227, 0, 0) := by decide +kernel
theorem pa_175_226 : pz_at 175 226 = some (226, .iconst 0, 1, 0, 0, 0) := by decide +kernel
theorem pa_175_227 : pz_at 175 227 = some (227, .istore 4, 2, 0, 0, 0) := by decide +kernel
theorem pa_175_229 : pz_at 175 229 = some (229, .iinc 5 1, 3, 0, 0, 0) := by decide +kernel
theorem pa_175_232 : pz_at 175 232 = some (232, .goto (-81), 3, 151, 0, 0) := by decide +kernel
theorem pa_175_235 : pz_at 175 235 = some (235, .iconst 0, 1, 0, 0, 0) := by decide +kernel
theorem pa_175_236 : pz_at 175 236 = some (236, .istore 5, 2, 0, 0, 0) := by decide +kernel
theorem pa_175_238 : pz_at 175 238 = some (238, .iload 5, 2, 0, 0, 0) := by decide +kernel
theorem pa_175_240 : pz_at 175 240 = some (240, .iload_n 3, 1, 0, 0, 0) := by decide +kernel
theorem pa_175_241 : pz_at 175 241 = some (241, .if_icmp .ge 25, 3, 266, 0, 0) := by decide +kernel
theorem pa_175_244 : pz_at 175 244 = some (244, .iload 4, 2, 0, 0, 0) := by decide +kernel
theorem pa_175_246 : pz_at 175 246 = some (246, .ifCond .eq 20, 3, 266, 0, 0) := by decide +kernel
theorem pa_175_249 : pz_at 175 249 = some (249, .aload_n 0, 1, 0, 0, 0) := by decide +kernel
theorem pa_175_25 : pz_at 175 25 = some (25, .iconst 3, 1, 0, 0, 0) := by decide +kernel
theorem pa_175_250 : pz_at 175 250 = some (250, .iload 5, 2, 0, 0, 0) := by decide +kernel
theorem pa_175_252 : pz_at 175 252 = some (252, .iload 5, 2, 0, 0, 0) := by decide +kernel
theorem pa_175_254 : pz_at 175 254 = some (254, .iload_n 3, 1, 0, 0, 0) := by decide +kernel
theorem pa_175_255 : pz_at 175 255 = some (255, .invokevirtual 387, 3, 174, 3, 1403) := by decide +kernel
theorem pa_175_258 : pz_at 175 258 = some (258, .istore 4, 2, 0, 0, 0) := by decide +kernel
theorem pa_175_26 : pz_at 175 26 = some (26, .iaload, 1, 0, 0, 0) := by decide +kernel
theorem pa_175_260 : pz_at 175 260 = some (260, .iinc 5 1, 3, 0, 0, 0) := by decide +kernel
theorem pa_175_263 : pz_at 175 263 = some (263, .goto (-25), 3, 238, 0, 0) := by decide +kernel
theorem pa_175_266 : pz_at 175 266 = some (266, .iconst 0, 1, 0, 0, 0) := by decide +kernel
theorem pa_175_267 : pz_at 175 267 = some (267, .istore 5, 2, 0, 0, 0) := by decide +kernel
theorem pa_175_269 : pz_at 175 269 = some (269, .iload 5, 2, 0, 0, 0) := by decide +kernel
theorem pa_175_27 : pz_at 175 27 = some (27, .if_icmp .ne 22, 3, 49, 0, 0) := by decide +kernel
theorem pa_175_271 : pz_at 175 271 = some (271, .iconst 2, 1, 0, 0, 0) := by decide +kernel
theorem pa_175_272 : pz_at 175 272 = some (272, .if_icmp .ge 115, 3, 387, 0, 0) := by decide +kernel
theorem pa_175_275 : pz_at 175 275 = some (275, .iload 4, 2, 0, 0, 0) := by decide +kernel
theorem pa_175_277 : pz_at 175 277 = some (277, .ifCond .eq 110, 3, 387, 0, 0) := by decide +kernel
theorem pa_175_280 : pz_at 175 280 = some (280, .aload_n 0, 1, 0, 0, 0) := by decide +kernel
theorem pa_175_281 : pz_at 175 281 = some (281, .getfield 29, 3, 7, 10, 921) := by decide +kernel
theorem pa_175_284 : pz_at 175 284 = some (284, .iload 5, 2, 0, 0, 0) := by decide +kernel
theorem pa_175_286 : pz_at 175 286 = some (286, .ifCond .ne 7, 3, 293, 0, 0) := by decide +kernel
theorem pa_175_289 : pz_at 175 289 = some (289, .iload_n 1, 1, 0, 0, 0) := by decide +kernel
theorem pa_175_290 : pz_at 175 290 = some (290, .goto 4, 3, 294, 0, 0) := by decide +kernel
theorem pa_175_293 : pz_at 175 293 = some (293, .iload_n 2, 1, 0, 0, 0) := by decide +kernel
theorem pa_175_294 : pz_at 175 294 = some (294, .iaload, 1, 0, 0, 0) := by decide +kernel
theorem pa_175_295 : pz_at 175 295 = some (295, .iconst 2, 1, 0, 0, 0) := by decide +kernel
theorem pa_175_296 : pz_at 175 296 = some (296, .if_icmp .ne 17, 3, 313, 0, 0) := by decide +kernel
theorem pa_175_299 : pz_at 175 299 = some (299, .aload_n 0, 1, 0, 0, 0) := by decide +kernel
theorem pa_175_30 : pz_at 175 30 = some (30, .aload_n 0, 1, 0, 0, 0) := by decide +kernel
theorem pa_175_300 : pz_at 175 300 = some (300, .getfield 141, 3, 7, 65, 976) := by decide +kernel
theorem pa_175_303 : pz_at 175 303 = some (303, .iload 5, 2, 0, 0, 0) := by decide +kernel
theorem pa_175_305 : pz_at 175 305 = some (305, .iaload, 1, 0, 0, 0) := by decide +kernel
theorem pa_175_306 : pz_at 175 306 = some (306, .ifCond .ne 7, 3, 313, 0, 0) := by decide +kernel
theorem pa_175_309 : pz_at 175 309 = some (309, .iconst 1, 1, 0, 0, 0) := by decide +kernel
theorem pa_175_31 : pz_at 175 31 = some (31, .getfield 131, 3, 7, 61, 972) := by decide +kernel
theorem pa_175_310 : pz_at 175 310 = some (310, .goto 4, 3, 314, 0, 0) := by decide +kernel
theorem pa_175_313 : pz_at 175 313 = some (313, .iconst 0, 1, 0, 0, 0) := by decide +kernel
theorem pa_175_314 : pz_at 175 314 = some (314, .istore 6, 2, 0, 0, 0) := by decide +kernel
theorem pa_175_316 : pz_at 175 316 = some (316, .iload 6, 2, 0, 0, 0) := by decide +kernel
theorem pa_175_318 : pz_at 175 318 = some (318, .ifCond .eq 27, 3, 345, 0, 0) := by decide +kernel
theorem pa_175_321 : pz_at 175 321 = some (321, .aload_n 0, 1, 0, 0, 0) := by decide +kernel
theorem pa_175_322 : pz_at 175 322 = some (322, .aload_n 0, 1, 0, 0, 0) := by decide +kernel
theorem pa_175_323 : pz_at 175 323 = some (323, .getfield 144, 3, 7, 66, 977) := by decide +kernel
theorem pa_175_326 : pz_at 175 326 = some (326, .iload 5, 2, 0, 0, 0) := by decide +kernel
theorem pa_175_328 : pz_at 175 328 = some (328, .iaload, 1, 0, 0, 0) := by decide +kernel
theorem pa_175_329 : pz_at 175 329 = some (329, .aload_n 0, 1, 0, 0, 0) := by decide +kernel
theorem pa_175_330 : pz_at 175 330 = some (330, .getfield 144, 3, 7, 66, 977) := by decide +kernel
theorem pa_175_333 : pz_at 175 333 = some (333, .iconst 2, 1, 0, 0, 0) := by decide +kernel
theorem pa_175_334 : pz_at 175 334 = some (334, .iload 5, 2, 0, 0, 0) := by decide +kernel
theorem pa_175_336 : pz_at 175 336 = some (336, .iadd, 1, 0, 0, 0) := by decide +kernel
theorem pa_175_337 : pz_at 175 337 = some (337, .iaload, 1, 0, 0, 0) := by decide +kernel
theorem pa_175_338 : pz_at 175 338 = some (338, .iload_n 3, 1, 0, 0, 0) := by decide +kernel
theorem pa_175_339 : pz_at 175 339 = some (339, .invokevirtual 383, 3, 173, 3, 1399) := by decide +kernel
theorem pa_175_34 : pz_at 175 34 = some (34, .sipush 1289, 3, 0, 0, 0) := by decide +kernel
theorem pa_175_342 : pz_at 175 342 = some (342, .goto 37, 3, 379, 0, 0) := by decide +kernel
theorem pa_175_345 : pz_at 175 345 = some (345, .aload_n 0, 1, 0, 0, 0) := by decide +kernel
theorem pa_175_346 : pz_at 175 346 = some (346, .getfield 141, 3, 7, 65, 976) := by decide +kernel
theorem pa_175_349 : pz_at 175 349 = some (349, .iload 5, 2, 0, 0, 0) := by decide +kernel
theorem pa_175_351 : pz_at 175 351 = some (351, .iaload, 1, 0, 0, 0) := by decide +kernel
theorem pa_175_352 : pz_at 175 352 = some (352, .ifCond .gt 22, 3, 374, 0, 0) := by decide +kernel
theorem pa_175_355 : pz_at 175 355 = some (355, .aload_n 0, 1, 0, 0, 0) := by decide +kernel
theorem pa_175_356 : pz_at 175 356 = some (356, .getfield 144, 3, 7, 66, 977) := by decide +kernel
theorem pa_175_359 : pz_at 175 359 = some (359, .iload 5, 2, 0, 0, 0) := by decide +kernel
theorem pa_175_361 : pz_at 175 361 = some (361, .iaload, 1, 0, 0, 0) := by decide +kernel
theorem pa_175_362 : pz_at 175 362 = some (362, .aload_n 0, 1, 0, 0, 0) := by decide +kernel
theorem pa_175_363 : pz_at 175 363 = some (363, .getfield 144, 3, 7, 66, 977) := by decide +kernel
theorem pa_175_366 : pz_at 175 366 = some (366, .iconst 2, 1, 0, 0, 0) := by decide +kernel
theorem pa_175_367 : pz_at 175 367 = some (367, .iload 5, 2, 0, 0, 0) := by decide +kernel
theorem pa_175_369 : pz_at 175 369 = some (369, .iadd, 1, 0, 0, 0) := by decide +kernel
theorem pa_175_37 : pz_at 175 37 = some (37, .iaload, 1, 0, 0, 0) := by decide +kernel
theorem pa_175_370 : pz_at 175 370 = some (370, .iaload, 1, 0, 0, 0) := by decide +kernel
theorem pa_175_371 : pz_at 175 371 = some (371, .if_icmp .ne 7, 3, 378, 0, 0) := by decide +kernel
theorem pa_175_374 : pz_at 175 374 = some (374, .iconst 1, 1, 0, 0, 0) := by decide +kernel
theorem pa_175_375 : pz_at 175 375 = some (375, .goto 4, 3, 379, 0, 0) := by decide +kernel
theorem pa_175_378 : pz_at 175 378 = some (378, .iconst 0, 1, 0, 0, 0) := by decide +kernel
theorem pa_175_379 : pz_at 175 379 = some (379, .istore 4, 2, 0, 0, 0) := by decide +kernel
theorem pa_175_38 : pz_at 175 38 = some (38, .aload_n 0, 1, 0, 0, 0) := by decide +kernel
theorem pa_175_381 : pz_at 175 381 = some (381, .iinc 5 1, 3, 0, 0, 0) := by decide +kernel
theorem pa_175_384 : pz_at 175 384 = some (384, .goto (-115), 3, 269, 0, 0) := by decide +kernel
theorem pa_175_387 : pz_at 175 387 = some (387, .iconst 0, 1, 0, 0, 0) := by decide +kernel
theorem pa_175_388 : pz_at 175 388 = some (388, .istore 5, 2, 0, 0, 0) := by decide +kernel
theorem pa_175_39 : pz_at 175 39 = some (39, .getfield 347, 3, 7, 27, 938) := by decide +kernel
theorem pa_175_390 : pz_at 175 390 = some (390, .iload 5, 2, 0, 0, 0) := by decide +kernel
theorem pa_175_392 : pz_at 175 392 = some (392, .aload_n 0, 1, 0, 0, 0) := by decide +kernel
theorem pa_175_393 : pz_at 175 393 = some (393, .getfield 380, 3, 7, 70, 981) := by decide +kernel
theorem pa_175_396 : pz_at 175 396 = some (396, .if_icmp .ge 40, 3, 436, 0, 0) := by decide +kernel
theorem pa_175_399 : pz_at 175 399 = some (399, .iload 4, 2, 0, 0, 0) := by decide +kernel
theorem pa_175_4 : pz_at 175 4 = some (4, .iconst 0, 1, 0, 0, 0) := by decide +kernel
theorem pa_175_401 : pz_at 175 401 = some (401, .ifCond .eq 35, 3, 436, 0, 0) := by decide +kernel
theorem pa_175_404 : pz_at 175 404 = some (404, .aload_n 0, 1, 0, 0, 0) := by decide +kernel
theorem pa_175_405 : pz_at 175 405 = some (405, .aload_n 0, 1, 0, 0, 0) := by decide +kernel
theorem pa_175_406 : pz_at 175 406 = some (406, .getfield 153, 3, 7, 69, 980) := by decide +kernel
theorem pa_175_409 : pz_at 175 409 = some (409, .iload 5, 2, 0, 0, 0) := by decide +kernel
theorem pa_175_411 : pz_at 175 411 = some (411, .iaload, 1, 0, 0, 0) := by decide +kernel
theorem pa_175_412 : pz_at 175 412 = some (412, .aload_n 0, 1, 0, 0, 0) := by decide +kernel
theorem pa_175_413 : pz_at 175 413 = some (413, .getfield 147, 3, 7, 67, 978) := by decide +kernel
theorem pa_175_416 : pz_at 175 416 = some (416, .aload_n 0, 1, 0, 0, 0) := by decide +kernel
theorem pa_175_417 : pz_at 175 417 = some (417, .getfield 153, 3, 7, 69, 980) := by decide +kernel
theorem pa_175_42 : pz_at 175 42 = some (42, .if_icmp .ne 7, 3, 49, 0, 0) := by decide +kernel
theorem pa_175_420 : pz_at 175 420 = some (420, .iload 5, 2, 0, 0, 0) := by decide +kernel
theorem pa_175_422 : pz_at 175 422 = some (422, .iaload, 1, 0, 0, 0) := by decide +kernel
theorem pa_175_423 : pz_at 175 423 = some (423, .iaload, 1, 0, 0, 0) := by decide +kernel
theorem pa_175_424 : pz_at 175 424 = some (424, .iload_n 3, 1, 0, 0, 0) := by decide +kernel
theorem pa_175_425 : pz_at 175 425 = some (425, .invokevirtual 387, 3, 174, 3, 1403) := by decide +kernel
theorem pa_175_428 : pz_at 175 428 = some (428, .istore 4, 2, 0, 0, 0) := by decide +kernel
theorem pa_175_430 : pz_at 175 430 = some (430, .iinc 5 1, 3, 0, 0, 0) := by decide +kernel
theorem pa_175_433 : pz_at 175 433 = some (433, .goto (-43), 3, 390, 0, 0) := by decide +kernel
theorem pa_175_436 : pz_at 175 436 = some (436, .iload 4, 2, 0, 0, 0) := by decide +kernel
theorem pa_175_438 : pz_at 175 438 = some (438, .ireturn, 1, 0, 0, 0) := by decide +kernel
theorem pa_175_45 : pz_at 175 45 = some (45, .iconst 1, 1, 0, 0, 0) := by decide +kernel
theorem pa_175_46 : pz_at 175 46 = some (46, .goto 4, 3, 50, 0, 0) := by decide +kernel
theorem pa_175_49 : pz_at 175 49 = some (49, .iconst 0, 1, 0, 0, 0) := by decide +kernel
theorem pa_175_5 : pz_at 175 5 = some (5, .iaload, 1, 0, 0, 0) := by decide +kernel
theorem pa_175_50 : pz_at 175 50 = some (50, .istore 4, 2, 0, 0, 0) := by decide +kernel
theorem pa_175_52 : pz_at 175 52 = some (52, .iconst 0, 1, 0, 0, 0) := by decide +kernel
theorem pa_175_53 : pz_at 175 53 = some (53, .istore 5, 2, 0, 0, 0) := by decide +kernel
theorem pa_175_55 : pz_at 175 55 = some (55, .iload 5, 2, 0, 0, 0) := by decide +kernel
theorem pa_175_57 : pz_at 175 57 = some (57, .sipush 200, 3, 0, 0, 0) := by decide +kernel
theorem pa_175_6 : pz_at 175 6 = some (6, .aload_n 0, 1, 0, 0, 0) := by decide +kernel
theorem pa_175_60 : pz_at 175 60 = some (60, .if_icmp .ge 51, 3, 111, 0, 0) := by decide +kernel
theorem pa_175_63 : pz_at 175 63 = some (63, .iload 5, 2, 0, 0, 0) := by decide +kernel
theorem pa_175_65 : pz_at 175 65 = some (65, .aload_n 0, 1, 0, 0, 0) := by decide +kernel
theorem pa_175_66 : pz_at 175 66 = some (66, .getfield 347, 3, 7, 27, 938) := by decide +kernel
theorem pa_175_69 : pz_at 175 69 = some (69, .if_icmp .ge 42, 3, 111, 0, 0) := by decide +kernel
theorem pa_175_7 : pz_at 175 7 = some (7, .getfield 141, 3, 7, 65, 976) := by decide +kernel
theorem pa_175_72 : pz_at 175 72 = some (72, .iload 4, 2, 0, 0, 0) := by decide +kernel
theorem pa_175_74 : pz_at 175 74 = some (74, .ifCond .eq 37, 3, 111, 0, 0) := by decide +kernel
theorem pa_175_77 : pz_at 175 77 = some (77, .aload_n 0, 1, 0, 0, 0) := by decide +kernel
theorem pa_175_78 : pz_at 175 78 = some (78, .getfield 131, 3, 7, 61, 972) := by decide +kernel
theorem pa_175_81 : pz_at 175 81 = some (81, .sipush 1088, 3, 0, 0, 0) := by decide +kernel
theorem pa_175_84 : pz_at 175 84 = some (84, .iload 5, 2, 0, 0, 0) := by decide +kernel
theorem pa_175_86 : pz_at 175 86 = some (86, .iadd, 1, 0, 0, 0) := by decide +kernel
theorem pa_175_87 : pz_at 175 87 = some (87, .iaload, 1, 0, 0, 0) := by decide +kernel
theorem pa_175_88 : pz_at 175 88 = some (88, .aload_n 0, 1, 0, 0, 0) := by decide +kernel
theorem pa_175_89 : pz_at 175 89 = some (89, .getfield 74, 3, 7, 28, 939) := by decide +kernel
theorem pa_175_92 : pz_at 175 92 = some (92, .iload 5, 2, 0, 0, 0) := by decide +kernel
theorem pa_175_94 : pz_at 175 94 = some (94, .iaload, 1, 0, 0, 0) := by decide +kernel
theorem pa_175_95 : pz_at 175 95 = some (95, .if_icmp .ne 7, 3, 102, 0, 0) := by decide +kernel
theorem pa_175_98 : pz_at 175 98 = some (98, .iconst 1, 1, 0, 0, 0) := by decide +kernel
theorem pa_175_99 : pz_at 175 99 = some (99, .goto 4, 3, 103, 0, 0) := by decide +kernel
theorem pf_55_7_65 : pz_gf 55 7 65 = some (some 98) := by decide +kernel
theorem pf_55_7_66 : pz_gf 55 7 66 = some (some 99) := by decide +kernel
theorem pg_98 : pz_ga 98 = some (.int, 4) := by decide +kernel
theorem pg_99 : pz_ga 99 = some (.int, 4) := by decide +kernel
theorem pm_174 : pz_mi 174 = (7, 8, (some .boolean)) := by decide +kernel
theorem pr_175 : (pz_mi 175).2.2 = (some .boolean) := by decide +kernel
theorem pa_176_0 : pz_at 176 0 = some (0, .aload_n 0, 1, 0, 0, 0) := by decide +kernel
theorem pa_176_1 : pz_at 176 1 = some (1, .iload_n 1, 1, 0, 0, 0) := by decide +kernel
theorem pa_176_10 : pz_at 176 10 = some (10, .ireturn, 1, 0, 0, 0) := by decide +kernel
theorem pa_176_11 : pz_at 176 11 = some (11, .aload_n 0, 1, 0, 0, 0) := by decide +kernel
theorem pa_176_12 : pz_at 176 12 = some (12, .getfield 141, 3, 7, 65, 976) := by decide +kernel
theorem pa_176_15 : pz_at 176 15 = some (15, .iload_n 3, 1, 0, 0, 0) := by decide +kernel
theorem pa_176_16 : pz_at 176 16 = some (16, .aload_n 0, 1, 0, 0, 0) := by decide +kernel
theorem pa_176_17 : pz_at 176 17 = some (17, .getfield 287, 3, 7, 51, 962) := by decide +kernel
theorem pa_176_2 : pz_at 176 2 = some (2, .iload_n 2, 1, 0, 0, 0) := by decide +kernel
theorem pa_176_20 : pz_at 176 20 = some (20, .iastore, 1, 0, 0, 0) := by decide +kernel
theorem pa_176_21 : pz_at 176 21 = some (21, .aload_n 0, 1, 0, 0, 0) := by decide +kernel
theorem pa_176_22 : pz_at 176 22 = some (22, .getfield 144, 3, 7, 66, 977) := by decide +kernel
theorem pa_176_25 : pz_at 176 25 = some (25, .iload_n 3, 1, 0, 0, 0) := by decide +kernel
theorem pa_176_26 : pz_at 176 26 = some (26, .aload_n 0, 1, 0, 0, 0) := by decide +kernel
theorem pa_176_27 : pz_at 176 27 = some (27, .getfield 278, 3, 7, 52, 963) := by decide +kernel
theorem pa_176_3 : pz_at 176 3 = some (3, .invokevirtual 366, 3, 166, 2, 1303) := by decide +kernel
theorem pa_176_30 : pz_at 176 30 = some (30, .iastore, 1, 0, 0, 0) := by decide +kernel
theorem pa_176_31 : pz_at 176 31 = some (31, .aload_n 0, 1, 0, 0, 0) := by decide +kernel
theorem pa_176_32 : pz_at 176 32 = some (32, .iload 4, 2, 0, 0, 0) := by decide +kernel
theorem pa_176_34 : pz_at 176 34 = some (34, .iload 5, 2, 0, 0, 0) := by decide +kernel
theorem pa_176_36 : pz_at 176 36 = some (36, .invokevirtual 366, 3, 166, 2, 1303) := by decide +kernel
theorem pa_176_39 : pz_at 176 39 = some (39, .ifCond .ne 5, 3, 44, 0, 0) := by decide +kernel
theorem pa_176_42 : pz_at 176 42 = some (42, .iconst 0, 1, 0, 0, 0) := by decide +kernel
theorem pa_176_43 : pz_at 176 43 = some (43, .ireturn, 1, 0, 0, 0) := by decide +kernel
theorem pa_176_44 : pz_at 176 44 = some (44, .aload_n 0, 1, 0, 0, 0) := by decide +kernel
theorem pa_176_45 : pz_at 176 45 = some (45, .getfield 141, 3, 7, 65, 976) := by decide +kernel
theorem pa_176_48 : pz_at 176 48 = some (48, .iload 6, 2, 0, 0, 0) := by decide +kernel
theorem pa_176_50 : pz_at 176 50 = some (50, .aload_n 0, 1, 0, 0, 0) := by decide +kernel
theorem pa_176_51 : pz_at 176 51 = some (51, .getfield 287, 3, 7, 51, 962) := by decide +kernel
theorem pa_176_54 : pz_at 176 54 = some (54, .iastore, 1, 0, 0, 0) := by decide +kernel
theorem pa_176_55 : pz_at 176 55 = some (55, .aload_n 0, 1, 0, 0, 0) := by decide +kernel
theorem pa_176_56 : pz_at 176 56 = some (56, .getfield 144, 3, 7, 66, 977) := by decide +kernel
theorem pa_176_59 : pz_at 176 59 = some (59, .iload 6, 2, 0, 0, 0) := by decide +kernel
theorem pa_176_6 : pz_at 176 6 = some (6, .ifCond .ne 5, 3, 11, 0, 0) := by decide +kernel
theorem pa_176_61 : pz_at 176 61 = some (61, .aload_n 0, 1, 0, 0, 0) := by decide +kernel
theorem pa_176_62 : pz_at 176 62 = some (62, .getfield 278, 3, 7, 52, 963) := by decide +kernel
theorem pa_176_65 : pz_at 176 65 = some (65, .iastore, 1, 0, 0, 0) := by decide +kernel
theorem pa_176_66 : pz_at 176 66 = some (66, .iconst 1, 1, 0, 0, 0) := by decide +kernel
theorem pa_176_67 : pz_at 176 67 = some (67, .ireturn, 1, 0, 0, 0) := by decide +kernel
theorem pa_176_9 : pz_at 176 9 = some (9, .iconst 0, 1, 0, 0, 0) := by decide +kernel
theorem pr_176 : (pz_mi 176).2.2 = (some .boolean) := by decide +kernel
theorem pa_177_0 : pz_at 177 0 = some (0, .iload_n 1, 1, 0, 0, 0) := by decide +kernel
theorem pa_177_1 : pz_at 177 1 = some (1, .i2l, 1, 0, 0, 0) := by decide +kernel
theorem pa_177_10 : pz_at 177 10 = some (10, .invokestatic 160, 3, 109, 3, 1129) := by decide +kernel
theorem pa_177_100 : pz_at 177 100 = some (100, .iload_n 3, 1, 0, 0, 0) := by decide +kernel
theorem pa_177_101 : pz_at 177 101 = some (101, .invokevirtual 394, 3, 175, 3, 1395) := by decide +kernel
theorem pa_177_104 : pz_at 177 104 = some (104, .ifCond .eq 7, 3, 111, 0, 0) := by decide +kernel
theorem pa_177_107 : pz_at 177 107 = some (107, .iconst 1, 1, 0, 0, 0) := by decide +kernel
theorem pa_177_108 : pz_at 177 108 = some (108, .goto 4, 3, 112, 0, 0) := by decide +kernel
theorem pa_177_111 : pz_at 177 111 = some (111, .iconst 0, 1, 0, 0, 0) := by decide +kernel
theorem pa_177_112 : pz_at 177 112 = some (112, .istore 5, 2, 0, 0, 0) := by decide +kernel
theorem pa_177_114 : pz_at 177 114 = some (114, .aload_n 0, 1, 0, 0, 0) := by decide +kernel
theorem pa_177_115 : pz_at 177 115 = some (115, .aload_n 0, 1, 0, 0, 0) := by decide +kernel
theorem pa_177_116 : pz_at 177 116 = some (116, .getfield 128, 3, 7, 60, 971) := by decide +kernel
theorem pa_177_119 : pz_at 177 119 = some (119, .invokevirtual 369, 3, 168, 1, 1370) := by decide +kernel
theorem pa_177_122 : pz_at 177 122 = some (122, .iload 4, 2, 0, 0, 0) := by decide +kernel
theorem pa_177_124 : pz_at 177 124 = some (124, .ifCond .eq 16, 3, 140, 0, 0) := by decide +kernel
theorem pa_177_127 : pz_at 177 127 = some (127, .iload 5, 2, 0, 0, 0) := by decide +kernel
theorem pa_177_129 : pz_at 177 129 = some (129, .ifCond .eq 7, 3, 136, 0, 0) := by decide +kernel
theorem pa_177_13 : pz_at 177 13 = some (13, .ifCond .ne 19, 3, 32, 0, 0) := by decide +kernel
theorem pa_177_132 : pz_at 177 132 = some (132, .iconst 1, 1, 0, 0, 0) := by decide +kernel
theorem pa_177_133 : pz_at 177 133 = some (133, .goto 9, 3, 142, 0, 0) := by decide +kernel
theorem pa_177_136 : pz_at 177 136 = some (136, .iconst 0, 1, 0, 0, 0) := by decide +kernel
theorem pa_177_137 : pz_at 177 137 = some (137, .goto 5, 3, 142, 0, 0) := by decide +kernel
theorem pa_177_140 : pz_at 177 140 = some (140, .bipush (-4), 2, 0, 0, 0) := by decide +kernel
theorem pa_177_142 : pz_at 177 142 = some (142, .ireturn, 1, 0, 0, 0) := by decide +kernel
theorem pa_177_16 : pz_at 177 16 = some (16, .iload_n 2, 1, 0, 0, 0) := by decide +kernel
theorem pa_177_17 : pz_at 177 17 = some (17, .i2l, 1, 0, 0, 0) := by decide +kernel
theorem pa_177_18 : pz_at 177 18 = some (18, .lconst 0, 1, 0, 0, 0) := by decide +kernel
theorem pa_177_19 : pz_at 177 19 = some (19, .aload_n 0, 1, 0, 0, 0) := by decide +kernel
theorem pa_177_2 : pz_at 177 2 = some (2, .lconst 0, 1, 0, 0, 0) := by decide +kernel
theorem pa_177_20 : pz_at 177 20 = some (20, .getfield 184, 3, 7, 7, 918) := by decide +kernel
theorem pa_177_23 : pz_at 177 23 = some (23, .iconst 1, 1, 0, 0, 0) := by decide +kernel
theorem pa_177_24 : pz_at 177 24 = some (24, .isub, 1, 0, 0, 0) := by decide +kernel
theorem pa_177_25 : pz_at 177 25 = some (25, .i2l, 1, 0, 0, 0) := by decide +kernel
theorem pa_177_26 : pz_at 177 26 = some (26, .invokestatic 160, 3, 109, 3, 1129) := by decide +kernel
theorem pa_177_29 : pz_at 177 29 = some (29, .ifCond .eq 5, 3, 34, 0, 0) := by decide +kernel
theorem pa_177_3 : pz_at 177 3 = some (3, .aload_n 0, 1, 0, 0, 0) := by decide +kernel
theorem pa_177_32 : pz_at 177 32 = some (32, .iconst (-1), 1, 0, 0, 0) := by decide +kernel
theorem pa_177_33 : pz_at 177 33 = some (33, .ireturn, 1, 0, 0, 0) := by decide +kernel
theorem pa_177_34 : pz_at 177 34 = some (34, .aload_n 0, 1, 0, 0, 0) := by decide +kernel
theorem pa_177_35 : pz_at 177 35 = some (35, .aload_n 0, 1, 0, 0, 0) := by decide +kernel
theorem pa_177_36 : pz_at 177 36 = some (36, .getfield 128, 3, 7, 60, 971) := by decide +kernel
theorem pa_177_39 : pz_at 177 39 = some (39, .invokevirtual 362, 3, 167, 1, 1299) := by decide +kernel
theorem pa_177_4 : pz_at 177 4 = some (4, .getfield 184, 3, 7, 7, 918) := by decide +kernel
theorem pa_177_42 : pz_at 177 42 = some (42, .aload_n 0, 1, 0, 0, 0) := by decide +kernel
theorem pa_177_43 : pz_at 177 43 = some (43, .getfield 170, 3, 7, 22, 933) := by decide +kernel
theorem pa_177_46 : pz_at 177 46 = some (46, .istore_n 3, 1, 0, 0, 0) := by decide +kernel
theorem pa_177_47 : pz_at 177 47 = some (47, .aload_n 0, 1, 0, 0, 0) := by decide +kernel
theorem pa_177_48 : pz_at 177 48 = some (48, .iload_n 1, 1, 0, 0, 0) := by decide +kernel
theorem pa_177_49 : pz_at 177 49 = some (49, .iconst 0, 1, 0, 0, 0) := by decide +kernel
theorem pa_177_50 : pz_at 177 50 = some (50, .iconst 0, 1, 0, 0, 0) := by decide +kernel
theorem pa_177_51 : pz_at 177 51 = some (51, .iload_n 2, 1, 0, 0, 0) := by decide +kernel
theorem pa_177_52 : pz_at 177 52 = some (52, .iconst 1, 1, 0, 0, 0) := by decide +kernel
theorem pa_177_53 : pz_at 177 53 = some (53, .iconst 1, 1, 0, 0, 0) := by decide +kernel
theorem pa_177_54 : pz_at 177 54 = some (54, .invokevirtual 390, 3, 176, 6, 1391) := by decide +kernel
theorem pa_177_57 : pz_at 177 57 = some (57, .istore 4, 2, 0, 0, 0) := by decide +kernel
theorem pa_177_59 : pz_at 177 59 = some (59, .iload 4, 2, 0, 0, 0) := by decide +kernel
theorem pa_177_61 : pz_at 177 61 = some (61, .ifCond .eq 31, 3, 92, 0, 0) := by decide +kernel
theorem pa_177_64 : pz_at 177 64 = some (64, .aload_n 0, 1, 0, 0, 0) := by decide +kernel
theorem pa_177_65 : pz_at 177 65 = some (65, .aload_n 0, 1, 0, 0, 0) := by decide +kernel
theorem pa_177_66 : pz_at 177 66 = some (66, .getfield 131, 3, 7, 61, 972) := by decide +kernel
theorem pa_177_69 : pz_at 177 69 = some (69, .invokevirtual 362, 3, 167, 1, 1299) := by decide +kernel
theorem pa_177_7 : pz_at 177 7 = some (7, .iconst 1, 1, 0, 0, 0) := by decide +kernel
theorem pa_177_72 : pz_at 177 72 = some (72, .aload_n 0, 1, 0, 0, 0) := by decide +kernel
theorem pa_177_73 : pz_at 177 73 = some (73, .aload_n 0, 1, 0, 0, 0) := by decide +kernel
theorem pa_177_74 : pz_at 177 74 = some (74, .getfield 128, 3, 7, 60, 971) := by decide +kernel
theorem pa_177_77 : pz_at 177 77 = some (77, .invokevirtual 369, 3, 168, 1, 1370) := by decide +kernel
theorem pa_177_8 : pz_at 177 8 = some (8, .isub, 1, 0, 0, 0) := by decide +kernel
theorem pa_177_80 : pz_at 177 80 = some (80, .aload_n 0, 1, 0, 0, 0) := by decide +kernel
theorem pa_177_81 : pz_at 177 81 = some (81, .iload_n 2, 1, 0, 0, 0) := by decide +kernel
theorem pa_177_82 : pz_at 177 82 = some (82, .iconst 1, 1, 0, 0, 0) := by decide +kernel
theorem pa_177_83 : pz_at 177 83 = some (83, .iconst 3, 1, 0, 0, 0) := by decide +kernel
theorem pa_177_84 : pz_at 177 84 = some (84, .iload_n 1, 1, 0, 0, 0) := by decide +kernel
theorem pa_177_85 : pz_at 177 85 = some (85, .iconst 0, 1, 0, 0, 0) := by decide +kernel
theorem pa_177_86 : pz_at 177 86 = some (86, .iconst 2, 1, 0, 0, 0) := by decide +kernel
theorem pa_177_87 : pz_at 177 87 = some (87, .invokevirtual 390, 3, 176, 6, 1391) := by decide +kernel
theorem pa_177_9 : pz_at 177 9 = some (9, .i2l, 1, 0, 0, 0) := by decide +kernel
theorem pa_177_90 : pz_at 177 90 = some (90, .istore 4, 2, 0, 0, 0) := by decide +kernel
theorem pa_177_92 : pz_at 177 92 = some (92, .iload 4, 2, 0, 0, 0) := by decide +kernel
theorem pa_177_94 : pz_at 177 94 = some (94, .ifCond .eq 17, 3, 111, 0, 0) := by decide +kernel
theorem pa_177_97 : pz_at 177 97 = some (97, .aload_n 0, 1, 0, 0, 0) := by decide +kernel
theorem pa_177_98 : pz_at 177 98 = some (98, .iload_n 1, 1, 0, 0, 0) := by decide +kernel
theorem pa_177_99 : pz_at 177 99 = some (99, .iload_n 2, 1, 0, 0, 0) := by decide +kernel
theorem pm_175 : pz_mi 175 = (7, 7, (some .boolean)) := by decide +kernel
theorem pm_176 : pz_mi 176 = (7, 7, (some .boolean)) := by decide +kernel
theorem pr_177 : (pz_mi 177).2.2 = (some .int) := by decide +kernel
theorem pa_178_0 : pz_at 178 0 = some (0, .iload_n 1, 1, 0, 0, 0) := by decide +kernel
theorem pa_178_1 : pz_at 178 1 = some (1, .ifCond .lt 18, 3, 19, 0, 0) := by decide +kernel
theorem pa_178_12 : pz_at 178 12 = some (12, .iload_n 1, 1, 0, 0, 0) := by decide +kernel
theorem pa_178_13 : pz_at 178 13 = some (13, .sipush 199, 3, 0, 0, 0) := by decide +kernel
theorem pa_178_16 : pz_at 178 16 = some (16, .if_icmp .le 7, 3, 23, 0, 0) := by decide +kernel
theorem pa_178_19 : pz_at 178 19 = some (19, .iconst 0, 1, 0, 0, 0) := by decide +kernel
theorem pa_178_20 : pz_at 178 20 = some (20, .goto 9, 3, 29, 0, 0) := by decide +kernel
theorem pa_178_23 : pz_at 178 23 = some (23, .aload_n 0, 1, 0, 0, 0) := by decide +kernel
theorem pa_178_24 : pz_at 178 24 = some (24, .getfield 74, 3, 7, 28, 939) := by decide +kernel
theorem pa_178_27 : pz_at 178 27 = some (27, .iload_n 1, 1, 0, 0, 0) := by decide +kernel
theorem pa_178_28 : pz_at 178 28 = some (28, .iaload, 1, 0, 0, 0) := by decide +kernel
theorem pa_178_29 : pz_at 178 29 = some (29, .ireturn, 1, 0, 0, 0) := by decide +kernel
theorem pa_178_4 : pz_at 178 4 = some (4, .iload_n 1, 1, 0, 0, 0) := by decide +kernel
theorem pa_178_5 : pz_at 178 5 = some (5, .aload_n 0, 1, 0, 0, 0) := by decide +kernel
theorem pa_178_6 : pz_at 178 6 = some (6, .getfield 347, 3, 7, 27, 938) := by decide +kernel
theorem pa_178_9 : pz_at 178 9 = some (9, .if_icmp .ge 10, 3, 19, 0, 0) := by decide +kernel
theorem pr_178 : (pz_mi 178).2.2 = (some .int) := by decide +kernel
theorem pa_179_0 : pz_at 179 0 = some (0, .iload_n 1, 1, 0, 0, 0) := by decide +kernel
theorem pa_179_1 : pz_at 179 1 = some (1, .tableswitch 86 0 6 #[43, 48, 53, 58, 63, 68, 73], 43, 0, 0, 0) := by decide +kernel
theorem pa_179_44 : pz_at 179 44 = some (44, .aload_n 0, 1, 0, 0, 0) := by decide +kernel
theorem pa_179_45 : pz_at 179 45 = some (45, .getfield 156, 3, 7, 0, 911) := by decide +kernel
theorem pa_179_48 : pz_at 179 48 = some (48, .ireturn, 1, 0, 0, 0) := by decide +kernel
theorem pa_179_49 : pz_at 179 49 = some (49, .aload_n 0, 1, 0, 0, 0) := by decide +kernel
theorem pa_179_50 : pz_at 179 50 = some (50, .getfield 167, 3, 7, 2, 913) := by decide +kernel
theorem pa_179_53 : pz_at 179 53 = some (53, .ireturn, 1, 0, 0, 0) := by decide +kernel
theorem pa_179_54 : pz_at 179 54 = some (54, .aload_n 0, 1, 0, 0, 0) := by decide +kernel
theorem pa_179_55 : pz_at 179 55 = some (55, .getfield 177, 3, 7, 5, 916) := by decide +kernel
theorem pa_179_58 : pz_at 179 58 = some (58, .ireturn, 1, 0, 0, 0) := by decide +kernel
theorem pa_179_59 : pz_at 179 59 = some (59, .aload_n 0, 1, 0, 0, 0) := by decide +kernel
theorem pa_179_60 : pz_at 179 60 = some (60, .getfield 184, 3, 7, 7, 918) := by decide +kernel
theorem pa_179_63 : pz_at 179 63 = some (63, .ireturn, 1, 0, 0, 0) := by decide +kernel
theorem pa_179_64 : pz_at 179 64 = some (64, .aload_n 0, 1, 0, 0, 0) := by decide +kernel
theorem pa_179_65 : pz_at 179 65 = some (65, .getfield 170, 3, 7, 22, 933) := by decide +kernel
theorem pa_179_68 : pz_at 179 68 = some (68, .ireturn, 1, 0, 0, 0) := by decide +kernel
theorem pa_179_69 : pz_at 179 69 = some (69, .aload_n 0, 1, 0, 0, 0) := by decide +kernel
theorem pa_179_70 : pz_at 179 70 = some (70, .getfield 347, 3, 7, 27, 938) := by decide +kernel
theorem pa_179_73 : pz_at 179 73 = some (73, .ireturn, 1, 0, 0, 0) := by decide +kernel
theorem pa_179_74 : pz_at 179 74 = some (74, .aload_n 0, 1, 0, 0, 0) := by decide +kernel
theorem pa_179_75 : pz_at 179 75 = some (75, .getfield 164, 3, 7, 21, 932) := by decide +kernel
theorem pa_179_78 : pz_at 179 78 = some (78, .ifCond .eq 7, 3, 85, 0, 0) := by decide +kernel
theorem pa_179_81 : pz_at 179 81 = some (81, .iconst 1, 1, 0, 0, 0) := by decide +kernel
theorem pa_179_82 : pz_at 179 82 = some (82, .goto 4, 3, 86, 0, 0) := by decide +kernel
theorem pa_179_85 : pz_at 179 85 = some (85, .iconst 0, 1, 0, 0, 0) := by decide +kernel
theorem pa_179_86 : pz_at 179 86 = some (86, .ireturn, 1, 0, 0, 0) := by decide +kernel
theorem pa_179_87 : pz_at 179 87 = some (87, .bipush (-2), 2, 0, 0, 0) := by decide +kernel
theorem pa_179_89 : pz_at 179 89 = some (89, .ireturn, 1, 0, 0, 0) := by decide +kernel
theorem pr_179 : (pz_mi 179).2.2 = (some .int) := by decide +kernel
theorem pa_180_1000 : pz_at 180 1000 = some (1000, .invokevirtual 118, 3, 108, 1, 901) := by decide +kernel
theorem pa_180_1003 : pz_at 180 1003 = some (1003, .aload_n 2, 1, 0, 0, 0) := by decide +kernel
theorem pa_180_1004 : pz_at 180 1004 = some (1004, .aload_n 0, 1, 0, 0, 0) := by decide +kernel
theorem pa_180_1005 : pz_at 180 1005 = some (1005, .iload_n 3, 1, 0, 0, 0) := by decide +kernel
theorem pa_180_1006 : pz_at 180 1006 = some (1006, .iconst 1, 1, 0, 0, 0) := by decide +kernel
theorem pa_180_1007 : pz_at 180 1007 = some (1007, .iadd, 1, 0, 0, 0) := by decide +kernel
theorem pa_180_1008 : pz_at 180 1008 = some (1008, .iaload, 1, 0, 0, 0) := by decide +kernel
theorem pa_180_1009 : pz_at 180 1009 = some (1009, .invokevirtual 121, 3, 179, 1, 1411) := by decide +kernel
theorem pa_180_1012 : pz_at 180 1012 = some (1012, .if_icmp .eq 5, 3, 1017, 0, 0) := by decide +kernel
theorem pa_180_1015 : pz_at 180 1015 = some (1015, .iconst 0, 1, 0, 0, 0) := by decide +kernel
theorem pa_180_1016 : pz_at 180 1016 = some (1016, .ireturn, 1, 0, 0, 0) := by decide +kernel
theorem pa_180_1017 : pz_at 180 1017 = some (1017, .iinc 3 6, 3, 0, 0, 0) := by decide +kernel
theorem pa_180_1020 : pz_at 180 1020 = some (1020, .goto (-1002), 3, 18, 0, 0) := by decide +kernel
theorem pa_180_1023 : pz_at 180 1023 = some (1023, .iconst 1, 1, 0, 0, 0) := by decide +kernel
theorem pa_180_1024 : pz_at 180 1024 = some (1024, .ireturn, 1, 0, 0, 0) := by decide +kernel
theorem pa_180_148 : pz_at 180 148 = some (148, .aload_n 1, 1, 0, 0, 0) := by decide +kernel
theorem pa_180_149 : pz_at 180 149 = some (149, .aload_n 0, 1, 0, 0, 0) := by decide +kernel
theorem pa_180_150 : pz_at 180 150 = some (150, .iload_n 3, 1, 0, 0, 0) := by decide +kernel
theorem pa_180_151 : pz_at 180 151 = some (151, .iconst 1, 1, 0, 0, 0) := by decide +kernel
theorem pa_180_152 : pz_at 180 152 = some (152, .iadd, 1, 0, 0, 0) := by decide +kernel
theorem pa_180_153 : pz_at 180 153 = some (153, .iaload, 1, 0, 0, 0) := by decide +kernel
theorem pa_180_154 : pz_at 180 154 = some (154, .invokevirtual 13, 3, 82, 1, 446) := by decide +kernel
theorem pa_180_157 : pz_at 180 157 = some (157, .aload_n 2, 1, 0, 0, 0) := by decide +kernel
theorem pa_180_158 : pz_at 180 158 = some (158, .aload_n 0, 1, 0, 0, 0) := by decide +kernel
theorem pa_180_159 : pz_at 180 159 = some (159, .iload_n 3, 1, 0, 0, 0) := by decide +kernel
theorem pa_180_16 : pz_at 180 16 = some (16, .iconst 0, 1, 0, 0, 0) := by decide +kernel
theorem pa_180_160 : pz_at 180 160 = some (160, .iconst 1, 1, 0, 0, 0) := by decide +kernel
theorem pa_180_161 : pz_at 180 161 = some (161, .iadd, 1, 0, 0, 0) := by decide +kernel
theorem pa_180_162 : pz_at 180 162 = some (162, .iaload, 1, 0, 0, 0) := by decide +kernel
theorem pa_180_163 : pz_at 180 163 = some (163, .invokevirtual 17, 3, 110, 1, 1125) := by decide +kernel
theorem pa_180_166 : pz_at 180 166 = some (166, .if_icmp .eq 851, 3, 1017, 0, 0) := by decide +kernel
theorem pa_180_169 : pz_at 180 169 = some (169, .iconst 0, 1, 0, 0, 0) := by decide +kernel
theorem pa_180_17 : pz_at 180 17 = some (17, .istore_n 3, 1, 0, 0, 0) := by decide +kernel
theorem pa_180_170 : pz_at 180 170 = some (170, .ireturn, 1, 0, 0, 0) := by decide +kernel
theorem pa_180_171 : pz_at 180 171 = some (171, .aload_n 1, 1, 0, 0, 0) := by decide +kernel
theorem pa_180_172 : pz_at 180 172 = some (172, .aload_n 0, 1, 0, 0, 0) := by decide +kernel
theorem pa_180_173 : pz_at 180 173 = some (173, .iload_n 3, 1, 0, 0, 0) := by decide +kernel
theorem pa_180_174 : pz_at 180 174 = some (174, .iconst 1, 1, 0, 0, 0) := by decide +kernel
theorem pa_180_175 : pz_at 180 175 = some (175, .iadd, 1, 0, 0, 0) := by decide +kernel
theorem pa_180_176 : pz_at 180 176 = some (176, .iaload, 1, 0, 0, 0) := by decide +kernel
theorem pa_180_177 : pz_at 180 177 = some (177, .aload_n 0, 1, 0, 0, 0) := by decide +kernel
theorem pa_180_178 : pz_at 180 178 = some (178, .iload_n 3, 1, 0, 0, 0) := by decide +kernel
theorem pa_180_179 : pz_at 180 179 = some (179, .iconst 2, 1, 0, 0, 0) := by decide +kernel
theorem pa_180_18 : pz_at 180 18 = some (18, .iload_n 3, 1, 0, 0, 0) := by decide +kernel
theorem pa_180_180 : pz_at 180 180 = some (180, .iadd, 1, 0, 0, 0) := by decide +kernel
theorem pa_180_181 : pz_at 180 181 = some (181, .iaload, 1, 0, 0, 0) := by decide +kernel
theorem pa_180_182 : pz_at 180 182 = some (182, .ifCond .eq 7, 3, 189, 0, 0) := by decide +kernel
theorem pa_180_185 : pz_at 180 185 = some (185, .iconst 1, 1, 0, 0, 0) := by decide +kernel
theorem pa_180_186 : pz_at 180 186 = some (186, .goto 4, 3, 190, 0, 0) := by decide +kernel
theorem pa_180_189 : pz_at 180 189 = some (189, .iconst 0, 1, 0, 0, 0) := by decide +kernel
theorem pa_180_19 : pz_at 180 19 = some (19, .aload_n 0, 1, 0, 0, 0) := by decide +kernel
theorem pa_180_190 : pz_at 180 190 = some (190, .invokevirtual 18, 3, 83, 2, 458) := by decide +kernel
theorem pa_180_193 : pz_at 180 193 = some (193, .aload_n 2, 1, 0, 0, 0) := by decide +kernel
theorem pa_180_194 : pz_at 180 194 = some (194, .aload_n 0, 1, 0, 0, 0) := by decide +kernel
theorem pa_180_195 : pz_at 180 195 = some (195, .iload_n 3, 1, 0, 0, 0) := by decide +kernel
theorem pa_180_196 : pz_at 180 196 = some (196, .iconst 1, 1, 0, 0, 0) := by decide +kernel
theorem pa_180_197 : pz_at 180 197 = some (197, .iadd, 1, 0, 0, 0) := by decide +kernel
theorem pa_180_198 : pz_at 180 198 = some (198, .iaload, 1, 0, 0, 0) := by decide +kernel
theorem pa_180_199 : pz_at 180 199 = some (199, .aload_n 0, 1, 0, 0, 0) := by decide +kernel
theorem pa_180_20 : pz_at 180 20 = some (20, .arraylength, 1, 0, 0, 0) := by decide +kernel
theorem pa_180_200 : pz_at 180 200 = some (200, .iload_n 3, 1, 0, 0, 0) := by decide +kernel
theorem pa_180_201 : pz_at 180 201 = some (201, .iconst 2, 1, 0, 0, 0) := by decide +kernel
theorem pa_180_202 : pz_at 180 202 = some (202, .iadd, 1, 0, 0, 0) := by decide +kernel
theorem pa_180_203 : pz_at 180 203 = some (203, .iaload, 1, 0, 0, 0) := by decide +kernel
theorem pa_180_204 : pz_at 180 204 = some (204, .ifCond .eq 7, 3, 211, 0, 0) := by decide +kernel
theorem pa_180_207 : pz_at 180 207 = some (207, .iconst 1, 1, 0, 0, 0) := by decide +kernel
theorem pa_180_208 : pz_at 180 208 = some (208, .goto 4, 3, 212, 0, 0) := by decide +kernel
theorem pa_180_21 : pz_at 180 21 = some (21, .bipush 6, 2, 0, 0, 0) := by decide +kernel
theorem pa_180_211 : pz_at 180 211 = some (211, .iconst 0, 1, 0, 0, 0) := by decide +kernel
theorem pa_180_212 : pz_at 180 212 = some (212, .invokevirtual 22, 3, 112, 2, 1132) := by decide +kernel
theorem pa_180_215 : pz_at 180 215 = some (215, .if_icmp .eq 802, 3, 1017, 0, 0) := by decide +kernel
theorem pa_180_218 : pz_at 180 218 = some (218, .iconst 0, 1, 0, 0, 0) := by decide +kernel
theorem pa_180_219 : pz_at 180 219 = some (219, .ireturn, 1, 0, 0, 0) := by decide +kernel
theorem pa_180_220 : pz_at 180 220 = some (220, .aload_n 1, 1, 0, 0, 0) := by decide +kernel
theorem pa_180_221 : pz_at 180 221 = some (221, .aload_n 0, 1, 0, 0, 0) := by decide +kernel
theorem pa_180_222 : pz_at 180 222 = some (222, .iload_n 3, 1, 0, 0, 0) := by decide +kernel
theorem pa_180_223 : pz_at 180 223 = some (223, .iconst 1, 1, 0, 0, 0) := by decide +kernel
theorem pa_180_224 : pz_at 180 224 = some (224, .iadd, 1, 0, 0, 0) := by decide +kernel
theorem pa_180_225 : pz_at 180 225 = some (225, .iaload, 1, 0, 0, 0) := by decide +kernel
theorem pa_180_226 : pz_at 180 226 = some (226, .ifCond .eq 7, 3, 233, 0, 0) := by decide +kernel
theorem pa_180_229 : pz_at 180 229 = some (229, .iconst 1, 1, 0, 0, 0) := by decide +kernel
theorem pa_180_23 : pz_at 180 23 = some (23, .isub, 1, 0, 0, 0) := by decide +kernel
theorem pa_180_230 : pz_at 180 230 = some (230, .goto 4, 3, 234, 0, 0) := by decide +kernel
theorem pa_180_233 : pz_at 180 233 = some (233, .iconst 0, 1, 0, 0, 0) := by decide +kernel
theorem pa_180_234 : pz_at 180 234 = some (234, .invokevirtual 23, 3, 84, 1, 483) := by decide +kernel
theorem pa_180_237 : pz_at 180 237 = some (237, .aload_n 2, 1, 0, 0, 0) := by decide +kernel
theorem pa_180_238 : pz_at 180 238 = some (238, .aload_n 0, 1, 0, 0, 0) := by decide +kernel
theorem pa_180_239 : pz_at 180 239 = some (239, .iload_n 3, 1, 0, 0, 0) := by decide +kernel
theorem pa_180_24 : pz_at 180 24 = some (24, .if_icmp .gt 999, 3, 1023, 0, 0) := by decide +kernel
theorem pa_180_240 : pz_at 180 240 = some (240, .iconst 1, 1, 0, 0, 0) := by decide +kernel
theorem pa_180_241 : pz_at 180 241 = some (241, .iadd, 1, 0, 0, 0) := by decide +kernel
theorem pa_180_242 : pz_at 180 242 = some (242, .iaload, 1, 0, 0, 0) := by decide +kernel
theorem pa_180_243 : pz_at 180 243 = some (243, .ifCond .eq 7, 3, 250, 0, 0) := by decide +kernel
theorem pa_180_246 : pz_at 180 246 = some (246, .iconst 1, 1, 0, 0, 0) := by decide +kernel
theorem pa_180_247 : pz_at 180 247 = some (247, .goto 4, 3, 251, 0, 0) := by decide +kernel
theorem pa_180_250 : pz_at 180 250 = some (250, .iconst 0, 1, 0, 0, 0) := by decide +kernel
theorem pa_180_251 : pz_at 180 251 = some (251, .invokevirtual 27, 3, 113, 1, 1140) := by decide +kernel
theorem pa_180_254 : pz_at 180 254 = some (254, .if_icmp .eq 763, 3, 1017, 0, 0) := by decide +kernel
theorem pa_180_257 : pz_at 180 257 = some (257, .iconst 0, 1, 0, 0, 0) := by decide +kernel
theorem pa_180_258 : pz_at 180 258 = some (258, .ireturn, 1, 0, 0, 0) := by decide +kernel
theorem pa_180_259 : pz_at 180 259 = some (259, .aload_n 1, 1, 0, 0, 0) := by decide +kernel
theorem pa_180_260 : pz_at 180 260 = some (260, .aload_n 0, 1, 0, 0, 0) := by decide +kernel
theorem pa_180_261 : pz_at 180 261 = some (261, .iload_n 3, 1, 0, 0, 0) := by decide +kernel
theorem pa_180_262 : pz_at 180 262 = some (262, .iconst 1, 1, 0, 0, 0) := by decide +kernel
theorem pa_180_263 : pz_at 180 263 = some (263, .iadd, 1, 0, 0, 0) := by decide +kernel
theorem pa_180_264 : pz_at 180 264 = some (264, .iaload, 1, 0, 0, 0) := by decide +kernel
theorem pa_180_265 : pz_at 180 265 = some (265, .aload_n 0, 1, 0, 0, 0) := by decide +kernel
theorem pa_180_266 : pz_at 180 266 = some (266, .iload_n 3, 1, 0, 0, 0) := by decide +kernel
theorem pa_180_267 : pz_at 180 267 = some (267, .iconst 2, 1, 0, 0, 0) := by decide +kernel
theorem pa_180_268 : pz_at 180 268 = some (268, .iadd, 1, 0, 0, 0) := by decide +kernel
theorem pa_180_269 : pz_at 180 269 = some (269, .iaload, 1, 0, 0, 0) := by decide +kernel
theorem pa_180_27 : pz_at 180 27 = some (27, .aload_n 0, 1, 0, 0, 0) := by decide +kernel
theorem pa_180_270 : pz_at 180 270 = some (270, .aload_n 0, 1, 0, 0, 0) := by decide +kernel
theorem pa_180_271 : pz_at 180 271 = some (271, .iload_n 3, 1, 0, 0, 0) := by decide +kernel
theorem pa_180_272 : pz_at 180 272 = some (272, .iconst 3, 1, 0, 0, 0) := by decide +kernel
theorem pa_180_273 : pz_at 180 273 = some (273, .iadd, 1, 0, 0, 0) := by decide +kernel
theorem pa_180_274 : pz_at 180 274 = some (274, .iaload, 1, 0, 0, 0) := by decide +kernel
theorem pa_180_275 : pz_at 180 275 = some (275, .invokevirtual 28, 3, 85, 3, 491) := by decide +kernel
theorem pa_180_278 : pz_at 180 278 = some (278, .aload_n 2, 1, 0, 0, 0) := by decide +kernel
theorem pa_180_279 : pz_at 180 279 = some (279, .aload_n 0, 1, 0, 0, 0) := by decide +kernel
theorem pa_180_28 : pz_at 180 28 = some (28, .iload_n 3, 1, 0, 0, 0) := by decide +kernel
theorem pa_180_280 : pz_at 180 280 = some (280, .iload_n 3, 1, 0, 0, 0) := by decide +kernel
theorem pa_180_281 : pz_at 180 281 = some (281, .iconst 1, 1, 0, 0, 0) := by decide +kernel
theorem pa_180_282 : pz_at 180 282 = some (282, .iadd, 1, 0, 0, 0) := by decide +kernel
theorem pa_180_283 : pz_at 180 283 = some (283, .iaload, 1, 0, 0, 0) := by decide +kernel
theorem pa_180_284 : pz_at 180 284 = some (284, .aload_n 0, 1, 0, 0, 0) := by decide +kernel
theorem pa_180_285 : pz_at 180 285 = some (285, .iload_n 3, 1, 0, 0, 0) := by decide +kernel
theorem pa_180_286 : pz_at 180 286 = some (286, .iconst 2, 1, 0, 0, 0) := by decide +kernel
theorem pa_180_287 : pz_at 180 287 = some (287, .iadd, 1, 0, 0, 0) := by decide +kernel
theorem pa_180_288 : pz_at 180 288 = some (288, .iaload, 1, 0, 0, 0) := by decide +kernel
theorem pa_180_289 : pz_at 180 289 = some (289, .aload_n 0, 1, 0, 0, 0) := by decide +kernel
theorem pa_180_29 : pz_at 180 29 = some (29, .iaload, 1, 0, 0, 0) := by decide +kernel
theorem pa_180_290 : pz_at 180 290 = some (290, .iload_n 3, 1, 0, 0, 0) := by decide +kernel
theorem pa_180_291 : pz_at 180 291 = some (291, .iconst 3, 1, 0, 0, 0) := by decide +kernel
theorem pa_180_292 : pz_at 180 292 = some (292, .iadd, 1, 0, 0, 0) := by decide +kernel
theorem pa_180_293 : pz_at 180 293 = some (293, .iaload, 1, 0, 0, 0) := by decide +kernel
theorem pa_180_294 : pz_at 180 294 = some (294, .invokevirtual 32, 3, 114, 3, 1144) := by decide +kernel
theorem pa_180_297 : pz_at 180 297 = some (297, .if_icmp .eq 720, 3, 1017, 0, 0) := by decide +kernel
theorem pa_180_30 : pz_at 180 30 = some (30, .bipush 31, 2, 0, 0, 0) := by decide +kernel
theorem pa_180_300 : pz_at 180 300 = some (300, .iconst 0, 1, 0, 0, 0) := by decide +kernel
theorem pa_180_301 : pz_at 180 301 = some (301, .ireturn, 1, 0, 0, 0) := by decide +kernel
theorem pa_180_302 : pz_at 180 302 = some (302, .aload_n 1, 1, 0, 0, 0) := by decide +kernel
theorem pa_180_303 : pz_at 180 303 = some (303, .aload_n 0, 1, 0, 0, 0) := by decide +kernel
theorem pa_180_304 : pz_at 180 304 = some (304, .iload_n 3, 1, 0, 0, 0) := by decide +kernel
theorem pa_180_305 : pz_at 180 305 = some (305, .iconst 1, 1, 0, 0, 0) := by decide +kernel
theorem pa_180_306 : pz_at 180 306 = some (306, .iadd, 1, 0, 0, 0) := by decide +kernel
theorem pa_180_307 : pz_at 180 307 = some (307, .iaload, 1, 0, 0, 0) := by decide +kernel
theorem pa_180_308 : pz_at 180 308 = some (308, .aload_n 0, 1, 0, 0, 0) := by decide +kernel
theorem pa_180_309 : pz_at 180 309 = some (309, .iload_n 3, 1, 0, 0, 0) := by decide +kernel
theorem pa_180_310 : pz_at 180 310 = some (310, .iconst 2, 1, 0, 0, 0) := by decide +kernel
theorem pa_180_311 : pz_at 180 311 = some (311, .iadd, 1, 0, 0, 0) := by decide +kernel
theorem pa_180_312 : pz_at 180 312 = some (312, .iaload, 1, 0, 0, 0) := by decide +kernel
theorem pa_180_313 : pz_at 180 313 = some (313, .aload_n 0, 1, 0, 0, 0) := by decide +kernel
theorem pa_180_314 : pz_at 180 314 = some (314, .iload_n 3, 1, 0, 0, 0) := by decide +kernel
theorem pa_180_315 : pz_at 180 315 = some (315, .iconst 3, 1, 0, 0, 0) := by decide +kernel
theorem pa_180_316 : pz_at 180 316 = some (316, .iadd, 1, 0, 0, 0) := by decide +kernel
theorem pa_180_317 : pz_at 180 317 = some (317, .iaload, 1, 0, 0, 0) := by decide +kernel
theorem pa_180_318 : pz_at 180 318 = some (318, .aload_n 0, 1, 0, 0, 0) := by decide +kernel
theorem pa_180_319 : pz_at 180 319 = some (319, .iload_n 3, 1, 0, 0, 0) := by decide +kernel
theorem pa_180_32 : pz_at 180 32 = some (32, .iand, 1, 0, 0, 0) := by decide +kernel
theorem pa_180_320 : pz_at 180 320 = some (320, .iconst 4, 1, 0, 0, 0) := by decide +kernel
theorem pa_180_321 : pz_at 180 321 = some (321, .iadd, 1, 0, 0, 0) := by decide +kernel
theorem pa_180_322 : pz_at 180 322 = some (322, .iaload, 1, 0, 0, 0) := by decide +kernel
theorem pa_180_323 : pz_at 180 323 = some (323, .aload_n 0, 1, 0, 0, 0) := by decide +kernel
theorem pa_180_324 : pz_at 180 324 = some (324, .iload_n 3, 1, 0, 0, 0) := by decide +kernel
theorem pa_180_325 : pz_at 180 325 = some (325, .iconst 5, 1, 0, 0, 0) := by decide +kernel
theorem pa_180_326 : pz_at 180 326 = some (326, .iadd, 1, 0, 0, 0) := by decide +kernel
theorem pa_180_327 : pz_at 180 327 = some (327, .iaload, 1, 0, 0, 0) := by decide +kernel
theorem pa_180_328 : pz_at 180 328 = some (328, .invokevirtual 33, 3, 86, 5, 499) := by decide +kernel
theorem pa_180_33 : pz_at 180 33 = some (33, .tableswitch 984 0 24 #[115, 138, 187, 226, 269, 332, 395, 418, 441, 484, 517, 550, 573, 596, 665, 678, 711, 770, 813, 846, 869, 892, 905, 938, 961], 115, 0, 0, 0) := by decide +kernel
theorem pa_180_331 : pz_at 180 331 = some (331, .aload_n 2, 1, 0, 0, 0) := by decide +kernel
theorem pa_180_332 : pz_at 180 332 = some (332, .aload_n 0, 1, 0, 0, 0) := by decide +kernel
theorem pa_180_333 : pz_at 180 333 = some (333, .iload_n 3, 1, 0, 0, 0) := by decide +kernel
theorem pa_180_334 : pz_at 180 334 = some (334, .iconst 1, 1, 0, 0, 0) := by decide +kernel
theorem pa_180_335 : pz_at 180 335 = some (335, .iadd, 1, 0, 0, 0) := by decide +kernel
theorem pa_180_336 : pz_at 180 336 = some (336, .iaload, 1, 0, 0, 0) := by decide +kernel
theorem pa_180_337 : pz_at 180 337 = some (337, .aload_n 0, 1, 0, 0, 0) := by decide +kernel
theorem pa_180_338 : pz_at 180 338 = some (338, .iload_n 3, 1, 0, 0, 0) := by decide +kernel
theorem pa_180_339 : pz_at 180 339 = some (339, .iconst 2, 1, 0, 0, 0) := by decide +kernel
theorem pa_180_340 : pz_at 180 340 = some (340, .iadd, 1, 0, 0, 0) := by decide +kernel
theorem pa_180_341 : pz_at 180 341 = some (341, .iaload, 1, 0, 0, 0) := by decide +kernel
theorem pa_180_342 : pz_at 180 342 = some (342, .aload_n 0, 1, 0, 0, 0) := by decide +kernel
theorem pa_180_343 : pz_at 180 343 = some (343, .iload_n 3, 1, 0, 0, 0) := by decide +kernel
theorem pa_180_344 : pz_at 180 344 = some (344, .iconst 3, 1, 0, 0, 0) := by decide +kernel
theorem pa_180_345 : pz_at 180 345 = some (345, .iadd, 1, 0, 0, 0) := by decide +kernel
theorem pa_180_346 : pz_at 180 346 = some (346, .iaload, 1, 0, 0, 0) := by decide +kernel
theorem pa_180_347 : pz_at 180 347 = some (347, .aload_n 0, 1, 0, 0, 0) := by decide +kernel
theorem pa_180_348 : pz_at 180 348 = some (348, .iload_n 3, 1, 0, 0, 0) := by decide +kernel
theorem pa_180_349 : pz_at 180 349 = some (349, .iconst 4, 1, 0, 0, 0) := by decide +kernel
theorem pa_180_350 : pz_at 180 350 = some (350, .iadd, 1, 0, 0, 0) := by decide +kernel
theorem pa_180_351 : pz_at 180 351 = some (351, .iaload, 1, 0, 0, 0) := by decide +kernel
theorem pa_180_352 : pz_at 180 352 = some (352, .aload_n 0, 1, 0, 0, 0) := by decide +kernel
theorem pa_180_353 : pz_at 180 353 = some (353, .iload_n 3, 1, 0, 0, 0) := by decide +kernel
theorem pa_180_354 : pz_at 180 354 = some (354, .iconst 5, 1, 0, 0, 0) := by decide +kernel
theorem pa_180_355 : pz_at 180 355 = some (355, .iadd, 1, 0, 0, 0) := by decide +kernel
theorem pa_180_356 : pz_at 180 356 = some (356, .iaload, 1, 0, 0, 0) := by decide +kernel
theorem pa_180_357 : pz_at 180 357 = some (357, .invokevirtual 37, 3, 119, 5, 1150) := by decide +kernel
theorem pa_180_360 : pz_at 180 360 = some (360, .if_icmp .eq 657, 3, 1017, 0, 0) := by decide +kernel
theorem pa_180_363 : pz_at 180 363 = some (363, .iconst 0, 1, 0, 0, 0) := by decide +kernel
theorem pa_180_364 : pz_at 180 364 = some (364, .ireturn, 1, 0, 0, 0) := by decide +kernel
theorem pa_180_365 : pz_at 180 365 = some (365, .aload_n 1, 1, 0, 0, 0) := by decide +kernel
theorem pa_180_366 : pz_at 180 366 = some (366, .aload_n 0, 1, 0, 0, 0) := by decide +kernel
theorem pa_180_367 : pz_at 180 367 = some (367, .iload_n 3, 1, 0, 0, 0) := by decide +kernel
theorem pa_180_368 : pz_at 180 368 = some (368, .iconst 1, 1, 0, 0, 0) := by decide +kernel
theorem pa_180_369 : pz_at 180 369 = some (369, .iadd, 1, 0, 0, 0) := by decide +kernel
theorem pa_180_370 : pz_at 180 370 = some (370, .iaload, 1, 0, 0, 0) := by decide +kernel
theorem pa_180_371 : pz_at 180 371 = some (371, .aload_n 0, 1, 0, 0, 0) := by decide +kernel
theorem pa_180_372 : pz_at 180 372 = some (372, .iload_n 3, 1, 0, 0, 0) := by decide +kernel
theorem pa_180_373 : pz_at 180 373 = some (373, .iconst 2, 1, 0, 0, 0) := by decide +kernel
theorem pa_180_374 : pz_at 180 374 = some (374, .iadd, 1, 0, 0, 0) := by decide +kernel
theorem pa_180_375 : pz_at 180 375 = some (375, .iaload, 1, 0, 0, 0) := by decide +kernel
theorem pa_180_376 : pz_at 180 376 = some (376, .aload_n 0, 1, 0, 0, 0) := by decide +kernel
theorem pa_180_377 : pz_at 180 377 = some (377, .iload_n 3, 1, 0, 0, 0) := by decide +kernel
theorem pa_180_378 : pz_at 180 378 = some (378, .iconst 3, 1, 0, 0, 0) := by decide +kernel
theorem pa_180_379 : pz_at 180 379 = some (379, .iadd, 1, 0, 0, 0) := by decide +kernel
theorem pa_180_380 : pz_at 180 380 = some (380, .iaload, 1, 0, 0, 0) := by decide +kernel
theorem pa_180_381 : pz_at 180 381 = some (381, .aload_n 0, 1, 0, 0, 0) := by decide +kernel
theorem pa_180_382 : pz_at 180 382 = some (382, .iload_n 3, 1, 0, 0, 0) := by decide +kernel
theorem pa_180_383 : pz_at 180 383 = some (383, .iconst 4, 1, 0, 0, 0) := by decide +kernel
theorem pa_180_384 : pz_at 180 384 = some (384, .iadd, 1, 0, 0, 0) := by decide +kernel
theorem pa_180_385 : pz_at 180 385 = some (385, .iaload, 1, 0, 0, 0) := by decide +kernel
theorem pa_180_386 : pz_at 180 386 = some (386, .aload_n 0, 1, 0, 0, 0) := by decide +kernel
theorem pa_180_387 : pz_at 180 387 = some (387, .iload_n 3, 1, 0, 0, 0) := by decide +kernel
theorem pa_180_388 : pz_at 180 388 = some (388, .iconst 5, 1, 0, 0, 0) := by decide +kernel
theorem pa_180_389 : pz_at 180 389 = some (389, .iadd, 1, 0, 0, 0) := by decide +kernel
theorem pa_180_390 : pz_at 180 390 = some (390, .iaload, 1, 0, 0, 0) := by decide +kernel
theorem pa_180_391 : pz_at 180 391 = some (391, .invokevirtual 38, 3, 87, 5, 535) := by decide +kernel
theorem pa_180_394 : pz_at 180 394 = some (394, .aload_n 2, 1, 0, 0, 0) := by decide +kernel
theorem pa_180_395 : pz_at 180 395 = some (395, .aload_n 0, 1, 0, 0, 0) := by decide +kernel
theorem pa_180_396 : pz_at 180 396 = some (396, .iload_n 3, 1, 0, 0, 0) := by decide +kernel
theorem pa_180_397 : pz_at 180 397 = some (397, .iconst 1, 1, 0, 0, 0) := by decide +kernel
theorem pa_180_398 : pz_at 180 398 = some (398, .iadd, 1, 0, 0, 0) := by decide +kernel
theorem pa_180_399 : pz_at 180 399 = some (399, .iaload, 1, 0, 0, 0) := by decide +kernel
theorem pa_180_400 : pz_at 180 400 = some (400, .aload_n 0, 1, 0, 0, 0) := by decide +kernel
theorem pa_180_401 : pz_at 180 401 = some (401, .iload_n 3, 1, 0, 0, 0) := by decide +kernel
theorem pa_180_402 : pz_at 180 402 = some (402, .iconst 2, 1, 0, 0, 0) := by decide +kernel
theorem pa_180_403 : pz_at 180 403 = some (403, .iadd, 1, 0, 0, 0) := by decide +kernel
theorem pa_180_404 : pz_at 180 404 = some (404, .iaload, 1, 0, 0, 0) := by decide +kernel
theorem pa_180_405 : pz_at 180 405 = some (405, .aload_n 0, 1, 0, 0, 0) := by decide +kernel
theorem pa_180_406 : pz_at 180 406 = some (406, .iload_n 3, 1, 0, 0, 0) := by decide +kernel
theorem pa_180_407 : pz_at 180 407 = some (407, .iconst 3, 1, 0, 0, 0) := by decide +kernel
theorem pa_180_408 : pz_at 180 408 = some (408, .iadd, 1, 0, 0, 0) := by decide +kernel
theorem pa_180_409 : pz_at 180 409 = some (409, .iaload, 1, 0, 0, 0) := by decide +kernel
theorem pa_180_410 : pz_at 180 410 = some (410, .aload_n 0, 1, 0, 0, 0) := by decide +kernel
theorem pa_180_411 : pz_at 180 411 = some (411, .iload_n 3, 1, 0, 0, 0) := by decide +kernel
theorem pa_180_412 : pz_at 180 412 = some (412, .iconst 4, 1, 0, 0, 0) := by decide +kernel
theorem pa_180_413 : pz_at 180 413 = some (413, .iadd, 1, 0, 0, 0) := by decide +kernel
theorem pa_180_414 : pz_at 180 414 = some (414, .iaload, 1, 0, 0, 0) := by decide +kernel
theorem pa_180_415 : pz_at 180 415 = some (415, .aload_n 0, 1, 0, 0, 0) := by decide +kernel
theorem pa_180_416 : pz_at 180 416 = some (416, .iload_n 3, 1, 0, 0, 0) := by decide +kernel
theorem pa_180_417 : pz_at 180 417 = some (417, .iconst 5, 1, 0, 0, 0) := by decide +kernel
theorem pa_180_418 : pz_at 180 418 = some (418, .iadd, 1, 0, 0, 0) := by decide +kernel
theorem pa_180_419 : pz_at 180 419 = some (419, .iaload, 1, 0, 0, 0) := by decide +kernel
theorem pa_180_420 : pz_at 180 420 = some (420, .invokevirtual 41, 3, 120, 5, 1172) := by decide +kernel
theorem pa_180_423 : pz_at 180 423 = some (423, .if_icmp .eq 594, 3, 1017, 0, 0) := by decide +kernel
theorem pa_180_426 : pz_at 180 426 = some (426, .iconst 0, 1, 0, 0, 0) := by decide +kernel
theorem pa_180_427 : pz_at 180 427 = some (427, .ireturn, 1, 0, 0, 0) := by decide +kernel
theorem pa_180_428 : pz_at 180 428 = some (428, .aload_n 1, 1, 0, 0, 0) := by decide +kernel
theorem pa_180_429 : pz_at 180 429 = some (429, .aload_n 0, 1, 0, 0, 0) := by decide +kernel
theorem pa_180_430 : pz_at 180 430 = some (430, .iload_n 3, 1, 0, 0, 0) := by decide +kernel
theorem pa_180_431 : pz_at 180 431 = some (431, .iconst 1, 1, 0, 0, 0) := by decide +kernel
theorem pa_180_432 : pz_at 180 432 = some (432, .iadd, 1, 0, 0, 0) := by decide +kernel
theorem pa_180_433 : pz_at 180 433 = some (433, .iaload, 1, 0, 0, 0) := by decide +kernel
theorem pa_180_434 : pz_at 180 434 = some (434, .invokevirtual 42, 3, 88, 1, 543) := by decide +kernel
theorem pa_180_437 : pz_at 180 437 = some (437, .aload_n 2, 1, 0, 0, 0) := by decide +kernel
theorem pa_180_438 : pz_at 180 438 = some (438, .aload_n 0, 1, 0, 0, 0) := by decide +kernel
theorem pa_180_439 : pz_at 180 439 = some (439, .iload_n 3, 1, 0, 0, 0) := by decide +kernel
theorem pa_180_440 : pz_at 180 440 = some (440, .iconst 1, 1, 0, 0, 0) := by decide +kernel
theorem pa_180_441 : pz_at 180 441 = some (441, .iadd, 1, 0, 0, 0) := by decide +kernel
theorem pa_180_442 : pz_at 180 442 = some (442, .iaload, 1, 0, 0, 0) := by decide +kernel
theorem pa_180_443 : pz_at 180 443 = some (443, .invokevirtual 45, 3, 123, 1, 1177) := by decide +kernel
theorem pa_180_446 : pz_at 180 446 = some (446, .if_icmp .eq 571, 3, 1017, 0, 0) := by decide +kernel
theorem pa_180_449 : pz_at 180 449 = some (449, .iconst 0, 1, 0, 0, 0) := by decide +kernel
theorem pa_180_450 : pz_at 180 450 = some (450, .ireturn, 1, 0, 0, 0) := by decide +kernel
theorem pa_180_451 : pz_at 180 451 = some (451, .aload_n 1, 1, 0, 0, 0) := by decide +kernel
theorem pa_180_452 : pz_at 180 452 = some (452, .aload_n 0, 1, 0, 0, 0) := by decide +kernel
theorem pa_180_453 : pz_at 180 453 = some (453, .iload_n 3, 1, 0, 0, 0) := by decide +kernel
theorem pa_180_454 : pz_at 180 454 = some (454, .iconst 1, 1, 0, 0, 0) := by decide +kernel
theorem pa_180_455 : pz_at 180 455 = some (455, .iadd, 1, 0, 0, 0) := by decide +kernel
theorem pa_180_456 : pz_at 180 456 = some (456, .iaload, 1, 0, 0, 0) := by decide +kernel
theorem pa_180_457 : pz_at 180 457 = some (457, .invokevirtual 46, 3, 89, 1, 551) := by decide +kernel
theorem pa_180_460 : pz_at 180 460 = some (460, .aload_n 2, 1, 0, 0, 0) := by decide +kernel
theorem pa_180_461 : pz_at 180 461 = some (461, .aload_n 0, 1, 0, 0, 0) := by decide +kernel
theorem pa_180_462 : pz_at 180 462 = some (462, .iload_n 3, 1, 0, 0, 0) := by decide +kernel
theorem pa_180_463 : pz_at 180 463 = some (463, .iconst 1, 1, 0, 0, 0) := by decide +kernel
theorem pa_180_464 : pz_at 180 464 = some (464, .iadd, 1, 0, 0, 0) := by decide +kernel
theorem pa_180_465 : pz_at 180 465 = some (465, .iaload, 1, 0, 0, 0) := by decide +kernel
theorem pa_180_466 : pz_at 180 466 = some (466, .invokevirtual 49, 3, 124, 1, 1185) := by decide +kernel
theorem pa_180_469 : pz_at 180 469 = some (469, .if_icmp .eq 548, 3, 1017, 0, 0) := by decide +kernel
theorem pa_180_472 : pz_at 180 472 = some (472, .iconst 0, 1, 0, 0, 0) := by decide +kernel
theorem pa_180_473 : pz_at 180 473 = some (473, .ireturn, 1, 0, 0, 0) := by decide +kernel
theorem pa_180_474 : pz_at 180 474 = some (474, .aload_n 1, 1, 0, 0, 0) := by decide +kernel
theorem pa_180_475 : pz_at 180 475 = some (475, .aload_n 0, 1, 0, 0, 0) := by decide +kernel
theorem pa_180_476 : pz_at 180 476 = some (476, .iload_n 3, 1, 0, 0, 0) := by decide +kernel
theorem pa_180_477 : pz_at 180 477 = some (477, .iconst 1, 1, 0, 0, 0) := by decide +kernel
theorem pa_180_478 : pz_at 180 478 = some (478, .iadd, 1, 0, 0, 0) := by decide +kernel
theorem pa_180_479 : pz_at 180 479 = some (479, .iaload, 1, 0, 0, 0) := by decide +kernel
theorem pa_180_480 : pz_at 180 480 = some (480, .aload_n 0, 1, 0, 0, 0) := by decide +kernel
theorem pa_180_481 : pz_at 180 481 = some (481, .iload_n 3, 1, 0, 0, 0) := by decide +kernel
theorem pa_180_482 : pz_at 180 482 = some (482, .iconst 2, 1, 0, 0, 0) := by decide +kernel
theorem pa_180_483 : pz_at 180 483 = some (483, .iadd, 1, 0, 0, 0) := by decide +kernel
theorem pa_180_484 : pz_at 180 484 = some (484, .iaload, 1, 0, 0, 0) := by decide +kernel
theorem pa_180_485 : pz_at 180 485 = some (485, .aload_n 0, 1, 0, 0, 0) := by decide +kernel
theorem pa_180_486 : pz_at 180 486 = some (486, .iload_n 3, 1, 0, 0, 0) := by decide +kernel
theorem pa_180_487 : pz_at 180 487 = some (487, .iconst 3, 1, 0, 0, 0) := by decide +kernel
theorem pa_180_488 : pz_at 180 488 = some (488, .iadd, 1, 0, 0, 0) := by decide +kernel
theorem pa_180_489 : pz_at 180 489 = some (489, .iaload, 1, 0, 0, 0) := by decide +kernel
theorem pa_180_490 : pz_at 180 490 = some (490, .invokevirtual 50, 3, 90, 3, 555) := by decide +kernel
theorem pa_180_493 : pz_at 180 493 = some (493, .aload_n 2, 1, 0, 0, 0) := by decide +kernel
theorem pa_180_494 : pz_at 180 494 = some (494, .aload_n 0, 1, 0, 0, 0) := by decide +kernel
theorem pa_180_495 : pz_at 180 495 = some (495, .iload_n 3, 1, 0, 0, 0) := by decide +kernel
theorem pa_180_496 : pz_at 180 496 = some (496, .iconst 1, 1, 0, 0, 0) := by decide +kernel
theorem pa_180_497 : pz_at 180 497 = some (497, .iadd, 1, 0, 0, 0) := by decide +kernel
theorem pa_180_498 : pz_at 180 498 = some (498, .iaload, 1, 0, 0, 0) := by decide +kernel
theorem pa_180_499 : pz_at 180 499 = some (499, .aload_n 0, 1, 0, 0, 0) := by decide +kernel
theorem pa_180_500 : pz_at 180 500 = some (500, .iload_n 3, 1, 0, 0, 0) := by decide +kernel
theorem pa_180_501 : pz_at 180 501 = some (501, .iconst 2, 1, 0, 0, 0) := by decide +kernel
theorem pa_180_502 : pz_at 180 502 = some (502, .iadd, 1, 0, 0, 0) := by decide +kernel
theorem pa_180_503 : pz_at 180 503 = some (503, .iaload, 1, 0, 0, 0) := by decide +kernel
theorem pa_180_504 : pz_at 180 504 = some (504, .aload_n 0, 1, 0, 0, 0) := by decide +kernel
theorem pa_180_505 : pz_at 180 505 = some (505, .iload_n 3, 1, 0, 0, 0) := by decide +kernel
theorem pa_180_506 : pz_at 180 506 = some (506, .iconst 3, 1, 0, 0, 0) := by decide +kernel
theorem pa_180_507 : pz_at 180 507 = some (507, .iadd, 1, 0, 0, 0) := by decide +kernel
theorem pa_180_508 : pz_at 180 508 = some (508, .iaload, 1, 0, 0, 0) := by decide +kernel
theorem pa_180_509 : pz_at 180 509 = some (509, .invokevirtual 53, 3, 127, 3, 1190) := by decide +kernel
theorem pa_180_512 : pz_at 180 512 = some (512, .if_icmp .eq 505, 3, 1017, 0, 0) := by decide +kernel
theorem pa_180_515 : pz_at 180 515 = some (515, .iconst 0, 1, 0, 0, 0) := by decide +kernel
theorem pa_180_516 : pz_at 180 516 = some (516, .ireturn, 1, 0, 0, 0) := by decide +kernel
theorem pa_180_517 : pz_at 180 517 = some (517, .aload_n 1, 1, 0, 0, 0) := by decide +kernel
theorem pa_180_518 : pz_at 180 518 = some (518, .aload_n 0, 1, 0, 0, 0) := by decide +kernel
theorem pa_180_519 : pz_at 180 519 = some (519, .iload_n 3, 1, 0, 0, 0) := by decide +kernel
theorem pa_180_520 : pz_at 180 520 = some (520, .iconst 1, 1, 0, 0, 0) := by decide +kernel
theorem pa_180_521 : pz_at 180 521 = some (521, .iadd, 1, 0, 0, 0) := by decide +kernel
theorem pa_180_522 : pz_at 180 522 = some (522, .iaload, 1, 0, 0, 0) := by decide +kernel
theorem pa_180_523 : pz_at 180 523 = some (523, .aload_n 0, 1, 0, 0, 0) := by decide +kernel
theorem pa_180_524 : pz_at 180 524 = some (524, .iload_n 3, 1, 0, 0, 0) := by decide +kernel
theorem pa_180_525 : pz_at 180 525 = some (525, .iconst 2, 1, 0, 0, 0) := by decide +kernel
theorem pa_180_526 : pz_at 180 526 = some (526, .iadd, 1, 0, 0, 0) := by decide +kernel
theorem pa_180_527 : pz_at 180 527 = some (527, .iaload, 1, 0, 0, 0) := by decide +kernel
theorem pa_180_528 : pz_at 180 528 = some (528, .invokevirtual 54, 3, 91, 2, 583) := by decide +kernel
theorem pa_180_531 : pz_at 180 531 = some (531, .aload_n 2, 1, 0, 0, 0) := by decide +kernel
theorem pa_180_532 : pz_at 180 532 = some (532, .aload_n 0, 1, 0, 0, 0) := by decide +kernel
theorem pa_180_533 : pz_at 180 533 = some (533, .iload_n 3, 1, 0, 0, 0) := by decide +kernel
theorem pa_180_534 : pz_at 180 534 = some (534, .iconst 1, 1, 0, 0, 0) := by decide +kernel
theorem pa_180_535 : pz_at 180 535 = some (535, .iadd, 1, 0, 0, 0) := by decide +kernel
theorem pa_180_536 : pz_at 180 536 = some (536, .iaload, 1, 0, 0, 0) := by decide +kernel
theorem pa_180_537 : pz_at 180 537 = some (537, .aload_n 0, 1, 0, 0, 0) := by decide +kernel
theorem pa_180_538 : pz_at 180 538 = some (538, .iload_n 3, 1, 0, 0, 0) := by decide +kernel
theorem pa_180_539 : pz_at 180 539 = some (539, .iconst 2, 1, 0, 0, 0) := by decide +kernel
theorem pa_180_540 : pz_at 180 540 = some (540, .iadd, 1, 0, 0, 0) := by decide +kernel
theorem pa_180_541 : pz_at 180 541 = some (541, .iaload, 1, 0, 0, 0) := by decide +kernel
theorem pa_180_542 : pz_at 180 542 = some (542, .invokevirtual 58, 3, 128, 2, 1202) := by decide +kernel
theorem pa_180_545 : pz_at 180 545 = some (545, .if_icmp .eq 472, 3, 1017, 0, 0) := by decide +kernel
theorem pa_180_548 : pz_at 180 548 = some (548, .iconst 0, 1, 0, 0, 0) := by decide +kernel
theorem pa_180_549 : pz_at 180 549 = some (549, .ireturn, 1, 0, 0, 0) := by decide +kernel
theorem pa_180_550 : pz_at 180 550 = some (550, .aload_n 1, 1, 0, 0, 0) := by decide +kernel
theorem pa_180_551 : pz_at 180 551 = some (551, .aload_n 0, 1, 0, 0, 0) := by decide +kernel
theorem pa_180_552 : pz_at 180 552 = some (552, .iload_n 3, 1, 0, 0, 0) := by decide +kernel
theorem pa_180_553 : pz_at 180 553 = some (553, .iconst 1, 1, 0, 0, 0) := by decide +kernel
theorem pa_180_554 : pz_at 180 554 = some (554, .iadd, 1, 0, 0, 0) := by decide +kernel
theorem pa_180_555 : pz_at 180 555 = some (555, .iaload, 1, 0, 0, 0) := by decide +kernel
theorem pa_180_556 : pz_at 180 556 = some (556, .aload_n 0, 1, 0, 0, 0) := by decide +kernel
theorem pa_180_557 : pz_at 180 557 = some (557, .iload_n 3, 1, 0, 0, 0) := by decide +kernel
theorem pa_180_558 : pz_at 180 558 = some (558, .iconst 2, 1, 0, 0, 0) := by decide +kernel
theorem pa_180_559 : pz_at 180 559 = some (559, .iadd, 1, 0, 0, 0) := by decide +kernel
theorem pa_180_560 : pz_at 180 560 = some (560, .iaload, 1, 0, 0, 0) := by decide +kernel
theorem pa_180_561 : pz_at 180 561 = some (561, .invokevirtual 59, 3, 92, 2, 588) := by decide +kernel
theorem pa_180_564 : pz_at 180 564 = some (564, .aload_n 2, 1, 0, 0, 0) := by decide +kernel
theorem pa_180_565 : pz_at 180 565 = some (565, .aload_n 0, 1, 0, 0, 0) := by decide +kernel
theorem pa_180_566 : pz_at 180 566 = some (566, .iload_n 3, 1, 0, 0, 0) := by decide +kernel
theorem pa_180_567 : pz_at 180 567 = some (567, .iconst 1, 1, 0, 0, 0) := by decide +kernel
theorem pa_180_568 : pz_at 180 568 = some (568, .iadd, 1, 0, 0, 0) := by decide +kernel
theorem pa_180_569 : pz_at 180 569 = some (569, .iaload, 1, 0, 0, 0) := by decide +kernel
theorem pa_180_570 : pz_at 180 570 = some (570, .aload_n 0, 1, 0, 0, 0) := by decide +kernel
theorem pa_180_571 : pz_at 180 571 = some (571, .iload_n 3, 1, 0, 0, 0) := by decide +kernel
theorem pa_180_572 : pz_at 180 572 = some (572, .iconst 2, 1, 0, 0, 0) := by decide +kernel
theorem pa_180_573 : pz_at 180 573 = some (573, .iadd, 1, 0, 0, 0) := by decide +kernel
theorem pa_180_574 : pz_at 180 574 = some (574, .iaload, 1, 0, 0, 0) := by decide +kernel
theorem pa_180_575 : pz_at 180 575 = some (575, .invokevirtual 62, 3, 129, 2, 1206) := by decide +kernel
theorem pa_180_578 : pz_at 180 578 = some (578, .if_icmp .eq 439, 3, 1017, 0, 0) := by decide +kernel
theorem pa_180_581 : pz_at 180 581 = some (581, .iconst 0, 1, 0, 0, 0) := by decide +kernel
theorem pa_180_582 : pz_at 180 582 = some (582, .ireturn, 1, 0, 0, 0) := by decide +kernel
theorem pa_180_583 : pz_at 180 583 = some (583, .aload_n 1, 1, 0, 0, 0) := by decide +kernel
theorem pa_180_584 : pz_at 180 584 = some (584, .aload_n 0, 1, 0, 0, 0) := by decide +kernel
theorem pa_180_585 : pz_at 180 585 = some (585, .iload_n 3, 1, 0, 0, 0) := by decide +kernel
theorem pa_180_586 : pz_at 180 586 = some (586, .iconst 1, 1, 0, 0, 0) := by decide +kernel
theorem pa_180_587 : pz_at 180 587 = some (587, .iadd, 1, 0, 0, 0) := by decide +kernel
theorem pa_180_588 : pz_at 180 588 = some (588, .iaload, 1, 0, 0, 0) := by decide +kernel
theorem pa_180_589 : pz_at 180 589 = some (589, .invokevirtual 63, 3, 93, 1, 592) := by decide +kernel
theorem pa_180_592 : pz_at 180 592 = some (592, .aload_n 2, 1, 0, 0, 0) := by decide +kernel
theorem pa_180_593 : pz_at 180 593 = some (593, .aload_n 0, 1, 0, 0, 0) := by decide +kernel
theorem pa_180_594 : pz_at 180 594 = some (594, .iload_n 3, 1, 0, 0, 0) := by decide +kernel
theorem pa_180_595 : pz_at 180 595 = some (595, .iconst 1, 1, 0, 0, 0) := by decide +kernel
theorem pa_180_596 : pz_at 180 596 = some (596, .iadd, 1, 0, 0, 0) := by decide +kernel
theorem pa_180_597 : pz_at 180 597 = some (597, .iaload, 1, 0, 0, 0) := by decide +kernel
theorem pa_180_598 : pz_at 180 598 = some (598, .invokevirtual 66, 3, 130, 1, 1210) := by decide +kernel
theorem pa_180_601 : pz_at 180 601 = some (601, .if_icmp .eq 416, 3, 1017, 0, 0) := by decide +kernel
theorem pa_180_604 : pz_at 180 604 = some (604, .iconst 0, 1, 0, 0, 0) := by decide +kernel
theorem pa_180_605 : pz_at 180 605 = some (605, .ireturn, 1, 0, 0, 0) := by decide +kernel
theorem pa_180_606 : pz_at 180 606 = some (606, .aload_n 1, 1, 0, 0, 0) := by decide +kernel
theorem pa_180_607 : pz_at 180 607 = some (607, .aload_n 0, 1, 0, 0, 0) := by decide +kernel
theorem pa_180_608 : pz_at 180 608 = some (608, .iload_n 3, 1, 0, 0, 0) := by decide +kernel
theorem pa_180_609 : pz_at 180 609 = some (609, .iconst 1, 1, 0, 0, 0) := by decide +kernel
theorem pa_180_610 : pz_at 180 610 = some (610, .iadd, 1, 0, 0, 0) := by decide +kernel
theorem pa_180_611 : pz_at 180 611 = some (611, .iaload, 1, 0, 0, 0) := by decide +kernel
theorem pa_180_612 : pz_at 180 612 = some (612, .invokevirtual 67, 3, 94, 1, 596) := by decide +kernel
theorem pa_180_615 : pz_at 180 615 = some (615, .aload_n 2, 1, 0, 0, 0) := by decide +kernel
theorem pa_180_616 : pz_at 180 616 = some (616, .aload_n 0, 1, 0, 0, 0) := by decide +kernel
theorem pa_180_617 : pz_at 180 617 = some (617, .iload_n 3, 1, 0, 0, 0) := by decide +kernel
theorem pa_180_618 : pz_at 180 618 = some (618, .iconst 1, 1, 0, 0, 0) := by decide +kernel
theorem pa_180_619 : pz_at 180 619 = some (619, .iadd, 1, 0, 0, 0) := by decide +kernel
theorem pa_180_620 : pz_at 180 620 = some (620, .iaload, 1, 0, 0, 0) := by decide +kernel
theorem pa_180_621 : pz_at 180 621 = some (621, .invokevirtual 70, 3, 131, 1, 1214) := by decide +kernel
theorem pa_180_624 : pz_at 180 624 = some (624, .if_icmp .eq 393, 3, 1017, 0, 0) := by decide +kernel
theorem pa_180_627 : pz_at 180 627 = some (627, .iconst 0, 1, 0, 0, 0) := by decide +kernel
theorem pa_180_628 : pz_at 180 628 = some (628, .ireturn, 1, 0, 0, 0) := by decide +kernel
theorem pa_180_629 : pz_at 180 629 = some (629, .aload_n 1, 1, 0, 0, 0) := by decide +kernel
theorem pa_180_630 : pz_at 180 630 = some (630, .aload_n 0, 1, 0, 0, 0) := by decide +kernel
theorem pa_180_631 : pz_at 180 631 = some (631, .iload_n 3, 1, 0, 0, 0) := by decide +kernel
theorem pa_180_632 : pz_at 180 632 = some (632, .iconst 1, 1, 0, 0, 0) := by decide +kernel
theorem pa_180_633 : pz_at 180 633 = some (633, .iadd, 1, 0, 0, 0) := by decide +kernel
theorem pa_180_634 : pz_at 180 634 = some (634, .iaload, 1, 0, 0, 0) := by decide +kernel
theorem pa_180_635 : pz_at 180 635 = some (635, .aload_n 0, 1, 0, 0, 0) := by decide +kernel
theorem pa_180_636 : pz_at 180 636 = some (636, .iload_n 3, 1, 0, 0, 0) := by decide +kernel
theorem pa_180_637 : pz_at 180 637 = some (637, .iconst 2, 1, 0, 0, 0) := by decide +kernel
theorem pa_180_638 : pz_at 180 638 = some (638, .iadd, 1, 0, 0, 0) := by decide +kernel
theorem pa_180_639 : pz_at 180 639 = some (639, .iaload, 1, 0, 0, 0) := by decide +kernel
theorem pa_180_640 : pz_at 180 640 = some (640, .ifCond .eq 7, 3, 647, 0, 0) := by decide +kernel
theorem pa_180_643 : pz_at 180 643 = some (643, .iconst 1, 1, 0, 0, 0) := by decide +kernel
theorem pa_180_644 : pz_at 180 644 = some (644, .goto 4, 3, 648, 0, 0) := by decide +kernel
theorem pa_180_647 : pz_at 180 647 = some (647, .iconst 0, 1, 0, 0, 0) := by decide +kernel
theorem pa_180_648 : pz_at 180 648 = some (648, .aload_n 0, 1, 0, 0, 0) := by decide +kernel
theorem pa_180_649 : pz_at 180 649 = some (649, .iload_n 3, 1, 0, 0, 0) := by decide +kernel
theorem pa_180_650 : pz_at 180 650 = some (650, .iconst 3, 1, 0, 0, 0) := by decide +kernel
theorem pa_180_651 : pz_at 180 651 = some (651, .iadd, 1, 0, 0, 0) := by decide +kernel
theorem pa_180_652 : pz_at 180 652 = some (652, .iaload, 1, 0, 0, 0) := by decide +kernel
theorem pa_180_653 : pz_at 180 653 = some (653, .aload_n 0, 1, 0, 0, 0) := by decide +kernel
theorem pa_180_654 : pz_at 180 654 = some (654, .iload_n 3, 1, 0, 0, 0) := by decide +kernel
theorem pa_180_655 : pz_at 180 655 = some (655, .iconst 4, 1, 0, 0, 0) := by decide +kernel
theorem pa_180_656 : pz_at 180 656 = some (656, .iadd, 1, 0, 0, 0) := by decide +kernel
theorem pa_180_657 : pz_at 180 657 = some (657, .iaload, 1, 0, 0, 0) := by decide +kernel
theorem pa_180_658 : pz_at 180 658 = some (658, .invokevirtual 71, 3, 95, 4, 601) := by decide +kernel
theorem pa_180_661 : pz_at 180 661 = some (661, .aload_n 2, 1, 0, 0, 0) := by decide +kernel
theorem pa_180_662 : pz_at 180 662 = some (662, .aload_n 0, 1, 0, 0, 0) := by decide +kernel
theorem pa_180_663 : pz_at 180 663 = some (663, .iload_n 3, 1, 0, 0, 0) := by decide +kernel
theorem pa_180_664 : pz_at 180 664 = some (664, .iconst 1, 1, 0, 0, 0) := by decide +kernel
theorem pa_180_665 : pz_at 180 665 = some (665, .iadd, 1, 0, 0, 0) := by decide +kernel
theorem pa_180_666 : pz_at 180 666 = some (666, .iaload, 1, 0, 0, 0) := by decide +kernel
theorem pa_180_667 : pz_at 180 667 = some (667, .aload_n 0, 1, 0, 0, 0) := by decide +kernel
theorem pa_180_668 : pz_at 180 668 = some (668, .iload_n 3, 1, 0, 0, 0) := by decide +kernel
theorem pa_180_669 : pz_at 180 669 = some (669, .iconst 2, 1, 0, 0, 0) := by decide +kernel
theorem pa_180_670 : pz_at 180 670 = some (670, .iadd, 1, 0, 0, 0) := by decide +kernel
theorem pa_180_671 : pz_at 180 671 = some (671, .iaload, 1, 0, 0, 0) := by decide +kernel
theorem pa_180_672 : pz_at 180 672 = some (672, .ifCond .eq 7, 3, 679, 0, 0) := by decide +kernel
theorem pa_180_675 : pz_at 180 675 = some (675, .iconst 1, 1, 0, 0, 0) := by decide +kernel
theorem pa_180_676 : pz_at 180 676 = some (676, .goto 4, 3, 680, 0, 0) := by decide +kernel
theorem pa_180_679 : pz_at 180 679 = some (679, .iconst 0, 1, 0, 0, 0) := by decide +kernel
theorem pa_180_680 : pz_at 180 680 = some (680, .aload_n 0, 1, 0, 0, 0) := by decide +kernel
theorem pa_180_681 : pz_at 180 681 = some (681, .iload_n 3, 1, 0, 0, 0) := by decide +kernel
theorem pa_180_682 : pz_at 180 682 = some (682, .iconst 3, 1, 0, 0, 0) := by decide +kernel
theorem pa_180_683 : pz_at 180 683 = some (683, .iadd, 1, 0, 0, 0) := by decide +kernel
theorem pa_180_684 : pz_at 180 684 = some (684, .iaload, 1, 0, 0, 0) := by decide +kernel
theorem pa_180_685 : pz_at 180 685 = some (685, .aload_n 0, 1, 0, 0, 0) := by decide +kernel
theorem pa_180_686 : pz_at 180 686 = some (686, .iload_n 3, 1, 0, 0, 0) := by decide +kernel
theorem pa_180_687 : pz_at 180 687 = some (687, .iconst 4, 1, 0, 0, 0) := by decide +kernel
theorem pa_180_688 : pz_at 180 688 = some (688, .iadd, 1, 0, 0, 0) := by decide +kernel
theorem pa_180_689 : pz_at 180 689 = some (689, .iaload, 1, 0, 0, 0) := by decide +kernel
theorem pa_180_690 : pz_at 180 690 = some (690, .invokevirtual 75, 3, 132, 4, 1218) := by decide +kernel
theorem pa_180_693 : pz_at 180 693 = some (693, .if_icmp .eq 324, 3, 1017, 0, 0) := by decide +kernel
theorem pa_180_696 : pz_at 180 696 = some (696, .iconst 0, 1, 0, 0, 0) := by decide +kernel
theorem pa_180_697 : pz_at 180 697 = some (697, .ireturn, 1, 0, 0, 0) := by decide +kernel
theorem pa_180_698 : pz_at 180 698 = some (698, .aload_n 1, 1, 0, 0, 0) := by decide +kernel
theorem pa_180_699 : pz_at 180 699 = some (699, .invokevirtual 76, 3, 96, 0, 605) := by decide +kernel
theorem pa_180_702 : pz_at 180 702 = some (702, .aload_n 2, 1, 0, 0, 0) := by decide +kernel
theorem pa_180_703 : pz_at 180 703 = some (703, .invokevirtual 80, 3, 142, 0, 1222) := by decide +kernel
theorem pa_180_706 : pz_at 180 706 = some (706, .if_icmp .eq 311, 3, 1017, 0, 0) := by decide +kernel
theorem pa_180_709 : pz_at 180 709 = some (709, .iconst 0, 1, 0, 0, 0) := by decide +kernel
theorem pa_180_710 : pz_at 180 710 = some (710, .ireturn, 1, 0, 0, 0) := by decide +kernel
theorem pa_180_711 : pz_at 180 711 = some (711, .aload_n 1, 1, 0, 0, 0) := by decide +kernel
theorem pa_180_712 : pz_at 180 712 = some (712, .aload_n 0, 1, 0, 0, 0) := by decide +kernel
theorem pa_180_713 : pz_at 180 713 = some (713, .iload_n 3, 1, 0, 0, 0) := by decide +kernel
theorem pa_180_714 : pz_at 180 714 = some (714, .iconst 1, 1, 0, 0, 0) := by decide +kernel
theorem pa_180_715 : pz_at 180 715 = some (715, .iadd, 1, 0, 0, 0) := by decide +kernel
theorem pa_180_716 : pz_at 180 716 = some (716, .iaload, 1, 0, 0, 0) := by decide +kernel
theorem pa_180_717 : pz_at 180 717 = some (717, .aload_n 0, 1, 0, 0, 0) := by decide +kernel
theorem pa_180_718 : pz_at 180 718 = some (718, .iload_n 3, 1, 0, 0, 0) := by decide +kernel
theorem pa_180_719 : pz_at 180 719 = some (719, .iconst 2, 1, 0, 0, 0) := by decide +kernel
theorem pa_180_720 : pz_at 180 720 = some (720, .iadd, 1, 0, 0, 0) := by decide +kernel
theorem pa_180_721 : pz_at 180 721 = some (721, .iaload, 1, 0, 0, 0) := by decide +kernel
theorem pa_180_722 : pz_at 180 722 = some (722, .invokevirtual 81, 3, 97, 2, 697) := by decide +kernel
theorem pa_180_725 : pz_at 180 725 = some (725, .aload_n 2, 1, 0, 0, 0) := by decide +kernel
theorem pa_180_726 : pz_at 180 726 = some (726, .aload_n 0, 1, 0, 0, 0) := by decide +kernel
theorem pa_180_727 : pz_at 180 727 = some (727, .iload_n 3, 1, 0, 0, 0) := by decide +kernel
theorem pa_180_728 : pz_at 180 728 = some (728, .iconst 1, 1, 0, 0, 0) := by decide +kernel
theorem pa_180_729 : pz_at 180 729 = some (729, .iadd, 1, 0, 0, 0) := by decide +kernel
theorem pa_180_730 : pz_at 180 730 = some (730, .iaload, 1, 0, 0, 0) := by decide +kernel
theorem pa_180_731 : pz_at 180 731 = some (731, .aload_n 0, 1, 0, 0, 0) := by decide +kernel
theorem pa_180_732 : pz_at 180 732 = some (732, .iload_n 3, 1, 0, 0, 0) := by decide +kernel
theorem pa_180_733 : pz_at 180 733 = some (733, .iconst 2, 1, 0, 0, 0) := by decide +kernel
theorem pa_180_734 : pz_at 180 734 = some (734, .iadd, 1, 0, 0, 0) := by decide +kernel
theorem pa_180_735 : pz_at 180 735 = some (735, .iaload, 1, 0, 0, 0) := by decide +kernel
theorem pa_180_736 : pz_at 180 736 = some (736, .invokevirtual 84, 3, 146, 2, 1275) := by decide +kernel
theorem pa_180_739 : pz_at 180 739 = some (739, .if_icmp .eq 278, 3, 1017, 0, 0) := by decide +kernel
theorem pa_180_742 : pz_at 180 742 = some (742, .iconst 0, 1, 0, 0, 0) := by decide +kernel
theorem pa_180_743 : pz_at 180 743 = some (743, .ireturn, 1, 0, 0, 0) := by decide +kernel
theorem pa_180_744 : pz_at 180 744 = some (744, .aload_n 1, 1, 0, 0, 0) := by decide +kernel
theorem pa_180_745 : pz_at 180 745 = some (745, .aload_n 0, 1, 0, 0, 0) := by decide +kernel
theorem pa_180_746 : pz_at 180 746 = some (746, .iload_n 3, 1, 0, 0, 0) := by decide +kernel
theorem pa_180_747 : pz_at 180 747 = some (747, .iconst 1, 1, 0, 0, 0) := by decide +kernel
theorem pa_180_748 : pz_at 180 748 = some (748, .iadd, 1, 0, 0, 0) := by decide +kernel
theorem pa_180_749 : pz_at 180 749 = some (749, .iaload, 1, 0, 0, 0) := by decide +kernel
theorem pa_180_750 : pz_at 180 750 = some (750, .aload_n 0, 1, 0, 0, 0) := by decide +kernel
theorem pa_180_751 : pz_at 180 751 = some (751, .iload_n 3, 1, 0, 0, 0) := by decide +kernel
theorem pa_180_752 : pz_at 180 752 = some (752, .iconst 2, 1, 0, 0, 0) := by decide +kernel
theorem pa_180_753 : pz_at 180 753 = some (753, .iadd, 1, 0, 0, 0) := by decide +kernel
theorem pa_180_754 : pz_at 180 754 = some (754, .iaload, 1, 0, 0, 0) := by decide +kernel
theorem pa_180_755 : pz_at 180 755 = some (755, .aload_n 0, 1, 0, 0, 0) := by decide +kernel
theorem pa_180_756 : pz_at 180 756 = some (756, .iload_n 3, 1, 0, 0, 0) := by decide +kernel
theorem pa_180_757 : pz_at 180 757 = some (757, .iconst 3, 1, 0, 0, 0) := by decide +kernel
theorem pa_180_758 : pz_at 180 758 = some (758, .iadd, 1, 0, 0, 0) := by decide +kernel
theorem pa_180_759 : pz_at 180 759 = some (759, .iaload, 1, 0, 0, 0) := by decide +kernel
theorem pa_180_760 : pz_at 180 760 = some (760, .ifCond .eq 7, 3, 767, 0, 0) := by decide +kernel
theorem pa_180_763 : pz_at 180 763 = some (763, .iconst 1, 1, 0, 0, 0) := by decide +kernel
theorem pa_180_764 : pz_at 180 764 = some (764, .goto 4, 3, 768, 0, 0) := by decide +kernel
theorem pa_180_767 : pz_at 180 767 = some (767, .iconst 0, 1, 0, 0, 0) := by decide +kernel
theorem pa_180_768 : pz_at 180 768 = some (768, .invokevirtual 85, 3, 98, 3, 714) := by decide +kernel
theorem pa_180_771 : pz_at 180 771 = some (771, .aload_n 2, 1, 0, 0, 0) := by decide +kernel
theorem pa_180_772 : pz_at 180 772 = some (772, .aload_n 0, 1, 0, 0, 0) := by decide +kernel
theorem pa_180_773 : pz_at 180 773 = some (773, .iload_n 3, 1, 0, 0, 0) := by decide +kernel
theorem pa_180_774 : pz_at 180 774 = some (774, .iconst 1, 1, 0, 0, 0) := by decide +kernel
theorem pa_180_775 : pz_at 180 775 = some (775, .iadd, 1, 0, 0, 0) := by decide +kernel
theorem pa_180_776 : pz_at 180 776 = some (776, .iaload, 1, 0, 0, 0) := by decide +kernel
theorem pa_180_777 : pz_at 180 777 = some (777, .aload_n 0, 1, 0, 0, 0) := by decide +kernel
theorem pa_180_778 : pz_at 180 778 = some (778, .iload_n 3, 1, 0, 0, 0) := by decide +kernel
theorem pa_180_779 : pz_at 180 779 = some (779, .iconst 2, 1, 0, 0, 0) := by decide +kernel
theorem pa_180_780 : pz_at 180 780 = some (780, .iadd, 1, 0, 0, 0) := by decide +kernel
theorem pa_180_781 : pz_at 180 781 = some (781, .iaload, 1, 0, 0, 0) := by decide +kernel
theorem pa_180_782 : pz_at 180 782 = some (782, .aload_n 0, 1, 0, 0, 0) := by decide +kernel
theorem pa_180_783 : pz_at 180 783 = some (783, .iload_n 3, 1, 0, 0, 0) := by decide +kernel
theorem pa_180_784 : pz_at 180 784 = some (784, .iconst 3, 1, 0, 0, 0) := by decide +kernel
theorem pa_180_785 : pz_at 180 785 = some (785, .iadd, 1, 0, 0, 0) := by decide +kernel
theorem pa_180_786 : pz_at 180 786 = some (786, .iaload, 1, 0, 0, 0) := by decide +kernel
theorem pa_180_787 : pz_at 180 787 = some (787, .ifCond .eq 7, 3, 794, 0, 0) := by decide +kernel
theorem pa_180_790 : pz_at 180 790 = some (790, .iconst 1, 1, 0, 0, 0) := by decide +kernel
theorem pa_180_791 : pz_at 180 791 = some (791, .goto 4, 3, 795, 0, 0) := by decide +kernel
theorem pa_180_794 : pz_at 180 794 = some (794, .iconst 0, 1, 0, 0, 0) := by decide +kernel
theorem pa_180_795 : pz_at 180 795 = some (795, .invokevirtual 89, 3, 147, 3, 1283) := by decide +kernel
theorem pa_180_798 : pz_at 180 798 = some (798, .if_icmp .eq 219, 3, 1017, 0, 0) := by decide +kernel
theorem pa_180_801 : pz_at 180 801 = some (801, .iconst 0, 1, 0, 0, 0) := by decide +kernel
theorem pa_180_802 : pz_at 180 802 = some (802, .ireturn, 1, 0, 0, 0) := by decide +kernel
theorem pa_180_803 : pz_at 180 803 = some (803, .aload_n 1, 1, 0, 0, 0) := by decide +kernel
theorem pa_180_804 : pz_at 180 804 = some (804, .aload_n 0, 1, 0, 0, 0) := by decide +kernel
theorem pa_180_805 : pz_at 180 805 = some (805, .iload_n 3, 1, 0, 0, 0) := by decide +kernel
theorem pa_180_806 : pz_at 180 806 = some (806, .iconst 1, 1, 0, 0, 0) := by decide +kernel
theorem pa_180_807 : pz_at 180 807 = some (807, .iadd, 1, 0, 0, 0) := by decide +kernel
theorem pa_180_808 : pz_at 180 808 = some (808, .iaload, 1, 0, 0, 0) := by decide +kernel
theorem pa_180_809 : pz_at 180 809 = some (809, .aload_n 0, 1, 0, 0, 0) := by decide +kernel
theorem pa_180_810 : pz_at 180 810 = some (810, .iload_n 3, 1, 0, 0, 0) := by decide +kernel
theorem pa_180_811 : pz_at 180 811 = some (811, .iconst 2, 1, 0, 0, 0) := by decide +kernel
theorem pa_180_812 : pz_at 180 812 = some (812, .iadd, 1, 0, 0, 0) := by decide +kernel
theorem pa_180_813 : pz_at 180 813 = some (813, .iaload, 1, 0, 0, 0) := by decide +kernel
theorem pa_180_814 : pz_at 180 814 = some (814, .aload_n 0, 1, 0, 0, 0) := by decide +kernel
theorem pa_180_815 : pz_at 180 815 = some (815, .iload_n 3, 1, 0, 0, 0) := by decide +kernel
theorem pa_180_816 : pz_at 180 816 = some (816, .iconst 3, 1, 0, 0, 0) := by decide +kernel
theorem pa_180_817 : pz_at 180 817 = some (817, .iadd, 1, 0, 0, 0) := by decide +kernel
theorem pa_180_818 : pz_at 180 818 = some (818, .iaload, 1, 0, 0, 0) := by decide +kernel
theorem pa_180_819 : pz_at 180 819 = some (819, .invokevirtual 90, 3, 99, 3, 718) := by decide +kernel
theorem pa_180_822 : pz_at 180 822 = some (822, .aload_n 2, 1, 0, 0, 0) := by decide +kernel
theorem pa_180_823 : pz_at 180 823 = some (823, .aload_n 0, 1, 0, 0, 0) := by decide +kernel
theorem pa_180_824 : pz_at 180 824 = some (824, .iload_n 3, 1, 0, 0, 0) := by decide +kernel
theorem pa_180_825 : pz_at 180 825 = some (825, .iconst 1, 1, 0, 0, 0) := by decide +kernel
theorem pa_180_826 : pz_at 180 826 = some (826, .iadd, 1, 0, 0, 0) := by decide +kernel
theorem pa_180_827 : pz_at 180 827 = some (827, .iaload, 1, 0, 0, 0) := by decide +kernel
theorem pa_180_828 : pz_at 180 828 = some (828, .aload_n 0, 1, 0, 0, 0) := by decide +kernel
theorem pa_180_829 : pz_at 180 829 = some (829, .iload_n 3, 1, 0, 0, 0) := by decide +kernel
theorem pa_180_830 : pz_at 180 830 = some (830, .iconst 2, 1, 0, 0, 0) := by decide +kernel
theorem pa_180_831 : pz_at 180 831 = some (831, .iadd, 1, 0, 0, 0) := by decide +kernel
theorem pa_180_832 : pz_at 180 832 = some (832, .iaload, 1, 0, 0, 0) := by decide +kernel
theorem pa_180_833 : pz_at 180 833 = some (833, .aload_n 0, 1, 0, 0, 0) := by decide +kernel
theorem pa_180_834 : pz_at 180 834 = some (834, .iload_n 3, 1, 0, 0, 0) := by decide +kernel
theorem pa_180_835 : pz_at 180 835 = some (835, .iconst 3, 1, 0, 0, 0) := by decide +kernel
theorem pa_180_836 : pz_at 180 836 = some (836, .iadd, 1, 0, 0, 0) := by decide +kernel
theorem pa_180_837 : pz_at 180 837 = some (837, .iaload, 1, 0, 0, 0) := by decide +kernel
theorem pa_180_838 : pz_at 180 838 = some (838, .invokevirtual 93, 3, 148, 3, 1287) := by decide +kernel
theorem pa_180_841 : pz_at 180 841 = some (841, .if_icmp .eq 176, 3, 1017, 0, 0) := by decide +kernel
theorem pa_180_844 : pz_at 180 844 = some (844, .iconst 0, 1, 0, 0, 0) := by decide +kernel
theorem pa_180_845 : pz_at 180 845 = some (845, .ireturn, 1, 0, 0, 0) := by decide +kernel
theorem pa_180_846 : pz_at 180 846 = some (846, .aload_n 1, 1, 0, 0, 0) := by decide +kernel
theorem pa_180_847 : pz_at 180 847 = some (847, .aload_n 0, 1, 0, 0, 0) := by decide +kernel
theorem pa_180_848 : pz_at 180 848 = some (848, .iload_n 3, 1, 0, 0, 0) := by decide +kernel
theorem pa_180_849 : pz_at 180 849 = some (849, .iconst 1, 1, 0, 0, 0) := by decide +kernel
theorem pa_180_850 : pz_at 180 850 = some (850, .iadd, 1, 0, 0, 0) := by decide +kernel
theorem pa_180_851 : pz_at 180 851 = some (851, .iaload, 1, 0, 0, 0) := by decide +kernel
theorem pa_180_852 : pz_at 180 852 = some (852, .aload_n 0, 1, 0, 0, 0) := by decide +kernel
theorem pa_180_853 : pz_at 180 853 = some (853, .iload_n 3, 1, 0, 0, 0) := by decide +kernel
theorem pa_180_854 : pz_at 180 854 = some (854, .iconst 2, 1, 0, 0, 0) := by decide +kernel
theorem pa_180_855 : pz_at 180 855 = some (855, .iadd, 1, 0, 0, 0) := by decide +kernel
theorem pa_180_856 : pz_at 180 856 = some (856, .iaload, 1, 0, 0, 0) := by decide +kernel
theorem pa_180_857 : pz_at 180 857 = some (857, .invokevirtual 94, 3, 100, 2, 723) := by decide +kernel
theorem pa_180_860 : pz_at 180 860 = some (860, .aload_n 2, 1, 0, 0, 0) := by decide +kernel
theorem pa_180_861 : pz_at 180 861 = some (861, .aload_n 0, 1, 0, 0, 0) := by decide +kernel
theorem pa_180_862 : pz_at 180 862 = some (862, .iload_n 3, 1, 0, 0, 0) := by decide +kernel
theorem pa_180_863 : pz_at 180 863 = some (863, .iconst 1, 1, 0, 0, 0) := by decide +kernel
theorem pa_180_864 : pz_at 180 864 = some (864, .iadd, 1, 0, 0, 0) := by decide +kernel
theorem pa_180_865 : pz_at 180 865 = some (865, .iaload, 1, 0, 0, 0) := by decide +kernel
theorem pa_180_866 : pz_at 180 866 = some (866, .aload_n 0, 1, 0, 0, 0) := by decide +kernel
theorem pa_180_867 : pz_at 180 867 = some (867, .iload_n 3, 1, 0, 0, 0) := by decide +kernel
theorem pa_180_868 : pz_at 180 868 = some (868, .iconst 2, 1, 0, 0, 0) := by decide +kernel
theorem pa_180_869 : pz_at 180 869 = some (869, .iadd, 1, 0, 0, 0) := by decide +kernel
theorem pa_180_870 : pz_at 180 870 = some (870, .iaload, 1, 0, 0, 0) := by decide +kernel
theorem pa_180_871 : pz_at 180 871 = some (871, .invokevirtual 97, 3, 149, 2, 1291) := by decide +kernel
theorem pa_180_874 : pz_at 180 874 = some (874, .if_icmp .eq 143, 3, 1017, 0, 0) := by decide +kernel
theorem pa_180_877 : pz_at 180 877 = some (877, .iconst 0, 1, 0, 0, 0) := by decide +kernel
theorem pa_180_878 : pz_at 180 878 = some (878, .ireturn, 1, 0, 0, 0) := by decide +kernel
theorem pa_180_879 : pz_at 180 879 = some (879, .aload_n 1, 1, 0, 0, 0) := by decide +kernel
theorem pa_180_880 : pz_at 180 880 = some (880, .aload_n 0, 1, 0, 0, 0) := by decide +kernel
theorem pa_180_881 : pz_at 180 881 = some (881, .iload_n 3, 1, 0, 0, 0) := by decide +kernel
theorem pa_180_882 : pz_at 180 882 = some (882, .iconst 1, 1, 0, 0, 0) := by decide +kernel
theorem pa_180_883 : pz_at 180 883 = some (883, .iadd, 1, 0, 0, 0) := by decide +kernel
theorem pa_180_884 : pz_at 180 884 = some (884, .iaload, 1, 0, 0, 0) := by decide +kernel
theorem pa_180_885 : pz_at 180 885 = some (885, .invokevirtual 98, 3, 102, 1, 731) := by decide +kernel
theorem pa_180_888 : pz_at 180 888 = some (888, .aload_n 2, 1, 0, 0, 0) := by decide +kernel
theorem pa_180_889 : pz_at 180 889 = some (889, .aload_n 0, 1, 0, 0, 0) := by decide +kernel
theorem pa_180_890 : pz_at 180 890 = some (890, .iload_n 3, 1, 0, 0, 0) := by decide +kernel
theorem pa_180_891 : pz_at 180 891 = some (891, .iconst 1, 1, 0, 0, 0) := by decide +kernel
theorem pa_180_892 : pz_at 180 892 = some (892, .iadd, 1, 0, 0, 0) := by decide +kernel
theorem pa_180_893 : pz_at 180 893 = some (893, .iaload, 1, 0, 0, 0) := by decide +kernel
theorem pa_180_894 : pz_at 180 894 = some (894, .invokevirtual 101, 3, 170, 1, 1295) := by decide +kernel
theorem pa_180_897 : pz_at 180 897 = some (897, .if_icmp .eq 120, 3, 1017, 0, 0) := by decide +kernel
theorem pa_180_900 : pz_at 180 900 = some (900, .iconst 0, 1, 0, 0, 0) := by decide +kernel
theorem pa_180_901 : pz_at 180 901 = some (901, .ireturn, 1, 0, 0, 0) := by decide +kernel
theorem pa_180_902 : pz_at 180 902 = some (902, .aload_n 1, 1, 0, 0, 0) := by decide +kernel
theorem pa_180_903 : pz_at 180 903 = some (903, .aload_n 0, 1, 0, 0, 0) := by decide +kernel
theorem pa_180_904 : pz_at 180 904 = some (904, .iload_n 3, 1, 0, 0, 0) := by decide +kernel
theorem pa_180_905 : pz_at 180 905 = some (905, .iconst 1, 1, 0, 0, 0) := by decide +kernel
theorem pa_180_906 : pz_at 180 906 = some (906, .iadd, 1, 0, 0, 0) := by decide +kernel
theorem pa_180_907 : pz_at 180 907 = some (907, .iaload, 1, 0, 0, 0) := by decide +kernel
theorem pa_180_908 : pz_at 180 908 = some (908, .invokevirtual 102, 3, 103, 1, 847) := by decide +kernel
theorem pa_180_911 : pz_at 180 911 = some (911, .aload_n 2, 1, 0, 0, 0) := by decide +kernel
theorem pa_180_912 : pz_at 180 912 = some (912, .aload_n 0, 1, 0, 0, 0) := by decide +kernel
theorem pa_180_913 : pz_at 180 913 = some (913, .iload_n 3, 1, 0, 0, 0) := by decide +kernel
theorem pa_180_914 : pz_at 180 914 = some (914, .iconst 1, 1, 0, 0, 0) := by decide +kernel
theorem pa_180_915 : pz_at 180 915 = some (915, .iadd, 1, 0, 0, 0) := by decide +kernel
theorem pa_180_916 : pz_at 180 916 = some (916, .iaload, 1, 0, 0, 0) := by decide +kernel
theorem pa_180_917 : pz_at 180 917 = some (917, .invokevirtual 105, 3, 171, 1, 1378) := by decide +kernel
theorem pa_180_920 : pz_at 180 920 = some (920, .if_icmp .eq 97, 3, 1017, 0, 0) := by decide +kernel
theorem pa_180_923 : pz_at 180 923 = some (923, .iconst 0, 1, 0, 0, 0) := by decide +kernel
theorem pa_180_924 : pz_at 180 924 = some (924, .ireturn, 1, 0, 0, 0) := by decide +kernel
theorem pa_180_925 : pz_at 180 925 = some (925, .aload_n 1, 1, 0, 0, 0) := by decide +kernel
theorem pa_180_926 : pz_at 180 926 = some (926, .invokevirtual 106, 3, 104, 0, 855) := by decide +kernel
theorem pa_180_929 : pz_at 180 929 = some (929, .aload_n 2, 1, 0, 0, 0) := by decide +kernel
theorem pa_180_930 : pz_at 180 930 = some (930, .invokevirtual 109, 3, 172, 0, 1383) := by decide +kernel
theorem pa_180_933 : pz_at 180 933 = some (933, .if_icmp .eq 84, 3, 1017, 0, 0) := by decide +kernel
theorem pa_180_936 : pz_at 180 936 = some (936, .iconst 0, 1, 0, 0, 0) := by decide +kernel
theorem pa_180_937 : pz_at 180 937 = some (937, .ireturn, 1, 0, 0, 0) := by decide +kernel
theorem pa_180_938 : pz_at 180 938 = some (938, .aload_n 1, 1, 0, 0, 0) := by decide +kernel
theorem pa_180_939 : pz_at 180 939 = some (939, .aload_n 0, 1, 0, 0, 0) := by decide +kernel
theorem pa_180_940 : pz_at 180 940 = some (940, .iload_n 3, 1, 0, 0, 0) := by decide +kernel
theorem pa_180_941 : pz_at 180 941 = some (941, .iconst 1, 1, 0, 0, 0) := by decide +kernel
theorem pa_180_942 : pz_at 180 942 = some (942, .iadd, 1, 0, 0, 0) := by decide +kernel
theorem pa_180_943 : pz_at 180 943 = some (943, .iaload, 1, 0, 0, 0) := by decide +kernel
theorem pa_180_944 : pz_at 180 944 = some (944, .aload_n 0, 1, 0, 0, 0) := by decide +kernel
theorem pa_180_945 : pz_at 180 945 = some (945, .iload_n 3, 1, 0, 0, 0) := by decide +kernel
theorem pa_180_946 : pz_at 180 946 = some (946, .iconst 2, 1, 0, 0, 0) := by decide +kernel
theorem pa_180_947 : pz_at 180 947 = some (947, .iadd, 1, 0, 0, 0) := by decide +kernel
theorem pa_180_948 : pz_at 180 948 = some (948, .iaload, 1, 0, 0, 0) := by decide +kernel
theorem pa_180_949 : pz_at 180 949 = some (949, .invokevirtual 110, 3, 105, 2, 859) := by decide +kernel
theorem pa_180_952 : pz_at 180 952 = some (952, .aload_n 2, 1, 0, 0, 0) := by decide +kernel
theorem pa_180_953 : pz_at 180 953 = some (953, .aload_n 0, 1, 0, 0, 0) := by decide +kernel
theorem pa_180_954 : pz_at 180 954 = some (954, .iload_n 3, 1, 0, 0, 0) := by decide +kernel
theorem pa_180_955 : pz_at 180 955 = some (955, .iconst 1, 1, 0, 0, 0) := by decide +kernel
theorem pa_180_956 : pz_at 180 956 = some (956, .iadd, 1, 0, 0, 0) := by decide +kernel
theorem pa_180_957 : pz_at 180 957 = some (957, .iaload, 1, 0, 0, 0) := by decide +kernel
theorem pa_180_958 : pz_at 180 958 = some (958, .aload_n 0, 1, 0, 0, 0) := by decide +kernel
theorem pa_180_959 : pz_at 180 959 = some (959, .iload_n 3, 1, 0, 0, 0) := by decide +kernel
theorem pa_180_960 : pz_at 180 960 = some (960, .iconst 2, 1, 0, 0, 0) := by decide +kernel
theorem pa_180_961 : pz_at 180 961 = some (961, .iadd, 1, 0, 0, 0) := by decide +kernel
theorem pa_180_962 : pz_at 180 962 = some (962, .iaload, 1, 0, 0, 0) := by decide +kernel
theorem pa_180_963 : pz_at 180 963 = some (963, .invokevirtual 113, 3, 177, 2, 1387) := by decide +kernel
theorem pa_180_966 : pz_at 180 966 = some (966, .if_icmp .eq 51, 3, 1017, 0, 0) := by decide +kernel
theorem pa_180_969 : pz_at 180 969 = some (969, .iconst 0, 1, 0, 0, 0) := by decide +kernel
theorem pa_180_970 : pz_at 180 970 = some (970, .ireturn, 1, 0, 0, 0) := by decide +kernel
theorem pa_180_971 : pz_at 180 971 = some (971, .aload_n 1, 1, 0, 0, 0) := by decide +kernel
theorem pa_180_972 : pz_at 180 972 = some (972, .aload_n 0, 1, 0, 0, 0) := by decide +kernel
theorem pa_180_973 : pz_at 180 973 = some (973, .iload_n 3, 1, 0, 0, 0) := by decide +kernel
theorem pa_180_974 : pz_at 180 974 = some (974, .iconst 1, 1, 0, 0, 0) := by decide +kernel
theorem pa_180_975 : pz_at 180 975 = some (975, .iadd, 1, 0, 0, 0) := by decide +kernel
theorem pa_180_976 : pz_at 180 976 = some (976, .iaload, 1, 0, 0, 0) := by decide +kernel
theorem pa_180_977 : pz_at 180 977 = some (977, .invokevirtual 114, 3, 107, 1, 897) := by decide +kernel
theorem pa_180_980 : pz_at 180 980 = some (980, .aload_n 2, 1, 0, 0, 0) := by decide +kernel
theorem pa_180_981 : pz_at 180 981 = some (981, .aload_n 0, 1, 0, 0, 0) := by decide +kernel
theorem pa_180_982 : pz_at 180 982 = some (982, .iload_n 3, 1, 0, 0, 0) := by decide +kernel
theorem pa_180_983 : pz_at 180 983 = some (983, .iconst 1, 1, 0, 0, 0) := by decide +kernel
theorem pa_180_984 : pz_at 180 984 = some (984, .iadd, 1, 0, 0, 0) := by decide +kernel
theorem pa_180_985 : pz_at 180 985 = some (985, .iaload, 1, 0, 0, 0) := by decide +kernel
theorem pa_180_986 : pz_at 180 986 = some (986, .invokevirtual 117, 3, 178, 1, 1407) := by decide +kernel
theorem pa_180_989 : pz_at 180 989 = some (989, .if_icmp .eq 28, 3, 1017, 0, 0) := by decide +kernel
theorem pa_180_992 : pz_at 180 992 = some (992, .iconst 0, 1, 0, 0, 0) := by decide +kernel
theorem pa_180_993 : pz_at 180 993 = some (993, .ireturn, 1, 0, 0, 0) := by decide +kernel
theorem pa_180_994 : pz_at 180 994 = some (994, .aload_n 1, 1, 0, 0, 0) := by decide +kernel
theorem pa_180_995 : pz_at 180 995 = some (995, .aload_n 0, 1, 0, 0, 0) := by decide +kernel
theorem pa_180_996 : pz_at 180 996 = some (996, .iload_n 3, 1, 0, 0, 0) := by decide +kernel
theorem pa_180_997 : pz_at 180 997 = some (997, .iconst 1, 1, 0, 0, 0) := by decide +kernel
theorem pa_180_998 : pz_at 180 998 = some (998, .iadd, 1, 0, 0, 0) := by decide +kernel
theorem pa_180_999 : pz_at 180 999 = some (999, .iaload, 1, 0, 0, 0) := by decide +kernel
theorem pm_100 : pz_mi 100 = (6, 3, (some .int)) := by decide +kernel
theorem pm_102 : pz_mi 102 = (6, 3, (some .int)) := by decide +kernel
theorem pm_103 : pz_mi 103 = (6, 2, (some .int)) := by decide +kernel
theorem pm_104 : pz_mi 104 = (6, 1, (some .int)) := by decide +kernel
theorem pm_105 : pz_mi 105 = (6, 5, (some .int)) := by decide +kernel
theorem pm_107 : pz_mi 107 = (6, 2, (some .int)) := by decide +kernel
theorem pm_108 : pz_mi 108 = (6, 2, (some .int)) := by decide +kernel
theorem pm_110 : pz_mi 110 = (7, 2, (some .int)) := by decide +kernel
theorem pm_112 : pz_mi 112 = (7, 4, (some .int)) := by decide +kernel
theorem pm_113 : pz_mi 113 = (7, 2, (some .int)) := by decide +kernel
theorem pm_114 : pz_mi 114 = (7, 4, (some .int)) := by decide +kernel
theorem pm_119 : pz_mi 119 = (7, 7, (some .int)) := by decide +kernel
theorem pm_120 : pz_mi 120 = (7, 7, (some .int)) := by decide +kernel
theorem pm_123 : pz_mi 123 = (7, 2, (some .int)) := by decide +kernel
theorem pm_124 : pz_mi 124 = (7, 2, (some .int)) := by decide +kernel
theorem pm_127 : pz_mi 127 = (7, 4, (some .int)) := by decide +kernel
theorem pm_128 : pz_mi 128 = (7, 3, (some .int)) := by decide +kernel
theorem pm_129 : pz_mi 129 = (7, 3, (some .int)) := by decide +kernel
theorem pm_130 : pz_mi 130 = (7, 2, (some .int)) := by decide +kernel
theorem pm_131 : pz_mi 131 = (7, 2, (some .int)) := by decide +kernel
theorem pm_132 : pz_mi 132 = (7, 7, (some .int)) := by decide +kernel
theorem pm_142 : pz_mi 142 = (7, 3, (some .int)) := by decide +kernel
theorem pm_146 : pz_mi 146 = (7, 3, (some .int)) := by decide +kernel
theorem pm_147 : pz_mi 147 = (7, 4, (some .int)) := by decide +kernel
theorem pm_148 : pz_mi 148 = (7, 4, (some .int)) := by decide +kernel
theorem pm_149 : pz_mi 149 = (7, 4, (some .int)) := by decide +kernel
theorem pm_170 : pz_mi 170 = (7, 2, (some .int)) := by decide +kernel
theorem pm_171 : pz_mi 171 = (7, 2, (some .int)) := by decide +kernel
theorem pm_172 : pz_mi 172 = (7, 1, (some .int)) := by decide +kernel
theorem pm_177 : pz_mi 177 = (7, 6, (some .int)) := by decide +kernel
theorem pm_178 : pz_mi 178 = (7, 2, (some .int)) := by decide +kernel
theorem pm_179 : pz_mi 179 = (7, 2, (some .int)) := by decide +kernel
theorem pm_82 : pz_mi 82 = (6, 2, (some .int)) := by decide +kernel
theorem pm_83 : pz_mi 83 = (6, 3, (some .int)) := by decide +kernel
theorem pm_84 : pz_mi 84 = (6, 2, (some .int)) := by decide +kernel
theorem pm_85 : pz_mi 85 = (6, 4, (some .int)) := by decide +kernel
theorem pm_86 : pz_mi 86 = (6, 6, (some .int)) := by decide +kernel
theorem pm_87 : pz_mi 87 = (6, 6, (some .int)) := by decide +kernel
theorem pm_88 : pz_mi 88 = (6, 2, (some .int)) := by decide +kernel
theorem pm_89 : pz_mi 89 = (6, 2, (some .int)) := by decide +kernel
theorem pm_90 : pz_mi 90 = (6, 4, (some .int)) := by decide +kernel
theorem pm_91 : pz_mi 91 = (6, 3, (some .int)) := by decide +kernel
theorem pm_92 : pz_mi 92 = (6, 3, (some .int)) := by decide +kernel
theorem pm_93 : pz_mi 93 = (6, 2, (some .int)) := by decide +kernel
theorem pm_94 : pz_mi 94 = (6, 2, (some .int)) := by decide +kernel
theorem pm_95 : pz_mi 95 = (6, 7, (some .int)) := by decide +kernel
theorem pm_96 : pz_mi 96 = (6, 3, (some .int)) := by decide +kernel
theorem pm_97 : pz_mi 97 = (6, 3, (some .int)) := by decide +kernel
theorem pm_98 : pz_mi 98 = (6, 4, (some .int)) := by decide +kernel
theorem pm_99 : pz_mi 99 = (6, 4, (some .int)) := by decide +kernel
theorem pr_180 : (pz_mi 180).2.2 = (some .boolean) := by decide +kernel
