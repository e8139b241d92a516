theorem pa_55_0 : pz_at 55 0 = some (0, .iload_n 1, 1, 0, 0, 0) := by decide +kernel
theorem pa_55_1 : pz_at 55 1 = some (1, .ifCond .lt 15, 3, 16, 0, 0) := by decide +kernel
theorem pa_55_12 : pz_at 55 12 = some (12, .iconst 1, 1, 0, 0, 0) := by decide +kernel
theorem pa_55_13 : pz_at 55 13 = some (13, .goto 4, 3, 17, 0, 0) := by decide +kernel
theorem pa_55_16 : pz_at 55 16 = some (16, .iconst 0, 1, 0, 0, 0) := by decide +kernel
theorem pa_55_17 : pz_at 55 17 = some (17, .ireturn, 1, 0, 0, 0) := by decide +kernel
theorem pa_55_4 : pz_at 55 4 = some (4, .iload_n 1, 1, 0, 0, 0) := by decide +kernel
theorem pa_55_5 : pz_at 55 5 = some (5, .aload_n 0, 1, 0, 0, 0) := by decide +kernel
theorem pa_55_6 : pz_at 55 6 = some (6, .getfield 55, 3, 4, 0, 116) := by decide +kernel
theorem pa_55_9 : pz_at 55 9 = some (9, .if_icmp .ge 7, 3, 16, 0, 0) := by decide +kernel
theorem pf_1_4_0 : pz_gf 1 4 0 = some none := by decide +kernel
theorem pr_55 : (pz_mi 55).2.2 = (some .boolean) := by decide +kernel
theorem pv_55 (v1 : Int32) (σ : pz_Sg) (Post : pz_Ps) (h : ((v1 < (0 : Int32) → Post (some (.int (0 : Int32))) σ) ∧ (¬ v1 < (0 : Int32) → (((σ.1 1 0) ≤ v1 → Post (some (.int (0 : Int32))) σ) ∧ (¬ (σ.1 1 0) ≤ v1 → Post (some (.int (1 : Int32))) σ))))) : pz_WP 55 (0, pz_en 2 [.ref 1, .int v1], []) σ Post :=
  (ps_iload_n pa_55_0 (Eq.refl 1) rfl (ps_if pa_55_1 (Eq.refl 4) ⟨fun z2 => (ps_iconst pa_55_16 (Eq.refl 17) (show _ = (0 : Int32) from rfl) (ps_retZ pa_55_17 pr_55 (Or.inl rfl) (h.1 z2))), fun z2 => (ps_iload_n pa_55_4 (Eq.refl 5) rfl (ps_aload_n pa_55_5 (Eq.refl 6) rfl (ps_getI pa_55_6 (Eq.refl 9) pf_1_4_0 (ps_cmp pa_55_9 (Eq.refl 12) ⟨fun z1 => (ps_iconst pa_55_16 (Eq.refl 17) (show _ = (0 : Int32) from rfl) (ps_retZ pa_55_17 pr_55 (Or.inl rfl) ((h.2 z2).1 z1))), fun z1 => (ps_iconst pa_55_12 (Eq.refl 13) (show _ = (1 : Int32) from rfl) (ps_goto pa_55_13 (ps_retZ pa_55_17 pr_55 (Or.inr rfl) ((h.2 z2).2 z1))))⟩))))⟩))
theorem pa_56_0 : pz_at 56 0 = some (0, .iload_n 1, 1, 0, 0, 0) := by decide +kernel
theorem pa_56_1 : pz_at 56 1 = some (1, .ifCond .lt 15, 3, 16, 0, 0) := by decide +kernel
theorem pa_56_12 : pz_at 56 12 = some (12, .iconst 1, 1, 0, 0, 0) := by decide +kernel
theorem pa_56_13 : pz_at 56 13 = some (13, .goto 4, 3, 17, 0, 0) := by decide +kernel
theorem pa_56_16 : pz_at 56 16 = some (16, .iconst 0, 1, 0, 0, 0) := by decide +kernel
theorem pa_56_17 : pz_at 56 17 = some (17, .ireturn, 1, 0, 0, 0) := by decide +kernel
theorem pa_56_4 : pz_at 56 4 = some (4, .iload_n 1, 1, 0, 0, 0) := by decide +kernel
theorem pa_56_5 : pz_at 56 5 = some (5, .aload_n 0, 1, 0, 0, 0) := by decide +kernel
theorem pa_56_6 : pz_at 56 6 = some (6, .getfield 59, 3, 4, 2, 121) := by decide +kernel
theorem pa_56_9 : pz_at 56 9 = some (9, .if_icmp .ge 7, 3, 16, 0, 0) := by decide +kernel
theorem pf_1_4_2 : pz_gf 1 4 2 = some none := by decide +kernel
theorem pr_56 : (pz_mi 56).2.2 = (some .boolean) := by decide +kernel
theorem pv_56 (v1 : Int32) (σ : pz_Sg) (Post : pz_Ps) (h : ((v1 < (0 : Int32) → Post (some (.int (0 : Int32))) σ) ∧ (¬ v1 < (0 : Int32) → (((σ.1 1 2) ≤ v1 → Post (some (.int (0 : Int32))) σ) ∧ (¬ (σ.1 1 2) ≤ v1 → Post (some (.int (1 : Int32))) σ))))) : pz_WP 56 (0, pz_en 2 [.ref 1, .int v1], []) σ Post :=
  (ps_iload_n pa_56_0 (Eq.refl 1) rfl (ps_if pa_56_1 (Eq.refl 4) ⟨fun z2 => (ps_iconst pa_56_16 (Eq.refl 17) (show _ = (0 : Int32) from rfl) (ps_retZ pa_56_17 pr_56 (Or.inl rfl) (h.1 z2))), fun z2 => (ps_iload_n pa_56_4 (Eq.refl 5) rfl (ps_aload_n pa_56_5 (Eq.refl 6) rfl (ps_getI pa_56_6 (Eq.refl 9) pf_1_4_2 (ps_cmp pa_56_9 (Eq.refl 12) ⟨fun z1 => (ps_iconst pa_56_16 (Eq.refl 17) (show _ = (0 : Int32) from rfl) (ps_retZ pa_56_17 pr_56 (Or.inl rfl) ((h.2 z2).1 z1))), fun z1 => (ps_iconst pa_56_12 (Eq.refl 13) (show _ = (1 : Int32) from rfl) (ps_goto pa_56_13 (ps_retZ pa_56_17 pr_56 (Or.inr rfl) ((h.2 z2).2 z1))))⟩))))⟩))
theorem pa_57_0 : pz_at 57 0 = some (0, .iload_n 1, 1, 0, 0, 0) := by decide +kernel
theorem pa_57_1 : pz_at 57 1 = some (1, .ifCond .lt 15, 3, 16, 0, 0) := by decide +kernel
theorem pa_57_12 : pz_at 57 12 = some (12, .iconst 1, 1, 0, 0, 0) := by decide +kernel
theorem pa_57_13 : pz_at 57 13 = some (13, .goto 4, 3, 17, 0, 0) := by decide +kernel
theorem pa_57_16 : pz_at 57 16 = some (16, .iconst 0, 1, 0, 0, 0) := by decide +kernel
theorem pa_57_17 : pz_at 57 17 = some (17, .ireturn, 1, 0, 0, 0) := by decide +kernel
theorem pa_57_4 : pz_at 57 4 = some (4, .iload_n 1, 1, 0, 0, 0) := by decide +kernel
theorem pa_57_5 : pz_at 57 5 = some (5, .aload_n 0, 1, 0, 0, 0) := by decide +kernel
theorem pa_57_6 : pz_at 57 6 = some (6, .getfield 62, 3, 4, 3, 124) := by decide +kernel
theorem pa_57_9 : pz_at 57 9 = some (9, .if_icmp .ge 7, 3, 16, 0, 0) := by decide +kernel
theorem pf_1_4_3 : pz_gf 1 4 3 = some none := by decide +kernel
theorem pr_57 : (pz_mi 57).2.2 = (some .boolean) := by decide +kernel
theorem pv_57 (v1 : Int32) (σ : pz_Sg) (Post : pz_Ps) (h : ((v1 < (0 : Int32) → Post (some (.int (0 : Int32))) σ) ∧ (¬ v1 < (0 : Int32) → (((σ.1 1 3) ≤ v1 → Post (some (.int (0 : Int32))) σ) ∧ (¬ (σ.1 1 3) ≤ v1 → Post (some (.int (1 : Int32))) σ))))) : pz_WP 57 (0, pz_en 2 [.ref 1, .int v1], []) σ Post :=
  (ps_iload_n pa_57_0 (Eq.refl 1) rfl (ps_if pa_57_1 (Eq.refl 4) ⟨fun z2 => (ps_iconst pa_57_16 (Eq.refl 17) (show _ = (0 : Int32) from rfl) (ps_retZ pa_57_17 pr_57 (Or.inl rfl) (h.1 z2))), fun z2 => (ps_iload_n pa_57_4 (Eq.refl 5) rfl (ps_aload_n pa_57_5 (Eq.refl 6) rfl (ps_getI pa_57_6 (Eq.refl 9) pf_1_4_3 (ps_cmp pa_57_9 (Eq.refl 12) ⟨fun z1 => (ps_iconst pa_57_16 (Eq.refl 17) (show _ = (0 : Int32) from rfl) (ps_retZ pa_57_17 pr_57 (Or.inl rfl) ((h.2 z2).1 z1))), fun z1 => (ps_iconst pa_57_12 (Eq.refl 13) (show _ = (1 : Int32) from rfl) (ps_goto pa_57_13 (ps_retZ pa_57_17 pr_57 (Or.inr rfl) ((h.2 z2).2 z1))))⟩))))⟩))
theorem pa_58_0 : pz_at 58 0 = some (0, .aload_n 0, 1, 0, 0, 0) := by decide +kernel
theorem pa_58_1 : pz_at 58 1 = some (1, .getfield 9, 3, 4, 4, 127) := by decide +kernel
theorem pa_58_10 : pz_at 58 10 = some (10, .iconst 1, 1, 0, 0, 0) := by decide +kernel
theorem pa_58_11 : pz_at 58 11 = some (11, .if_icmp .ne 7, 3, 18, 0, 0) := by decide +kernel
theorem pa_58_14 : pz_at 58 14 = some (14, .iconst 1, 1, 0, 0, 0) := by decide +kernel
theorem pa_58_15 : pz_at 58 15 = some (15, .goto 4, 3, 19, 0, 0) := by decide +kernel
theorem pa_58_18 : pz_at 58 18 = some (18, .iconst 0, 1, 0, 0, 0) := by decide +kernel
theorem pa_58_19 : pz_at 58 19 = some (19, .ireturn, 1, 0, 0, 0) := by decide +kernel
theorem pa_58_4 : pz_at 58 4 = some (4, .iload_n 1, 1, 0, 0, 0) := by decide +kernel
theorem pa_58_5 : pz_at 58 5 = some (5, .iaload, 1, 0, 0, 0) := by decide +kernel
theorem pa_58_6 : pz_at 58 6 = some (6, .iload_n 2, 1, 0, 0, 0) := by decide +kernel
theorem pa_58_7 : pz_at 58 7 = some (7, .ishr, 1, 0, 0, 0) := by decide +kernel
theorem pa_58_8 : pz_at 58 8 = some (8, .iconst 1, 1, 0, 0, 0) := by decide +kernel
theorem pa_58_9 : pz_at 58 9 = some (9, .iand, 1, 0, 0, 0) := by decide +kernel
theorem pf_1_4_4 : pz_gf 1 4 4 = some (some 2) := by decide +kernel
theorem pg_2 : pz_ga 2 = some (.int, 8) := by decide +kernel
theorem pr_58 : (pz_mi 58).2.2 = (some .boolean) := by decide +kernel
theorem pv_58 (v1 : Int32) (v2 : Int32) (σ : pz_Sg) (Post : pz_Ps) (h : (vp_in v1 8 ∧ (((((σ.1 2 v1.toNatClampNeg) >>> (v2 &&& 31)) &&& (1 : Int32)) = (1 : Int32) → Post (some (.int (1 : Int32))) σ) ∧ (¬ (((σ.1 2 v1.toNatClampNeg) >>> (v2 &&& 31)) &&& (1 : Int32)) = (1 : Int32) → Post (some (.int (0 : Int32))) σ)))) : pz_WP 58 (0, pz_en 3 [.ref 1, .int v1, .int v2], []) σ Post :=
  (ps_aload_n pa_58_0 (Eq.refl 1) rfl (ps_getR pa_58_1 (Eq.refl 4) pf_1_4_4 (ps_iload_n pa_58_4 (Eq.refl 5) rfl (ps_iald pa_58_5 (Eq.refl 6) pg_2 rfl rfl h.1 (ps_iload_n pa_58_6 (Eq.refl 7) rfl (ps_ishr pa_58_7 (Eq.refl 8) (ps_iconst pa_58_8 (Eq.refl 9) (show _ = (1 : Int32) from rfl) (ps_iand pa_58_9 (Eq.refl 10) (ps_iconst pa_58_10 (Eq.refl 11) (show _ = (1 : Int32) from rfl) (ps_cmp pa_58_11 (Eq.refl 14) ⟨fun z1 => (ps_iconst pa_58_14 (Eq.refl 15) (show _ = (1 : Int32) from rfl) (ps_goto pa_58_15 (ps_retZ pa_58_19 pr_58 (Or.inr rfl) (h.2.1 z1)))), fun z1 => (ps_iconst pa_58_18 (Eq.refl 19) (show _ = (0 : Int32) from rfl) (ps_retZ pa_58_19 pr_58 (Or.inl rfl) (h.2.2 z1)))⟩))))))))))
theorem pa_59_0 : pz_at 59 0 = some (0, .iconst 1, 1, 0, 0, 0) := by decide +kernel
theorem pa_59_1 : pz_at 59 1 = some (1, .aload_n 0, 1, 0, 0, 0) := by decide +kernel
theorem pa_59_11 : pz_at 59 11 = some (11, .aload_n 0, 1, 0, 0, 0) := by decide +kernel
theorem pa_59_12 : pz_at 59 12 = some (12, .getfield 55, 3, 4, 0, 116) := by decide +kernel
theorem pa_59_15 : pz_at 59 15 = some (15, .iload_n 1, 1, 0, 0, 0) := by decide +kernel
theorem pa_59_16 : pz_at 59 16 = some (16, .iconst (-1), 1, 0, 0, 0) := by decide +kernel
theorem pa_59_17 : pz_at 59 17 = some (17, .if_icmp .ne 7, 3, 24, 0, 0) := by decide +kernel
theorem pa_59_2 : pz_at 59 2 = some (2, .getfield 55, 3, 4, 0, 116) := by decide +kernel
theorem pa_59_20 : pz_at 59 20 = some (20, .iload_n 2, 1, 0, 0, 0) := by decide +kernel
theorem pa_59_21 : pz_at 59 21 = some (21, .goto 11, 3, 32, 0, 0) := by decide +kernel
theorem pa_59_24 : pz_at 59 24 = some (24, .iload_n 2, 1, 0, 0, 0) := by decide +kernel
theorem pa_59_25 : pz_at 59 25 = some (25, .aload_n 0, 1, 0, 0, 0) := by decide +kernel
theorem pa_59_26 : pz_at 59 26 = some (26, .getfield 9, 3, 4, 4, 127) := by decide +kernel
theorem pa_59_29 : pz_at 59 29 = some (29, .iload_n 1, 1, 0, 0, 0) := by decide +kernel
theorem pa_59_30 : pz_at 59 30 = some (30, .iaload, 1, 0, 0, 0) := by decide +kernel
theorem pa_59_31 : pz_at 59 31 = some (31, .ior, 1, 0, 0, 0) := by decide +kernel
theorem pa_59_32 : pz_at 59 32 = some (32, .iastore, 1, 0, 0, 0) := by decide +kernel
theorem pa_59_33 : pz_at 59 33 = some (33, .aload_n 0, 1, 0, 0, 0) := by decide +kernel
theorem pa_59_34 : pz_at 59 34 = some (34, .getfield 15, 3, 4, 5, 128) := by decide +kernel
theorem pa_59_37 : pz_at 59 37 = some (37, .aload_n 0, 1, 0, 0, 0) := by decide +kernel
theorem pa_59_38 : pz_at 59 38 = some (38, .getfield 55, 3, 4, 0, 116) := by decide +kernel
theorem pa_59_41 : pz_at 59 41 = some (41, .iload_n 1, 1, 0, 0, 0) := by decide +kernel
theorem pa_59_42 : pz_at 59 42 = some (42, .iconst (-1), 1, 0, 0, 0) := by decide +kernel
theorem pa_59_43 : pz_at 59 43 = some (43, .if_icmp .ne 7, 3, 50, 0, 0) := by decide +kernel
theorem pa_59_46 : pz_at 59 46 = some (46, .iconst 0, 1, 0, 0, 0) := by decide +kernel
theorem pa_59_47 : pz_at 59 47 = some (47, .goto 9, 3, 56, 0, 0) := by decide +kernel
theorem pa_59_5 : pz_at 59 5 = some (5, .ishl, 1, 0, 0, 0) := by decide +kernel
theorem pa_59_50 : pz_at 59 50 = some (50, .aload_n 0, 1, 0, 0, 0) := by decide +kernel
theorem pa_59_51 : pz_at 59 51 = some (51, .getfield 15, 3, 4, 5, 128) := by decide +kernel
theorem pa_59_54 : pz_at 59 54 = some (54, .iload_n 1, 1, 0, 0, 0) := by decide +kernel
theorem pa_59_55 : pz_at 59 55 = some (55, .iaload, 1, 0, 0, 0) := by decide +kernel
theorem pa_59_56 : pz_at 59 56 = some (56, .iastore, 1, 0, 0, 0) := by decide +kernel
theorem pa_59_57 : pz_at 59 57 = some (57, .aload_n 0, 1, 0, 0, 0) := by decide +kernel
theorem pa_59_58 : pz_at 59 58 = some (58, .dup, 1, 0, 0, 0) := by decide +kernel
theorem pa_59_59 : pz_at 59 59 = some (59, .getfield 55, 3, 4, 0, 116) := by decide +kernel
theorem pa_59_6 : pz_at 59 6 = some (6, .istore_n 2, 1, 0, 0, 0) := by decide +kernel
theorem pa_59_62 : pz_at 59 62 = some (62, .dup_x1, 1, 0, 0, 0) := by decide +kernel
theorem pa_59_63 : pz_at 59 63 = some (63, .iconst 1, 1, 0, 0, 0) := by decide +kernel
theorem pa_59_64 : pz_at 59 64 = some (64, .iadd, 1, 0, 0, 0) := by decide +kernel
theorem pa_59_65 : pz_at 59 65 = some (65, .putfield 55, 3, 4, 0, 116) := by decide +kernel
theorem pa_59_68 : pz_at 59 68 = some (68, .ireturn, 1, 0, 0, 0) := by decide +kernel
theorem pa_59_7 : pz_at 59 7 = some (7, .aload_n 0, 1, 0, 0, 0) := by decide +kernel
theorem pa_59_8 : pz_at 59 8 = some (8, .getfield 9, 3, 4, 4, 127) := by decide +kernel
theorem pf_1_4_5 : pz_gf 1 4 5 = some (some 3) := by decide +kernel
theorem pg_3 : pz_ga 3 = some (.int, 8) := by decide +kernel
theorem pr_59 : (pz_mi 59).2.2 = (some .int) := by decide +kernel
theorem pv_59 (v1 : Int32) (σ : pz_Sg) (Post : pz_Ps) (h : ((v1 = (-1 : Int32) → pz_WP 59 (32, [some (.ref 1), some (.int v1), none], [.int ((1 : Int32) <<< ((σ.1 1 0) &&& 31)), .int (σ.1 1 0), .ref 2]) σ Post) ∧ (¬ v1 = (-1 : Int32) → (vp_in v1 8 ∧ pz_WP 59 (32, [some (.ref 1), some (.int v1), none], [.int (((1 : Int32) <<< ((σ.1 1 0) &&& 31)) ||| (σ.1 2 v1.toNatClampNeg)), .int (σ.1 1 0), .ref 2]) σ Post)))) : pz_WP 59 (0, pz_en 3 [.ref 1, .int v1], []) σ Post :=
  (ps_iconst pa_59_0 (Eq.refl 1) (show _ = (1 : Int32) from rfl) (ps_aload_n pa_59_1 (Eq.refl 2) rfl (ps_getI pa_59_2 (Eq.refl 5) pf_1_4_0 (ps_ishl pa_59_5 (Eq.refl 6) (ps_istore_n pa_59_6 (Eq.refl 7) (show _ = [some (.ref 1), some (.int v1), some (.int ((1 : Int32) <<< ((σ.1 1 0) &&& 31)))] from rfl) (ps_aload_n pa_59_7 (Eq.refl 8) rfl (ps_getR pa_59_8 (Eq.refl 11) pf_1_4_4 (ps_aload_n pa_59_11 (Eq.refl 12) rfl (ps_getI pa_59_12 (Eq.refl 15) pf_1_4_0 (ps_iload_n pa_59_15 (Eq.refl 16) rfl (ps_iconst pa_59_16 (Eq.refl 17) (show _ = (-1 : Int32) from rfl) (ps_cmp pa_59_17 (Eq.refl 20) ⟨fun z1 => (ps_iload_n pa_59_20 (Eq.refl 21) rfl (ps_goto pa_59_21 (ps_fg [true, true, false] (h.1 z1)))), fun z1 => (ps_iload_n pa_59_24 (Eq.refl 25) rfl (ps_aload_n pa_59_25 (Eq.refl 26) rfl (ps_getR pa_59_26 (Eq.refl 29) pf_1_4_4 (ps_iload_n pa_59_29 (Eq.refl 30) rfl (ps_iald pa_59_30 (Eq.refl 31) pg_2 rfl rfl (h.2 z1).1 (ps_ior pa_59_31 (Eq.refl 32) (ps_fg [true, true, false] (h.2 z1).2)))))))⟩))))))))))))
theorem pv_59_32 (v1 : Int32) (s0 : Int32) (s1 : Int32) (σ : pz_Sg) (Post : pz_Ps) (h : (vp_in s1 8 ∧ (∀ σ1 : pz_Sg, σ1 = pz_up σ 2 s1.toNatClampNeg s0 → ((v1 = (-1 : Int32) → (vp_in (σ1.1 1 0) 8 ∧ (∀ σ4 : pz_Sg, σ4 = pz_up σ1 3 (σ1.1 1 0).toNatClampNeg (0 : Int32) → (∀ σ5 : pz_Sg, σ5 = pz_up σ4 1 0 ((σ4.1 1 0) + (1 : Int32)) → Post (some (.int (σ4.1 1 0))) σ5)))) ∧ (¬ v1 = (-1 : Int32) → (vp_in v1 8 ∧ (vp_in (σ1.1 1 0) 8 ∧ (∀ σ2 : pz_Sg, σ2 = pz_up σ1 3 (σ1.1 1 0).toNatClampNeg (σ1.1 3 v1.toNatClampNeg) → (∀ σ3 : pz_Sg, σ3 = pz_up σ2 1 0 ((σ2.1 1 0) + (1 : Int32)) → Post (some (.int (σ2.1 1 0))) σ3))))))))) : pz_WP 59 (32, [some (.ref 1), some (.int v1), none], [.int s0, .int s1, .ref 2]) σ Post :=
  (ps_iast pa_59_32 (Eq.refl 33) pg_2 h.1 (ps_aload_n pa_59_33 (Eq.refl 34) rfl (ps_getR pa_59_34 (Eq.refl 37) pf_1_4_5 (ps_aload_n pa_59_37 (Eq.refl 38) rfl (ps_getI pa_59_38 (Eq.refl 41) pf_1_4_0 (ps_iload_n pa_59_41 (Eq.refl 42) rfl (ps_iconst pa_59_42 (Eq.refl 43) (show _ = (-1 : Int32) from rfl) (ps_cmp pa_59_43 (Eq.refl 46) ⟨fun z1 => (ps_iconst pa_59_46 (Eq.refl 47) (show _ = (0 : Int32) from rfl) (ps_goto pa_59_47 (ps_iast pa_59_56 (Eq.refl 57) pg_3 ((h.2 _ rfl).1 z1).1 (ps_aload_n pa_59_57 (Eq.refl 58) rfl (ps_dup pa_59_58 (Eq.refl 59) rfl (ps_getI pa_59_59 (Eq.refl 62) pf_1_4_0 (ps_dup_x1 pa_59_62 (Eq.refl 63) rfl rfl (ps_iconst pa_59_63 (Eq.refl 64) (show _ = (1 : Int32) from rfl) (ps_iadd pa_59_64 (Eq.refl 65) (ps_putI pa_59_65 (Eq.refl 68) pf_1_4_0 rfl (ps_retI pa_59_68 pr_59 ((((h.2 _ rfl).1 z1).2 _ rfl) _ rfl)))))))))))), fun z1 => (ps_aload_n pa_59_50 (Eq.refl 51) rfl (ps_getR pa_59_51 (Eq.refl 54) pf_1_4_5 (ps_iload_n pa_59_54 (Eq.refl 55) rfl (ps_iald pa_59_55 (Eq.refl 56) pg_3 rfl rfl ((h.2 _ rfl).2 z1).1 (ps_iast pa_59_56 (Eq.refl 57) pg_3 ((h.2 _ rfl).2 z1).2.1 (ps_aload_n pa_59_57 (Eq.refl 58) rfl (ps_dup pa_59_58 (Eq.refl 59) rfl (ps_getI pa_59_59 (Eq.refl 62) pf_1_4_0 (ps_dup_x1 pa_59_62 (Eq.refl 63) rfl rfl (ps_iconst pa_59_63 (Eq.refl 64) (show _ = (1 : Int32) from rfl) (ps_iadd pa_59_64 (Eq.refl 65) (ps_putI pa_59_65 (Eq.refl 68) pf_1_4_0 rfl (ps_retI pa_59_68 pr_59 ((((h.2 _ rfl).2 z1).2.2 _ rfl) _ rfl))))))))))))))⟩))))))))
theorem pa_60_0 : pz_at 60 0 = some (0, .aload_n 0, 1, 0, 0, 0) := by decide +kernel
theorem pa_60_1 : pz_at 60 1 = some (1, .getfield 18, 3, 4, 6, 130) := by decide +kernel
theorem pa_60_10 : pz_at 60 10 = some (10, .iconst 0, 1, 0, 0, 0) := by decide +kernel
theorem pa_60_11 : pz_at 60 11 = some (11, .istore_n 3, 1, 0, 0, 0) := by decide +kernel
theorem pa_60_12 : pz_at 60 12 = some (12, .iload_n 3, 1, 0, 0, 0) := by decide +kernel
theorem pa_60_13 : pz_at 60 13 = some (13, .aload_n 0, 1, 0, 0, 0) := by decide +kernel
theorem pa_60_14 : pz_at 60 14 = some (14, .getfield 55, 3, 4, 0, 116) := by decide +kernel
theorem pa_60_17 : pz_at 60 17 = some (17, .if_icmp .ge 33, 3, 50, 0, 0) := by decide +kernel
theorem pa_60_20 : pz_at 60 20 = some (20, .aload_n 0, 1, 0, 0, 0) := by decide +kernel
theorem pa_60_21 : pz_at 60 21 = some (21, .iload_n 3, 1, 0, 0, 0) := by decide +kernel
theorem pa_60_22 : pz_at 60 22 = some (22, .iload_n 1, 1, 0, 0, 0) := by decide +kernel
theorem pa_60_23 : pz_at 60 23 = some (23, .invokevirtual 68, 3, 58, 2, 482) := by decide +kernel
theorem pa_60_26 : pz_at 60 26 = some (26, .ifCond .eq 18, 3, 44, 0, 0) := by decide +kernel
theorem pa_60_29 : pz_at 60 29 = some (29, .aload_n 0, 1, 0, 0, 0) := by decide +kernel
theorem pa_60_30 : pz_at 60 30 = some (30, .getfield 15, 3, 4, 5, 128) := by decide +kernel
theorem pa_60_33 : pz_at 60 33 = some (33, .iload_n 3, 1, 0, 0, 0) := by decide +kernel
theorem pa_60_34 : pz_at 60 34 = some (34, .dup2, 1, 0, 0, 0) := by decide +kernel
theorem pa_60_35 : pz_at 60 35 = some (35, .iaload, 1, 0, 0, 0) := by decide +kernel
theorem pa_60_36 : pz_at 60 36 = some (36, .iconst 1, 1, 0, 0, 0) := by decide +kernel
theorem pa_60_37 : pz_at 60 37 = some (37, .aload_n 0, 1, 0, 0, 0) := by decide +kernel
theorem pa_60_38 : pz_at 60 38 = some (38, .getfield 65, 3, 4, 1, 119) := by decide +kernel
theorem pa_60_4 : pz_at 60 4 = some (4, .aload_n 0, 1, 0, 0, 0) := by decide +kernel
theorem pa_60_41 : pz_at 60 41 = some (41, .ishl, 1, 0, 0, 0) := by decide +kernel
theorem pa_60_42 : pz_at 60 42 = some (42, .ior, 1, 0, 0, 0) := by decide +kernel
theorem pa_60_43 : pz_at 60 43 = some (43, .iastore, 1, 0, 0, 0) := by decide +kernel
theorem pa_60_44 : pz_at 60 44 = some (44, .iinc 3 1, 3, 0, 0, 0) := by decide +kernel
theorem pa_60_47 : pz_at 60 47 = some (47, .goto (-35), 3, 12, 0, 0) := by decide +kernel
theorem pa_60_5 : pz_at 60 5 = some (5, .getfield 65, 3, 4, 1, 119) := by decide +kernel
theorem pa_60_50 : pz_at 60 50 = some (50, .aload_n 0, 1, 0, 0, 0) := by decide +kernel
theorem pa_60_51 : pz_at 60 51 = some (51, .dup, 1, 0, 0, 0) := by decide +kernel
theorem pa_60_52 : pz_at 60 52 = some (52, .getfield 65, 3, 4, 1, 119) := by decide +kernel
theorem pa_60_55 : pz_at 60 55 = some (55, .dup_x1, 1, 0, 0, 0) := by decide +kernel
theorem pa_60_56 : pz_at 60 56 = some (56, .iconst 1, 1, 0, 0, 0) := by decide +kernel
theorem pa_60_57 : pz_at 60 57 = some (57, .iadd, 1, 0, 0, 0) := by decide +kernel
theorem pa_60_58 : pz_at 60 58 = some (58, .putfield 65, 3, 4, 1, 119) := by decide +kernel
theorem pa_60_61 : pz_at 60 61 = some (61, .ireturn, 1, 0, 0, 0) := by decide +kernel
theorem pa_60_8 : pz_at 60 8 = some (8, .iload_n 2, 1, 0, 0, 0) := by decide +kernel
theorem pa_60_9 : pz_at 60 9 = some (9, .bastore, 1, 0, 0, 0) := by decide +kernel
theorem pc_1 : pz_gc 1 = some 4 := by decide +kernel
theorem pf_1_4_1 : pz_gf 1 4 1 = some none := by decide +kernel
theorem pf_1_4_6 : pz_gf 1 4 6 = some (some 4) := by decide +kernel
theorem pg_4 : pz_ga 4 = some (.boolean, 16) := by decide +kernel
theorem pm_58 : pz_mi 58 = (4, 3, (some .boolean)) := by decide +kernel
theorem pr_60 : (pz_mi 60).2.2 = (some .int) := by decide +kernel
theorem pv_60 (v1 : Int32) (v2 : Int32) (σ : pz_Sg) (Post : pz_Ps) (h : (vp_in (σ.1 1 1) 16 ∧ (v2 = 0 ∨ v2 = 1) ∧ (∀ σ1 : pz_Sg, σ1 = pz_up σ 4 (σ.1 1 1).toNatClampNeg v2 → pz_WP 60 (12, [some (.ref 1), some (.int v1), none, some (.int (0 : Int32))], []) σ1 Post))) : pz_WP 60 (0, pz_en 4 [.ref 1, .int v1, .int v2], []) σ Post :=
  (ps_aload_n pa_60_0 (Eq.refl 1) rfl (ps_getR pa_60_1 (Eq.refl 4) pf_1_4_6 (ps_aload_n pa_60_4 (Eq.refl 5) rfl (ps_getI pa_60_5 (Eq.refl 8) pf_1_4_1 (ps_iload_n pa_60_8 (Eq.refl 9) rfl (ps_zast pa_60_9 (Eq.refl 10) pg_4 h.1 h.2.1 (ps_iconst pa_60_10 (Eq.refl 11) (show _ = (0 : Int32) from rfl) (ps_istore_n pa_60_11 (Eq.refl 12) (show _ = [some (.ref 1), some (.int v1), some (.int v2), some (.int (0 : Int32))] from rfl) (ps_fg [true, true, false, true] (h.2.2 _ rfl))))))))))
theorem pv_60_12 (v1 : Int32) (v3 : Int32) (σ : pz_Sg) (Post : pz_Ps) (h : (((σ.1 1 0) ≤ v3 → (∀ σ1 : pz_Sg, σ1 = pz_up σ 1 1 ((σ.1 1 1) + (1 : Int32)) → Post (some (.int (σ.1 1 1))) σ1)) ∧ (¬ (σ.1 1 0) ≤ v3 → (∃ Q : pz_Ps, pz_WP 58 (0, pz_en 3 [.ref 1, .int v3, .int v1], []) σ Q ∧ ∀ r2 σ2, Q (some (.int r2)) σ2 → ((r2 = (0 : Int32) → pz_WP 60 (12, [some (.ref 1), some (.int v1), none, some (.int (v3 + (1 : Int32)))], []) σ2 Post) ∧ (¬ r2 = (0 : Int32) → (vp_in v3 8 ∧ (vp_in v3 8 ∧ (∀ σ3 : pz_Sg, σ3 = pz_up σ2 3 v3.toNatClampNeg ((σ2.1 3 v3.toNatClampNeg) ||| ((1 : Int32) <<< ((σ2.1 1 1) &&& 31))) → pz_WP 60 (12, [some (.ref 1), some (.int v1), none, some (.int (v3 + (1 : Int32)))], []) σ3 Post))))))))) : pz_WP 60 (12, [some (.ref 1), some (.int v1), none, some (.int v3)], []) σ Post :=
  (ps_iload_n pa_60_12 (Eq.refl 13) rfl (ps_aload_n pa_60_13 (Eq.refl 14) rfl (ps_getI pa_60_14 (Eq.refl 17) pf_1_4_0 (ps_cmp pa_60_17 (Eq.refl 20) ⟨fun z3 => (ps_aload_n pa_60_50 (Eq.refl 51) rfl (ps_dup pa_60_51 (Eq.refl 52) rfl (ps_getI pa_60_52 (Eq.refl 55) pf_1_4_1 (ps_dup_x1 pa_60_55 (Eq.refl 56) rfl rfl (ps_iconst pa_60_56 (Eq.refl 57) (show _ = (1 : Int32) from rfl) (ps_iadd pa_60_57 (Eq.refl 58) (ps_putI pa_60_58 (Eq.refl 61) pf_1_4_1 rfl (ps_retI pa_60_61 pr_60 ((h.1 z3) _ rfl))))))))), fun z3 => (ps_aload_n pa_60_20 (Eq.refl 21) rfl (ps_iload_n pa_60_21 (Eq.refl 22) rfl (ps_iload_n pa_60_22 (Eq.refl 23) rfl (ps_cVi (As := [.int v3, .int v1]) (r := []) pa_60_23 (Eq.refl 26) pm_58 rfl pc_1 rfl rfl (Nat.le_of_ble_eq_true rfl) (Nat.le_of_ble_eq_true rfl) (Exists.imp (fun Q z1 => ⟨z1.1, fun z1a z1b z1c => (ps_if pa_60_26 (Eq.refl 29) ⟨fun z2 => (ps_iinc pa_60_44 (Eq.refl 47) rfl (show _ = (1 : Int32) from rfl) (show _ = [some (.ref 1), some (.int v1), none, some (.int (v3 + (1 : Int32)))] from rfl) (ps_goto pa_60_47 ((z1.2 z1a z1b z1c).1 z2))), fun z2 => (ps_aload_n pa_60_29 (Eq.refl 30) rfl (ps_getR pa_60_30 (Eq.refl 33) pf_1_4_5 (ps_iload_n pa_60_33 (Eq.refl 34) rfl (ps_dup2 pa_60_34 (Eq.refl 35) rfl rfl (ps_iald pa_60_35 (Eq.refl 36) pg_3 rfl rfl ((z1.2 z1a z1b z1c).2 z2).1 (ps_iconst pa_60_36 (Eq.refl 37) (show _ = (1 : Int32) from rfl) (ps_aload_n pa_60_37 (Eq.refl 38) rfl (ps_getI pa_60_38 (Eq.refl 41) pf_1_4_1 (ps_ishl pa_60_41 (Eq.refl 42) (ps_ior pa_60_42 (Eq.refl 43) (ps_iast pa_60_43 (Eq.refl 44) pg_3 ((z1.2 z1a z1b z1c).2 z2).2.1 (ps_iinc pa_60_44 (Eq.refl 47) rfl (show _ = (1 : Int32) from rfl) (show _ = [some (.ref 1), some (.int v1), none, some (.int (v3 + (1 : Int32)))] from rfl) (ps_goto pa_60_47 (((z1.2 z1a z1b z1c).2 z2).2.2 _ rfl))))))))))))))⟩)⟩) (h.2 z3))))))⟩))))
theorem pa_61_0 : pz_at 61 0 = some (0, .aload_n 0, 1, 0, 0, 0) := by decide +kernel
theorem pa_61_1 : pz_at 61 1 = some (1, .getfield 22, 3, 4, 7, 132) := by decide +kernel
theorem pa_61_10 : pz_at 61 10 = some (10, .aload_n 0, 1, 0, 0, 0) := by decide +kernel
theorem pa_61_11 : pz_at 61 11 = some (11, .dup, 1, 0, 0, 0) := by decide +kernel
theorem pa_61_12 : pz_at 61 12 = some (12, .getfield 59, 3, 4, 2, 121) := by decide +kernel
theorem pa_61_15 : pz_at 61 15 = some (15, .dup_x1, 1, 0, 0, 0) := by decide +kernel
theorem pa_61_16 : pz_at 61 16 = some (16, .iconst 1, 1, 0, 0, 0) := by decide +kernel
theorem pa_61_17 : pz_at 61 17 = some (17, .iadd, 1, 0, 0, 0) := by decide +kernel
theorem pa_61_18 : pz_at 61 18 = some (18, .putfield 59, 3, 4, 2, 121) := by decide +kernel
theorem pa_61_21 : pz_at 61 21 = some (21, .ireturn, 1, 0, 0, 0) := by decide +kernel
theorem pa_61_4 : pz_at 61 4 = some (4, .aload_n 0, 1, 0, 0, 0) := by decide +kernel
theorem pa_61_5 : pz_at 61 5 = some (5, .getfield 59, 3, 4, 2, 121) := by decide +kernel
theorem pa_61_8 : pz_at 61 8 = some (8, .iload_n 1, 1, 0, 0, 0) := by decide +kernel
theorem pa_61_9 : pz_at 61 9 = some (9, .bastore, 1, 0, 0, 0) := by decide +kernel
theorem pf_1_4_7 : pz_gf 1 4 7 = some (some 5) := by decide +kernel
theorem pg_5 : pz_ga 5 = some (.boolean, 8) := by decide +kernel
theorem pr_61 : (pz_mi 61).2.2 = (some .int) := by decide +kernel
theorem pv_61 (v1 : Int32) (σ : pz_Sg) (Post : pz_Ps) (h : (vp_in (σ.1 1 2) 8 ∧ (v1 = 0 ∨ v1 = 1) ∧ (∀ σ1 : pz_Sg, σ1 = pz_up σ 5 (σ.1 1 2).toNatClampNeg v1 → (∀ σ2 : pz_Sg, σ2 = pz_up σ1 1 2 ((σ1.1 1 2) + (1 : Int32)) → Post (some (.int (σ1.1 1 2))) σ2)))) : pz_WP 61 (0, pz_en 2 [.ref 1, .int v1], []) σ Post :=
  (ps_aload_n pa_61_0 (Eq.refl 1) rfl (ps_getR pa_61_1 (Eq.refl 4) pf_1_4_7 (ps_aload_n pa_61_4 (Eq.refl 5) rfl (ps_getI pa_61_5 (Eq.refl 8) pf_1_4_2 (ps_iload_n pa_61_8 (Eq.refl 9) rfl (ps_zast pa_61_9 (Eq.refl 10) pg_5 h.1 h.2.1 (ps_aload_n pa_61_10 (Eq.refl 11) rfl (ps_dup pa_61_11 (Eq.refl 12) rfl (ps_getI pa_61_12 (Eq.refl 15) pf_1_4_2 (ps_dup_x1 pa_61_15 (Eq.refl 16) rfl rfl (ps_iconst pa_61_16 (Eq.refl 17) (show _ = (1 : Int32) from rfl) (ps_iadd pa_61_17 (Eq.refl 18) (ps_putI pa_61_18 (Eq.refl 21) pf_1_4_2 rfl (ps_retI pa_61_21 pr_61 ((h.2.2 _ rfl) _ rfl)))))))))))))))
theorem pa_62_0 : pz_at 62 0 = some (0, .aload_n 0, 1, 0, 0, 0) := by decide +kernel
theorem pa_62_1 : pz_at 62 1 = some (1, .getfield 25, 3, 4, 8, 135) := by decide +kernel
theorem pa_62_10 : pz_at 62 10 = some (10, .aload_n 0, 1, 0, 0, 0) := by decide +kernel
theorem pa_62_11 : pz_at 62 11 = some (11, .getfield 28, 3, 4, 9, 137) := by decide +kernel
theorem pa_62_14 : pz_at 62 14 = some (14, .aload_n 0, 1, 0, 0, 0) := by decide +kernel
theorem pa_62_15 : pz_at 62 15 = some (15, .getfield 62, 3, 4, 3, 124) := by decide +kernel
theorem pa_62_18 : pz_at 62 18 = some (18, .iload_n 2, 1, 0, 0, 0) := by decide +kernel
theorem pa_62_19 : pz_at 62 19 = some (19, .iastore, 1, 0, 0, 0) := by decide +kernel
theorem pa_62_20 : pz_at 62 20 = some (20, .aload_n 0, 1, 0, 0, 0) := by decide +kernel
theorem pa_62_21 : pz_at 62 21 = some (21, .getfield 31, 3, 4, 10, 140) := by decide +kernel
theorem pa_62_24 : pz_at 62 24 = some (24, .aload_n 0, 1, 0, 0, 0) := by decide +kernel
theorem pa_62_25 : pz_at 62 25 = some (25, .getfield 62, 3, 4, 3, 124) := by decide +kernel
theorem pa_62_28 : pz_at 62 28 = some (28, .iload_n 3, 1, 0, 0, 0) := by decide +kernel
theorem pa_62_29 : pz_at 62 29 = some (29, .iastore, 1, 0, 0, 0) := by decide +kernel
theorem pa_62_30 : pz_at 62 30 = some (30, .aload_n 0, 1, 0, 0, 0) := by decide +kernel
theorem pa_62_31 : pz_at 62 31 = some (31, .dup, 1, 0, 0, 0) := by decide +kernel
theorem pa_62_32 : pz_at 62 32 = some (32, .getfield 62, 3, 4, 3, 124) := by decide +kernel
theorem pa_62_35 : pz_at 62 35 = some (35, .dup_x1, 1, 0, 0, 0) := by decide +kernel
theorem pa_62_36 : pz_at 62 36 = some (36, .iconst 1, 1, 0, 0, 0) := by decide +kernel
theorem pa_62_37 : pz_at 62 37 = some (37, .iadd, 1, 0, 0, 0) := by decide +kernel
theorem pa_62_38 : pz_at 62 38 = some (38, .putfield 62, 3, 4, 3, 124) := by decide +kernel
theorem pa_62_4 : pz_at 62 4 = some (4, .aload_n 0, 1, 0, 0, 0) := by decide +kernel
theorem pa_62_41 : pz_at 62 41 = some (41, .ireturn, 1, 0, 0, 0) := by decide +kernel
theorem pa_62_5 : pz_at 62 5 = some (5, .getfield 62, 3, 4, 3, 124) := by decide +kernel
theorem pa_62_8 : pz_at 62 8 = some (8, .iload_n 1, 1, 0, 0, 0) := by decide +kernel
theorem pa_62_9 : pz_at 62 9 = some (9, .iastore, 1, 0, 0, 0) := by decide +kernel
theorem pf_1_4_10 : pz_gf 1 4 10 = some (some 8) := by decide +kernel
theorem pf_1_4_8 : pz_gf 1 4 8 = some (some 6) := by decide +kernel
theorem pf_1_4_9 : pz_gf 1 4 9 = some (some 7) := by decide +kernel
theorem pg_6 : pz_ga 6 = some (.int, 10) := by decide +kernel
theorem pg_7 : pz_ga 7 = some (.int, 10) := by decide +kernel
theorem pg_8 : pz_ga 8 = some (.int, 10) := by decide +kernel
theorem pr_62 : (pz_mi 62).2.2 = (some .int) := by decide +kernel
theorem pv_62 (v1 : Int32) (v2 : Int32) (v3 : Int32) (σ : pz_Sg) (Post : pz_Ps) (h : (vp_in (σ.1 1 3) 10 ∧ (∀ σ1 : pz_Sg, σ1 = pz_up σ 6 (σ.1 1 3).toNatClampNeg v1 → (vp_in (σ1.1 1 3) 10 ∧ (∀ σ2 : pz_Sg, σ2 = pz_up σ1 7 (σ1.1 1 3).toNatClampNeg v2 → (vp_in (σ2.1 1 3) 10 ∧ (∀ σ3 : pz_Sg, σ3 = pz_up σ2 8 (σ2.1 1 3).toNatClampNeg v3 → (∀ σ4 : pz_Sg, σ4 = pz_up σ3 1 3 ((σ3.1 1 3) + (1 : Int32)) → Post (some (.int (σ3.1 1 3))) σ4)))))))) : pz_WP 62 (0, pz_en 4 [.ref 1, .int v1, .int v2, .int v3], []) σ Post :=
  (ps_aload_n pa_62_0 (Eq.refl 1) rfl (ps_getR pa_62_1 (Eq.refl 4) pf_1_4_8 (ps_aload_n pa_62_4 (Eq.refl 5) rfl (ps_getI pa_62_5 (Eq.refl 8) pf_1_4_3 (ps_iload_n pa_62_8 (Eq.refl 9) rfl (ps_iast pa_62_9 (Eq.refl 10) pg_6 h.1 (ps_aload_n pa_62_10 (Eq.refl 11) rfl (ps_getR pa_62_11 (Eq.refl 14) pf_1_4_9 (ps_aload_n pa_62_14 (Eq.refl 15) rfl (ps_getI pa_62_15 (Eq.refl 18) pf_1_4_3 (ps_iload_n pa_62_18 (Eq.refl 19) rfl (ps_iast pa_62_19 (Eq.refl 20) pg_7 (h.2 _ rfl).1 (ps_aload_n pa_62_20 (Eq.refl 21) rfl (ps_getR pa_62_21 (Eq.refl 24) pf_1_4_10 (ps_aload_n pa_62_24 (Eq.refl 25) rfl (ps_getI pa_62_25 (Eq.refl 28) pf_1_4_3 (ps_iload_n pa_62_28 (Eq.refl 29) rfl (ps_iast pa_62_29 (Eq.refl 30) pg_8 ((h.2 _ rfl).2 _ rfl).1 (ps_aload_n pa_62_30 (Eq.refl 31) rfl (ps_dup pa_62_31 (Eq.refl 32) rfl (ps_getI pa_62_32 (Eq.refl 35) pf_1_4_3 (ps_dup_x1 pa_62_35 (Eq.refl 36) rfl rfl (ps_iconst pa_62_36 (Eq.refl 37) (show _ = (1 : Int32) from rfl) (ps_iadd pa_62_37 (Eq.refl 38) (ps_putI pa_62_38 (Eq.refl 41) pf_1_4_3 rfl (ps_retI pa_62_41 pr_62 ((((h.2 _ rfl).2 _ rfl).2 _ rfl) _ rfl)))))))))))))))))))))))))))
theorem pa_63_0 : pz_at 63 0 = some (0, .iload_n 1, 1, 0, 0, 0) := by decide +kernel
theorem pa_63_1 : pz_at 63 1 = some (1, .bipush 24, 2, 0, 0, 0) := by decide +kernel
theorem pa_63_10 : pz_at 63 10 = some (10, .iadd, 1, 0, 0, 0) := by decide +kernel
theorem pa_63_11 : pz_at 63 11 = some (11, .istore 6, 2, 0, 0, 0) := by decide +kernel
theorem pa_63_13 : pz_at 63 13 = some (13, .aload_n 0, 1, 0, 0, 0) := by decide +kernel
theorem pa_63_14 : pz_at 63 14 = some (14, .getfield 37, 3, 4, 12, 148) := by decide +kernel
theorem pa_63_17 : pz_at 63 17 = some (17, .iload 6, 2, 0, 0, 0) := by decide +kernel
theorem pa_63_19 : pz_at 63 19 = some (19, .iload_n 2, 1, 0, 0, 0) := by decide +kernel
theorem pa_63_20 : pz_at 63 20 = some (20, .iastore, 1, 0, 0, 0) := by decide +kernel
theorem pa_63_21 : pz_at 63 21 = some (21, .aload_n 0, 1, 0, 0, 0) := by decide +kernel
theorem pa_63_22 : pz_at 63 22 = some (22, .getfield 40, 3, 4, 13, 151) := by decide +kernel
theorem pa_63_25 : pz_at 63 25 = some (25, .iload 6, 2, 0, 0, 0) := by decide +kernel
theorem pa_63_27 : pz_at 63 27 = some (27, .iload_n 3, 1, 0, 0, 0) := by decide +kernel
theorem pa_63_28 : pz_at 63 28 = some (28, .iastore, 1, 0, 0, 0) := by decide +kernel
theorem pa_63_29 : pz_at 63 29 = some (29, .aload_n 0, 1, 0, 0, 0) := by decide +kernel
theorem pa_63_3 : pz_at 63 3 = some (3, .imul, 1, 0, 0, 0) := by decide +kernel
theorem pa_63_30 : pz_at 63 30 = some (30, .getfield 43, 3, 4, 14, 154) := by decide +kernel
theorem pa_63_33 : pz_at 63 33 = some (33, .iload 6, 2, 0, 0, 0) := by decide +kernel
theorem pa_63_35 : pz_at 63 35 = some (35, .iload 4, 2, 0, 0, 0) := by decide +kernel
theorem pa_63_37 : pz_at 63 37 = some (37, .iastore, 1, 0, 0, 0) := by decide +kernel
theorem pa_63_38 : pz_at 63 38 = some (38, .aload_n 0, 1, 0, 0, 0) := by decide +kernel
theorem pa_63_39 : pz_at 63 39 = some (39, .getfield 46, 3, 4, 15, 157) := by decide +kernel
theorem pa_63_4 : pz_at 63 4 = some (4, .aload_n 0, 1, 0, 0, 0) := by decide +kernel
theorem pa_63_42 : pz_at 63 42 = some (42, .iload 6, 2, 0, 0, 0) := by decide +kernel
theorem pa_63_44 : pz_at 63 44 = some (44, .iload 5, 2, 0, 0, 0) := by decide +kernel
theorem pa_63_46 : pz_at 63 46 = some (46, .iastore, 1, 0, 0, 0) := by decide +kernel
theorem pa_63_47 : pz_at 63 47 = some (47, .aload_n 0, 1, 0, 0, 0) := by decide +kernel
theorem pa_63_48 : pz_at 63 48 = some (48, .getfield 34, 3, 4, 11, 144) := by decide +kernel
theorem pa_63_5 : pz_at 63 5 = some (5, .getfield 34, 3, 4, 11, 144) := by decide +kernel
theorem pa_63_51 : pz_at 63 51 = some (51, .iload_n 1, 1, 0, 0, 0) := by decide +kernel
theorem pa_63_52 : pz_at 63 52 = some (52, .dup2, 1, 0, 0, 0) := by decide +kernel
theorem pa_63_53 : pz_at 63 53 = some (53, .iaload, 1, 0, 0, 0) := by decide +kernel
theorem pa_63_54 : pz_at 63 54 = some (54, .dup_x2, 1, 0, 0, 0) := by decide +kernel
theorem pa_63_55 : pz_at 63 55 = some (55, .iconst 1, 1, 0, 0, 0) := by decide +kernel
theorem pa_63_56 : pz_at 63 56 = some (56, .iadd, 1, 0, 0, 0) := by decide +kernel
theorem pa_63_57 : pz_at 63 57 = some (57, .iastore, 1, 0, 0, 0) := by decide +kernel
theorem pa_63_58 : pz_at 63 58 = some (58, .ireturn, 1, 0, 0, 0) := by decide +kernel
theorem pa_63_8 : pz_at 63 8 = some (8, .iload_n 1, 1, 0, 0, 0) := by decide +kernel
theorem pa_63_9 : pz_at 63 9 = some (9, .iaload, 1, 0, 0, 0) := by decide +kernel
theorem pf_1_4_11 : pz_gf 1 4 11 = some (some 9) := by decide +kernel
theorem pf_1_4_12 : pz_gf 1 4 12 = some (some 10) := by decide +kernel
theorem pf_1_4_13 : pz_gf 1 4 13 = some (some 11) := by decide +kernel
theorem pf_1_4_14 : pz_gf 1 4 14 = some (some 12) := by decide +kernel
theorem pf_1_4_15 : pz_gf 1 4 15 = some (some 13) := by decide +kernel
theorem pg_10 : pz_ga 10 = some (.int, 240) := by decide +kernel
theorem pg_11 : pz_ga 11 = some (.int, 240) := by decide +kernel
theorem pg_12 : pz_ga 12 = some (.int, 240) := by decide +kernel
theorem pg_13 : pz_ga 13 = some (.int, 240) := by decide +kernel
theorem pg_9 : pz_ga 9 = some (.int, 10) := by decide +kernel
theorem pr_63 : (pz_mi 63).2.2 = (some .int) := by decide +kernel
theorem pv_63 (v1 : Int32) (v2 : Int32) (v3 : Int32) (v4 : Int32) (v5 : Int32) (σ : pz_Sg) (Post : pz_Ps) (h : (vp_in v1 10 ∧ (vp_in ((v1 * (nI 24)) + (σ.1 9 v1.toNatClampNeg)) 240 ∧ (∀ σ1 : pz_Sg, σ1 = pz_up σ 10 ((v1 * (nI 24)) + (σ.1 9 v1.toNatClampNeg)).toNatClampNeg v2 → (vp_in ((v1 * (nI 24)) + (σ.1 9 v1.toNatClampNeg)) 240 ∧ (∀ σ2 : pz_Sg, σ2 = pz_up σ1 11 ((v1 * (nI 24)) + (σ.1 9 v1.toNatClampNeg)).toNatClampNeg v3 → (vp_in ((v1 * (nI 24)) + (σ.1 9 v1.toNatClampNeg)) 240 ∧ (∀ σ3 : pz_Sg, σ3 = pz_up σ2 12 ((v1 * (nI 24)) + (σ.1 9 v1.toNatClampNeg)).toNatClampNeg v4 → (vp_in ((v1 * (nI 24)) + (σ.1 9 v1.toNatClampNeg)) 240 ∧ (∀ σ4 : pz_Sg, σ4 = pz_up σ3 13 ((v1 * (nI 24)) + (σ.1 9 v1.toNatClampNeg)).toNatClampNeg v5 → (vp_in v1 10 ∧ (vp_in v1 10 ∧ (∀ σ5 : pz_Sg, σ5 = pz_up σ4 9 v1.toNatClampNeg ((σ4.1 9 v1.toNatClampNeg) + (1 : Int32)) → Post (some (.int (σ4.1 9 v1.toNatClampNeg))) σ5))))))))))))) : pz_WP 63 (0, pz_en 7 [.ref 1, .int v1, .int v2, .int v3, .int v4, .int v5], []) σ Post :=
  (ps_iload_n pa_63_0 (Eq.refl 1) rfl (ps_bipush pa_63_1 (Eq.refl 3) (show _ = (nI 24) from rfl) (ps_imul pa_63_3 (Eq.refl 4) (ps_aload_n pa_63_4 (Eq.refl 5) rfl (ps_getR pa_63_5 (Eq.refl 8) pf_1_4_11 (ps_iload_n pa_63_8 (Eq.refl 9) rfl (ps_iald pa_63_9 (Eq.refl 10) pg_9 rfl rfl h.1 (ps_iadd pa_63_10 (Eq.refl 11) (ps_istore pa_63_11 (Eq.refl 13) (show _ = [some (.ref 1), some (.int v1), some (.int v2), some (.int v3), some (.int v4), some (.int v5), some (.int ((v1 * (nI 24)) + (σ.1 9 v1.toNatClampNeg)))] from rfl) (ps_aload_n pa_63_13 (Eq.refl 14) rfl (ps_getR pa_63_14 (Eq.refl 17) pf_1_4_12 (ps_iload pa_63_17 (Eq.refl 19) rfl (ps_iload_n pa_63_19 (Eq.refl 20) rfl (ps_iast pa_63_20 (Eq.refl 21) pg_10 h.2.1 (ps_aload_n pa_63_21 (Eq.refl 22) rfl (ps_getR pa_63_22 (Eq.refl 25) pf_1_4_13 (ps_iload pa_63_25 (Eq.refl 27) rfl (ps_iload_n pa_63_27 (Eq.refl 28) rfl (ps_iast pa_63_28 (Eq.refl 29) pg_11 (h.2.2 _ rfl).1 (ps_aload_n pa_63_29 (Eq.refl 30) rfl (ps_getR pa_63_30 (Eq.refl 33) pf_1_4_14 (ps_iload pa_63_33 (Eq.refl 35) rfl (ps_iload pa_63_35 (Eq.refl 37) rfl (ps_iast pa_63_37 (Eq.refl 38) pg_12 ((h.2.2 _ rfl).2 _ rfl).1 (ps_aload_n pa_63_38 (Eq.refl 39) rfl (ps_getR pa_63_39 (Eq.refl 42) pf_1_4_15 (ps_iload pa_63_42 (Eq.refl 44) rfl (ps_iload pa_63_44 (Eq.refl 46) rfl (ps_iast pa_63_46 (Eq.refl 47) pg_13 (((h.2.2 _ rfl).2 _ rfl).2 _ rfl).1 (ps_aload_n pa_63_47 (Eq.refl 48) rfl (ps_getR pa_63_48 (Eq.refl 51) pf_1_4_11 (ps_iload_n pa_63_51 (Eq.refl 52) rfl (ps_dup2 pa_63_52 (Eq.refl 53) rfl rfl (ps_iald pa_63_53 (Eq.refl 54) pg_9 rfl rfl ((((h.2.2 _ rfl).2 _ rfl).2 _ rfl).2 _ rfl).1 (ps_dup_x2 pa_63_54 (Eq.refl 55) rfl rfl rfl (ps_iconst pa_63_55 (Eq.refl 56) (show _ = (1 : Int32) from rfl) (ps_iadd pa_63_56 (Eq.refl 57) (ps_iast pa_63_57 (Eq.refl 58) pg_9 ((((h.2.2 _ rfl).2 _ rfl).2 _ rfl).2 _ rfl).2.1 (ps_retI pa_63_58 pr_63 (((((h.2.2 _ rfl).2 _ rfl).2 _ rfl).2 _ rfl).2.2 _ rfl))))))))))))))))))))))))))))))))))))))))
theorem pa_64_0 : pz_at 64 0 = some (0, .iload_n 1, 1, 0, 0, 0) := by decide +kernel
theorem pa_64_1 : pz_at 64 1 = some (1, .iconst 4, 1, 0, 0, 0) := by decide +kernel
theorem pa_64_10 : pz_at 64 10 = some (10, .iconst 4, 1, 0, 0, 0) := by decide +kernel
theorem pa_64_11 : pz_at 64 11 = some (11, .imul, 1, 0, 0, 0) := by decide +kernel
theorem pa_64_12 : pz_at 64 12 = some (12, .istore 6, 2, 0, 0, 0) := by decide +kernel
theorem pa_64_14 : pz_at 64 14 = some (14, .aload_n 0, 1, 0, 0, 0) := by decide +kernel
theorem pa_64_15 : pz_at 64 15 = some (15, .getfield 52, 3, 4, 17, 162) := by decide +kernel
theorem pa_64_18 : pz_at 64 18 = some (18, .iload 6, 2, 0, 0, 0) := by decide +kernel
theorem pa_64_2 : pz_at 64 2 = some (2, .imul, 1, 0, 0, 0) := by decide +kernel
theorem pa_64_20 : pz_at 64 20 = some (20, .iload_n 2, 1, 0, 0, 0) := by decide +kernel
theorem pa_64_21 : pz_at 64 21 = some (21, .iastore, 1, 0, 0, 0) := by decide +kernel
theorem pa_64_22 : pz_at 64 22 = some (22, .aload_n 0, 1, 0, 0, 0) := by decide +kernel
theorem pa_64_23 : pz_at 64 23 = some (23, .getfield 52, 3, 4, 17, 162) := by decide +kernel
theorem pa_64_26 : pz_at 64 26 = some (26, .iload 6, 2, 0, 0, 0) := by decide +kernel
theorem pa_64_28 : pz_at 64 28 = some (28, .iconst 1, 1, 0, 0, 0) := by decide +kernel
theorem pa_64_29 : pz_at 64 29 = some (29, .iadd, 1, 0, 0, 0) := by decide +kernel
theorem pa_64_3 : pz_at 64 3 = some (3, .aload_n 0, 1, 0, 0, 0) := by decide +kernel
theorem pa_64_30 : pz_at 64 30 = some (30, .iload_n 3, 1, 0, 0, 0) := by decide +kernel
theorem pa_64_31 : pz_at 64 31 = some (31, .iastore, 1, 0, 0, 0) := by decide +kernel
theorem pa_64_32 : pz_at 64 32 = some (32, .aload_n 0, 1, 0, 0, 0) := by decide +kernel
theorem pa_64_33 : pz_at 64 33 = some (33, .getfield 52, 3, 4, 17, 162) := by decide +kernel
theorem pa_64_36 : pz_at 64 36 = some (36, .iload 6, 2, 0, 0, 0) := by decide +kernel
theorem pa_64_38 : pz_at 64 38 = some (38, .iconst 2, 1, 0, 0, 0) := by decide +kernel
theorem pa_64_39 : pz_at 64 39 = some (39, .iadd, 1, 0, 0, 0) := by decide +kernel
theorem pa_64_4 : pz_at 64 4 = some (4, .getfield 49, 3, 4, 16, 160) := by decide +kernel
theorem pa_64_40 : pz_at 64 40 = some (40, .iload 4, 2, 0, 0, 0) := by decide +kernel
theorem pa_64_42 : pz_at 64 42 = some (42, .iastore, 1, 0, 0, 0) := by decide +kernel
theorem pa_64_43 : pz_at 64 43 = some (43, .aload_n 0, 1, 0, 0, 0) := by decide +kernel
theorem pa_64_44 : pz_at 64 44 = some (44, .getfield 52, 3, 4, 17, 162) := by decide +kernel
theorem pa_64_47 : pz_at 64 47 = some (47, .iload 6, 2, 0, 0, 0) := by decide +kernel
theorem pa_64_49 : pz_at 64 49 = some (49, .iconst 3, 1, 0, 0, 0) := by decide +kernel
theorem pa_64_50 : pz_at 64 50 = some (50, .iadd, 1, 0, 0, 0) := by decide +kernel
theorem pa_64_51 : pz_at 64 51 = some (51, .iload 5, 2, 0, 0, 0) := by decide +kernel
theorem pa_64_53 : pz_at 64 53 = some (53, .iastore, 1, 0, 0, 0) := by decide +kernel
theorem pa_64_54 : pz_at 64 54 = some (54, .aload_n 0, 1, 0, 0, 0) := by decide +kernel
theorem pa_64_55 : pz_at 64 55 = some (55, .getfield 49, 3, 4, 16, 160) := by decide +kernel
theorem pa_64_58 : pz_at 64 58 = some (58, .iload_n 1, 1, 0, 0, 0) := by decide +kernel
theorem pa_64_59 : pz_at 64 59 = some (59, .dup2, 1, 0, 0, 0) := by decide +kernel
theorem pa_64_60 : pz_at 64 60 = some (60, .iaload, 1, 0, 0, 0) := by decide +kernel
theorem pa_64_61 : pz_at 64 61 = some (61, .dup_x2, 1, 0, 0, 0) := by decide +kernel
theorem pa_64_62 : pz_at 64 62 = some (62, .iconst 1, 1, 0, 0, 0) := by decide +kernel
theorem pa_64_63 : pz_at 64 63 = some (63, .iadd, 1, 0, 0, 0) := by decide +kernel
theorem pa_64_64 : pz_at 64 64 = some (64, .iastore, 1, 0, 0, 0) := by decide +kernel
theorem pa_64_65 : pz_at 64 65 = some (65, .ireturn, 1, 0, 0, 0) := by decide +kernel
theorem pa_64_7 : pz_at 64 7 = some (7, .iload_n 1, 1, 0, 0, 0) := by decide +kernel
theorem pa_64_8 : pz_at 64 8 = some (8, .iaload, 1, 0, 0, 0) := by decide +kernel
theorem pa_64_9 : pz_at 64 9 = some (9, .iadd, 1, 0, 0, 0) := by decide +kernel
theorem pf_1_4_16 : pz_gf 1 4 16 = some (some 14) := by decide +kernel
theorem pf_1_4_17 : pz_gf 1 4 17 = some (some 15) := by decide +kernel
theorem pg_14 : pz_ga 14 = some (.int, 10) := by decide +kernel
theorem pg_15 : pz_ga 15 = some (.int, 160) := by decide +kernel
theorem pr_64 : (pz_mi 64).2.2 = (some .int) := by decide +kernel
theorem pv_64 (v1 : Int32) (v2 : Int32) (v3 : Int32) (v4 : Int32) (v5 : Int32) (σ : pz_Sg) (Post : pz_Ps) (h : (vp_in v1 10 ∧ (vp_in (((v1 * (nI 4)) + (σ.1 14 v1.toNatClampNeg)) * (nI 4)) 160 ∧ (∀ σ1 : pz_Sg, σ1 = pz_up σ 15 (((v1 * (nI 4)) + (σ.1 14 v1.toNatClampNeg)) * (nI 4)).toNatClampNeg v2 → (vp_in ((((v1 * (nI 4)) + (σ.1 14 v1.toNatClampNeg)) * (nI 4)) + (1 : Int32)) 160 ∧ (∀ σ2 : pz_Sg, σ2 = pz_up σ1 15 ((((v1 * (nI 4)) + (σ.1 14 v1.toNatClampNeg)) * (nI 4)) + (1 : Int32)).toNatClampNeg v3 → (vp_in ((((v1 * (nI 4)) + (σ.1 14 v1.toNatClampNeg)) * (nI 4)) + (nI 2)) 160 ∧ (∀ σ3 : pz_Sg, σ3 = pz_up σ2 15 ((((v1 * (nI 4)) + (σ.1 14 v1.toNatClampNeg)) * (nI 4)) + (nI 2)).toNatClampNeg v4 → (vp_in ((((v1 * (nI 4)) + (σ.1 14 v1.toNatClampNeg)) * (nI 4)) + (nI 3)) 160 ∧ (∀ σ4 : pz_Sg, σ4 = pz_up σ3 15 ((((v1 * (nI 4)) + (σ.1 14 v1.toNatClampNeg)) * (nI 4)) + (nI 3)).toNatClampNeg v5 → (vp_in v1 10 ∧ (vp_in v1 10 ∧ (∀ σ5 : pz_Sg, σ5 = pz_up σ4 14 v1.toNatClampNeg ((σ4.1 14 v1.toNatClampNeg) + (1 : Int32)) → Post (some (.int (σ4.1 14 v1.toNatClampNeg))) σ5))))))))))))) : pz_WP 64 (0, pz_en 7 [.ref 1, .int v1, .int v2, .int v3, .int v4, .int v5], []) σ Post :=
  (ps_iload_n pa_64_0 (Eq.refl 1) rfl (ps_iconst pa_64_1 (Eq.refl 2) (show _ = (nI 4) from rfl) (ps_imul pa_64_2 (Eq.refl 3) (ps_aload_n pa_64_3 (Eq.refl 4) rfl (ps_getR pa_64_4 (Eq.refl 7) pf_1_4_16 (ps_iload_n pa_64_7 (Eq.refl 8) rfl (ps_iald pa_64_8 (Eq.refl 9) pg_14 rfl rfl h.1 (ps_iadd pa_64_9 (Eq.refl 10) (ps_iconst pa_64_10 (Eq.refl 11) (show _ = (nI 4) from rfl) (ps_imul pa_64_11 (Eq.refl 12) (ps_istore pa_64_12 (Eq.refl 14) (show _ = [some (.ref 1), some (.int v1), some (.int v2), some (.int v3), some (.int v4), some (.int v5), some (.int (((v1 * (nI 4)) + (σ.1 14 v1.toNatClampNeg)) * (nI 4)))] from rfl) (ps_aload_n pa_64_14 (Eq.refl 15) rfl (ps_getR pa_64_15 (Eq.refl 18) pf_1_4_17 (ps_iload pa_64_18 (Eq.refl 20) rfl (ps_iload_n pa_64_20 (Eq.refl 21) rfl (ps_iast pa_64_21 (Eq.refl 22) pg_15 h.2.1 (ps_aload_n pa_64_22 (Eq.refl 23) rfl (ps_getR pa_64_23 (Eq.refl 26) pf_1_4_17 (ps_iload pa_64_26 (Eq.refl 28) rfl (ps_iconst pa_64_28 (Eq.refl 29) (show _ = (1 : Int32) from rfl) (ps_iadd pa_64_29 (Eq.refl 30) (ps_iload_n pa_64_30 (Eq.refl 31) rfl (ps_iast pa_64_31 (Eq.refl 32) pg_15 (h.2.2 _ rfl).1 (ps_aload_n pa_64_32 (Eq.refl 33) rfl (ps_getR pa_64_33 (Eq.refl 36) pf_1_4_17 (ps_iload pa_64_36 (Eq.refl 38) rfl (ps_iconst pa_64_38 (Eq.refl 39) (show _ = (nI 2) from rfl) (ps_iadd pa_64_39 (Eq.refl 40) (ps_iload pa_64_40 (Eq.refl 42) rfl (ps_iast pa_64_42 (Eq.refl 43) pg_15 ((h.2.2 _ rfl).2 _ rfl).1 (ps_aload_n pa_64_43 (Eq.refl 44) rfl (ps_getR pa_64_44 (Eq.refl 47) pf_1_4_17 (ps_iload pa_64_47 (Eq.refl 49) rfl (ps_iconst pa_64_49 (Eq.refl 50) (show _ = (nI 3) from rfl) (ps_iadd pa_64_50 (Eq.refl 51) (ps_iload pa_64_51 (Eq.refl 53) rfl (ps_iast pa_64_53 (Eq.refl 54) pg_15 (((h.2.2 _ rfl).2 _ rfl).2 _ rfl).1 (ps_aload_n pa_64_54 (Eq.refl 55) rfl (ps_getR pa_64_55 (Eq.refl 58) pf_1_4_16 (ps_iload_n pa_64_58 (Eq.refl 59) rfl (ps_dup2 pa_64_59 (Eq.refl 60) rfl rfl (ps_iald pa_64_60 (Eq.refl 61) pg_14 rfl rfl ((((h.2.2 _ rfl).2 _ rfl).2 _ rfl).2 _ rfl).1 (ps_dup_x2 pa_64_61 (Eq.refl 62) rfl rfl rfl (ps_iconst pa_64_62 (Eq.refl 63) (show _ = (1 : Int32) from rfl) (ps_iadd pa_64_63 (Eq.refl 64) (ps_iast pa_64_64 (Eq.refl 65) pg_14 ((((h.2.2 _ rfl).2 _ rfl).2 _ rfl).2 _ rfl).2.1 (ps_retI pa_64_65 pr_64 (((((h.2.2 _ rfl).2 _ rfl).2 _ rfl).2 _ rfl).2.2 _ rfl))))))))))))))))))))))))))))))))))))))))))))))))
theorem pa_65_0 : pz_at 65 0 = some (0, .iconst 0, 1, 0, 0, 0) := by decide +kernel
theorem pa_65_1 : pz_at 65 1 = some (1, .istore 4, 2, 0, 0, 0) := by decide +kernel
theorem pa_65_10 : pz_at 65 10 = some (10, .iaload, 1, 0, 0, 0) := by decide +kernel
theorem pa_65_101 : pz_at 65 101 = some (101, .iconst (-1), 1, 0, 0, 0) := by decide +kernel
theorem pa_65_102 : pz_at 65 102 = some (102, .ireturn, 1, 0, 0, 0) := by decide +kernel
theorem pa_65_11 : pz_at 65 11 = some (11, .if_icmp .ge 90, 3, 101, 0, 0) := by decide +kernel
theorem pa_65_14 : pz_at 65 14 = some (14, .iload_n 1, 1, 0, 0, 0) := by decide +kernel
theorem pa_65_15 : pz_at 65 15 = some (15, .iconst 4, 1, 0, 0, 0) := by decide +kernel
theorem pa_65_16 : pz_at 65 16 = some (16, .imul, 1, 0, 0, 0) := by decide +kernel
theorem pa_65_17 : pz_at 65 17 = some (17, .iload 4, 2, 0, 0, 0) := by decide +kernel
theorem pa_65_19 : pz_at 65 19 = some (19, .iadd, 1, 0, 0, 0) := by decide +kernel
theorem pa_65_20 : pz_at 65 20 = some (20, .iconst 4, 1, 0, 0, 0) := by decide +kernel
theorem pa_65_21 : pz_at 65 21 = some (21, .imul, 1, 0, 0, 0) := by decide +kernel
theorem pa_65_22 : pz_at 65 22 = some (22, .istore 5, 2, 0, 0, 0) := by decide +kernel
theorem pa_65_24 : pz_at 65 24 = some (24, .aload_n 0, 1, 0, 0, 0) := by decide +kernel
theorem pa_65_25 : pz_at 65 25 = some (25, .getfield 52, 3, 4, 17, 162) := by decide +kernel
theorem pa_65_28 : pz_at 65 28 = some (28, .iload 5, 2, 0, 0, 0) := by decide +kernel
theorem pa_65_3 : pz_at 65 3 = some (3, .iload 4, 2, 0, 0, 0) := by decide +kernel
theorem pa_65_30 : pz_at 65 30 = some (30, .iaload, 1, 0, 0, 0) := by decide +kernel
theorem pa_65_31 : pz_at 65 31 = some (31, .iload_n 2, 1, 0, 0, 0) := by decide +kernel
theorem pa_65_32 : pz_at 65 32 = some (32, .if_icmp .gt 20, 3, 52, 0, 0) := by decide +kernel
theorem pa_65_35 : pz_at 65 35 = some (35, .iload_n 2, 1, 0, 0, 0) := by decide +kernel
theorem pa_65_36 : pz_at 65 36 = some (36, .aload_n 0, 1, 0, 0, 0) := by decide +kernel
theorem pa_65_37 : pz_at 65 37 = some (37, .getfield 52, 3, 4, 17, 162) := by decide +kernel
theorem pa_65_40 : pz_at 65 40 = some (40, .iload 5, 2, 0, 0, 0) := by decide +kernel
theorem pa_65_42 : pz_at 65 42 = some (42, .iconst 1, 1, 0, 0, 0) := by decide +kernel
theorem pa_65_43 : pz_at 65 43 = some (43, .iadd, 1, 0, 0, 0) := by decide +kernel
theorem pa_65_44 : pz_at 65 44 = some (44, .iaload, 1, 0, 0, 0) := by decide +kernel
theorem pa_65_45 : pz_at 65 45 = some (45, .if_icmp .ge 7, 3, 52, 0, 0) := by decide +kernel
theorem pa_65_48 : pz_at 65 48 = some (48, .iconst 1, 1, 0, 0, 0) := by decide +kernel
theorem pa_65_49 : pz_at 65 49 = some (49, .goto 4, 3, 53, 0, 0) := by decide +kernel
theorem pa_65_5 : pz_at 65 5 = some (5, .aload_n 0, 1, 0, 0, 0) := by decide +kernel
theorem pa_65_52 : pz_at 65 52 = some (52, .iconst 0, 1, 0, 0, 0) := by decide +kernel
theorem pa_65_53 : pz_at 65 53 = some (53, .istore 6, 2, 0, 0, 0) := by decide +kernel
theorem pa_65_55 : pz_at 65 55 = some (55, .iload 6, 2, 0, 0, 0) := by decide +kernel
theorem pa_65_57 : pz_at 65 57 = some (57, .ifCond .eq 38, 3, 95, 0, 0) := by decide +kernel
theorem pa_65_6 : pz_at 65 6 = some (6, .getfield 49, 3, 4, 16, 160) := by decide +kernel
theorem pa_65_60 : pz_at 65 60 = some (60, .aload_n 0, 1, 0, 0, 0) := by decide +kernel
theorem pa_65_61 : pz_at 65 61 = some (61, .getfield 52, 3, 4, 17, 162) := by decide +kernel
theorem pa_65_64 : pz_at 65 64 = some (64, .iload 5, 2, 0, 0, 0) := by decide +kernel
theorem pa_65_66 : pz_at 65 66 = some (66, .iconst 2, 1, 0, 0, 0) := by decide +kernel
theorem pa_65_67 : pz_at 65 67 = some (67, .iadd, 1, 0, 0, 0) := by decide +kernel
theorem pa_65_68 : pz_at 65 68 = some (68, .iaload, 1, 0, 0, 0) := by decide +kernel
theorem pa_65_69 : pz_at 65 69 = some (69, .ifCond .eq 16, 3, 85, 0, 0) := by decide +kernel
theorem pa_65_72 : pz_at 65 72 = some (72, .aload_n 0, 1, 0, 0, 0) := by decide +kernel
theorem pa_65_73 : pz_at 65 73 = some (73, .getfield 52, 3, 4, 17, 162) := by decide +kernel
theorem pa_65_76 : pz_at 65 76 = some (76, .iload 5, 2, 0, 0, 0) := by decide +kernel
theorem pa_65_78 : pz_at 65 78 = some (78, .iconst 2, 1, 0, 0, 0) := by decide +kernel
theorem pa_65_79 : pz_at 65 79 = some (79, .iadd, 1, 0, 0, 0) := by decide +kernel
theorem pa_65_80 : pz_at 65 80 = some (80, .iaload, 1, 0, 0, 0) := by decide +kernel
theorem pa_65_81 : pz_at 65 81 = some (81, .iload_n 3, 1, 0, 0, 0) := by decide +kernel
theorem pa_65_82 : pz_at 65 82 = some (82, .if_icmp .ne 13, 3, 95, 0, 0) := by decide +kernel
theorem pa_65_85 : pz_at 65 85 = some (85, .aload_n 0, 1, 0, 0, 0) := by decide +kernel
theorem pa_65_86 : pz_at 65 86 = some (86, .getfield 52, 3, 4, 17, 162) := by decide +kernel
theorem pa_65_89 : pz_at 65 89 = some (89, .iload 5, 2, 0, 0, 0) := by decide +kernel
theorem pa_65_9 : pz_at 65 9 = some (9, .iload_n 1, 1, 0, 0, 0) := by decide +kernel
theorem pa_65_91 : pz_at 65 91 = some (91, .iconst 3, 1, 0, 0, 0) := by decide +kernel
theorem pa_65_92 : pz_at 65 92 = some (92, .iadd, 1, 0, 0, 0) := by decide +kernel
theorem pa_65_93 : pz_at 65 93 = some (93, .iaload, 1, 0, 0, 0) := by decide +kernel
theorem pa_65_94 : pz_at 65 94 = some (94, .ireturn, 1, 0, 0, 0) := by decide +kernel
theorem pa_65_95 : pz_at 65 95 = some (95, .iinc 4 1, 3, 0, 0, 0) := by decide +kernel
theorem pa_65_98 : pz_at 65 98 = some (98, .goto (-95), 3, 3, 0, 0) := by decide +kernel
theorem pr_65 : (pz_mi 65).2.2 = (some .int) := by decide +kernel
theorem pv_65 (v1 : Int32) (v2 : Int32) (v3 : Int32) (σ : pz_Sg) (Post : pz_Ps) (h : pz_WP 65 (3, [some (.ref 1), some (.int v1), some (.int v2), some (.int v3), some (.int (0 : Int32)), none, none], []) σ Post) : pz_WP 65 (0, pz_en 7 [.ref 1, .int v1, .int v2, .int v3], []) σ Post :=
  (ps_iconst pa_65_0 (Eq.refl 1) (show _ = (0 : Int32) from rfl) (ps_istore pa_65_1 (Eq.refl 3) (show _ = [some (.ref 1), some (.int v1), some (.int v2), some (.int v3), some (.int (0 : Int32)), none, none] from rfl) h))
theorem pv_65_3 (v1 : Int32) (v2 : Int32) (v3 : Int32) (v4 : Int32) (σ : pz_Sg) (Post : pz_Ps) (h : (vp_in v1 10 ∧ (((σ.1 14 v1.toNatClampNeg) ≤ v4 → Post (some (.int (-1 : Int32))) σ) ∧ (¬ (σ.1 14 v1.toNatClampNeg) ≤ v4 → (vp_in (((v1 * (nI 4)) + v4) * (nI 4)) 160 ∧ ((v2 < (σ.1 15 (((v1 * (nI 4)) + v4) * (nI 4)).toNatClampNeg) → pz_WP 65 (53, [some (.ref 1), some (.int v1), some (.int v2), some (.int v3), some (.int v4), some (.int (((v1 * (nI 4)) + v4) * (nI 4))), none], [.int (0 : Int32)]) σ Post) ∧ (¬ v2 < (σ.1 15 (((v1 * (nI 4)) + v4) * (nI 4)).toNatClampNeg) → (vp_in ((((v1 * (nI 4)) + v4) * (nI 4)) + (1 : Int32)) 160 ∧ (((σ.1 15 ((((v1 * (nI 4)) + v4) * (nI 4)) + (1 : Int32)).toNatClampNeg) ≤ v2 → pz_WP 65 (53, [some (.ref 1), some (.int v1), some (.int v2), some (.int v3), some (.int v4), some (.int (((v1 * (nI 4)) + v4) * (nI 4))), none], [.int (0 : Int32)]) σ Post) ∧ (¬ (σ.1 15 ((((v1 * (nI 4)) + v4) * (nI 4)) + (1 : Int32)).toNatClampNeg) ≤ v2 → pz_WP 65 (53, [some (.ref 1), some (.int v1), some (.int v2), some (.int v3), some (.int v4), some (.int (((v1 * (nI 4)) + v4) * (nI 4))), none], [.int (1 : Int32)]) σ Post)))))))))) : pz_WP 65 (3, [some (.ref 1), some (.int v1), some (.int v2), some (.int v3), some (.int v4), none, none], []) σ Post :=
  (ps_iload pa_65_3 (Eq.refl 5) rfl (ps_aload_n pa_65_5 (Eq.refl 6) rfl (ps_getR pa_65_6 (Eq.refl 9) pf_1_4_16 (ps_iload_n pa_65_9 (Eq.refl 10) rfl (ps_iald pa_65_10 (Eq.refl 11) pg_14 rfl rfl h.1 (ps_cmp pa_65_11 (Eq.refl 14) ⟨fun z3 => (ps_iconst pa_65_101 (Eq.refl 102) (show _ = (-1 : Int32) from rfl) (ps_retI pa_65_102 pr_65 (h.2.1 z3))), fun z3 => (ps_iload_n pa_65_14 (Eq.refl 15) rfl (ps_iconst pa_65_15 (Eq.refl 16) (show _ = (nI 4) from rfl) (ps_imul pa_65_16 (Eq.refl 17) (ps_iload pa_65_17 (Eq.refl 19) rfl (ps_iadd pa_65_19 (Eq.refl 20) (ps_iconst pa_65_20 (Eq.refl 21) (show _ = (nI 4) from rfl) (ps_imul pa_65_21 (Eq.refl 22) (ps_istore pa_65_22 (Eq.refl 24) (show _ = [some (.ref 1), some (.int v1), some (.int v2), some (.int v3), some (.int v4), some (.int (((v1 * (nI 4)) + v4) * (nI 4))), none] from rfl) (ps_aload_n pa_65_24 (Eq.refl 25) rfl (ps_getR pa_65_25 (Eq.refl 28) pf_1_4_17 (ps_iload pa_65_28 (Eq.refl 30) rfl (ps_iald pa_65_30 (Eq.refl 31) pg_15 rfl rfl (h.2.2 z3).1 (ps_iload_n pa_65_31 (Eq.refl 32) rfl (ps_cmp pa_65_32 (Eq.refl 35) ⟨fun z2 => (ps_iconst pa_65_52 (Eq.refl 53) (show _ = (0 : Int32) from rfl) ((h.2.2 z3).2.1 z2)), fun z2 => (ps_iload_n pa_65_35 (Eq.refl 36) rfl (ps_aload_n pa_65_36 (Eq.refl 37) rfl (ps_getR pa_65_37 (Eq.refl 40) pf_1_4_17 (ps_iload pa_65_40 (Eq.refl 42) rfl (ps_iconst pa_65_42 (Eq.refl 43) (show _ = (1 : Int32) from rfl) (ps_iadd pa_65_43 (Eq.refl 44) (ps_iald pa_65_44 (Eq.refl 45) pg_15 rfl rfl ((h.2.2 z3).2.2 z2).1 (ps_cmp pa_65_45 (Eq.refl 48) ⟨fun z1 => (ps_iconst pa_65_52 (Eq.refl 53) (show _ = (0 : Int32) from rfl) (((h.2.2 z3).2.2 z2).2.1 z1)), fun z1 => (ps_iconst pa_65_48 (Eq.refl 49) (show _ = (1 : Int32) from rfl) (ps_goto pa_65_49 (((h.2.2 z3).2.2 z2).2.2 z1)))⟩))))))))⟩))))))))))))))⟩))))))
theorem pv_65_53 (v1 : Int32) (v2 : Int32) (v3 : Int32) (v4 : Int32) (v5 : Int32) (s0 : Int32) (σ : pz_Sg) (Post : pz_Ps) (h : ((s0 = (0 : Int32) → pz_WP 65 (3, [some (.ref 1), some (.int v1), some (.int v2), some (.int v3), some (.int (v4 + (1 : Int32))), none, none], []) σ Post) ∧ (¬ s0 = (0 : Int32) → (vp_in (v5 + (nI 2)) 160 ∧ (((σ.1 15 (v5 + (nI 2)).toNatClampNeg) = (0 : Int32) → (vp_in (v5 + (nI 3)) 160 ∧ Post (some (.int (σ.1 15 (v5 + (nI 3)).toNatClampNeg))) σ)) ∧ (¬ (σ.1 15 (v5 + (nI 2)).toNatClampNeg) = (0 : Int32) → (vp_in (v5 + (nI 2)) 160 ∧ (((σ.1 15 (v5 + (nI 2)).toNatClampNeg) = v3 → (vp_in (v5 + (nI 3)) 160 ∧ Post (some (.int (σ.1 15 (v5 + (nI 3)).toNatClampNeg))) σ)) ∧ (¬ (σ.1 15 (v5 + (nI 2)).toNatClampNeg) = v3 → pz_WP 65 (3, [some (.ref 1), some (.int v1), some (.int v2), some (.int v3), some (.int (v4 + (1 : Int32))), none, none], []) σ Post))))))))) : pz_WP 65 (53, [some (.ref 1), some (.int v1), some (.int v2), some (.int v3), some (.int v4), some (.int v5), none], [.int s0]) σ Post :=
  (ps_istore pa_65_53 (Eq.refl 55) (show _ = [some (.ref 1), some (.int v1), some (.int v2), some (.int v3), some (.int v4), some (.int v5), some (.int s0)] from rfl) (ps_iload pa_65_55 (Eq.refl 57) rfl (ps_if pa_65_57 (Eq.refl 60) ⟨fun z3 => (ps_iinc pa_65_95 (Eq.refl 98) rfl (show _ = (1 : Int32) from rfl) (show _ = [some (.ref 1), some (.int v1), some (.int v2), some (.int v3), some (.int (v4 + (1 : Int32))), some (.int v5), some (.int s0)] from rfl) (ps_goto pa_65_98 (ps_fg [true, true, true, true, true, false, false] (h.1 z3)))), fun z3 => (ps_aload_n pa_65_60 (Eq.refl 61) rfl (ps_getR pa_65_61 (Eq.refl 64) pf_1_4_17 (ps_iload pa_65_64 (Eq.refl 66) rfl (ps_iconst pa_65_66 (Eq.refl 67) (show _ = (nI 2) from rfl) (ps_iadd pa_65_67 (Eq.refl 68) (ps_iald pa_65_68 (Eq.refl 69) pg_15 rfl rfl (h.2 z3).1 (ps_if pa_65_69 (Eq.refl 72) ⟨fun z2 => (ps_aload_n pa_65_85 (Eq.refl 86) rfl (ps_getR pa_65_86 (Eq.refl 89) pf_1_4_17 (ps_iload pa_65_89 (Eq.refl 91) rfl (ps_iconst pa_65_91 (Eq.refl 92) (show _ = (nI 3) from rfl) (ps_iadd pa_65_92 (Eq.refl 93) (ps_iald pa_65_93 (Eq.refl 94) pg_15 rfl rfl ((h.2 z3).2.1 z2).1 (ps_retI pa_65_94 pr_65 ((h.2 z3).2.1 z2).2))))))), fun z2 => (ps_aload_n pa_65_72 (Eq.refl 73) rfl (ps_getR pa_65_73 (Eq.refl 76) pf_1_4_17 (ps_iload pa_65_76 (Eq.refl 78) rfl (ps_iconst pa_65_78 (Eq.refl 79) (show _ = (nI 2) from rfl) (ps_iadd pa_65_79 (Eq.refl 80) (ps_iald pa_65_80 (Eq.refl 81) pg_15 rfl rfl ((h.2 z3).2.2 z2).1 (ps_iload_n pa_65_81 (Eq.refl 82) rfl (ps_cmp pa_65_82 (Eq.refl 85) ⟨fun z1 => (ps_aload_n pa_65_85 (Eq.refl 86) rfl (ps_getR pa_65_86 (Eq.refl 89) pf_1_4_17 (ps_iload pa_65_89 (Eq.refl 91) rfl (ps_iconst pa_65_91 (Eq.refl 92) (show _ = (nI 3) from rfl) (ps_iadd pa_65_92 (Eq.refl 93) (ps_iald pa_65_93 (Eq.refl 94) pg_15 rfl rfl (((h.2 z3).2.2 z2).2.1 z1).1 (ps_retI pa_65_94 pr_65 (((h.2 z3).2.2 z2).2.1 z1).2))))))), fun z1 => (ps_iinc pa_65_95 (Eq.refl 98) rfl (show _ = (1 : Int32) from rfl) (show _ = [some (.ref 1), some (.int v1), some (.int v2), some (.int v3), some (.int (v4 + (1 : Int32))), some (.int v5), some (.int s0)] from rfl) (ps_goto pa_65_98 (ps_fg [true, true, true, true, true, false, false] (((h.2 z3).2.2 z2).2.2 z1))))⟩))))))))⟩)))))))⟩)))
theorem pa_66_0 : pz_at 66 0 = some (0, .iload_n 2, 1, 0, 0, 0) := by decide +kernel
theorem pa_66_1 : pz_at 66 1 = some (1, .ifCond .lt 9, 3, 10, 0, 0) := by decide +kernel
theorem pa_66_10 : pz_at 66 10 = some (10, .iconst 0, 1, 0, 0, 0) := by decide +kernel
theorem pa_66_100 : pz_at 66 100 = some (100, .getfield 28, 3, 4, 9, 137) := by decide +kernel
theorem pa_66_103 : pz_at 66 103 = some (103, .iload 4, 2, 0, 0, 0) := by decide +kernel
theorem pa_66_105 : pz_at 66 105 = some (105, .iaload, 1, 0, 0, 0) := by decide +kernel
theorem pa_66_106 : pz_at 66 106 = some (106, .iadd, 1, 0, 0, 0) := by decide +kernel
theorem pa_66_107 : pz_at 66 107 = some (107, .bipush 8, 2, 0, 0, 0) := by decide +kernel
theorem pa_66_109 : pz_at 66 109 = some (109, .if_icmp .gt 7, 3, 116, 0, 0) := by decide +kernel
theorem pa_66_11 : pz_at 66 11 = some (11, .ireturn, 1, 0, 0, 0) := by decide +kernel
theorem pa_66_112 : pz_at 66 112 = some (112, .iconst 1, 1, 0, 0, 0) := by decide +kernel
theorem pa_66_113 : pz_at 66 113 = some (113, .goto 4, 3, 117, 0, 0) := by decide +kernel
theorem pa_66_116 : pz_at 66 116 = some (116, .iconst 0, 1, 0, 0, 0) := by decide +kernel
theorem pa_66_117 : pz_at 66 117 = some (117, .ireturn, 1, 0, 0, 0) := by decide +kernel
theorem pa_66_12 : pz_at 66 12 = some (12, .iload_n 2, 1, 0, 0, 0) := by decide +kernel
theorem pa_66_13 : pz_at 66 13 = some (13, .iconst 3, 1, 0, 0, 0) := by decide +kernel
theorem pa_66_14 : pz_at 66 14 = some (14, .imul, 1, 0, 0, 0) := by decide +kernel
theorem pa_66_15 : pz_at 66 15 = some (15, .istore 6, 2, 0, 0, 0) := by decide +kernel
theorem pa_66_17 : pz_at 66 17 = some (17, .aload_n 0, 1, 0, 0, 0) := by decide +kernel
theorem pa_66_18 : pz_at 66 18 = some (18, .getstatic 72, 3, 0, 0, 511) := by decide +kernel
theorem pa_66_21 : pz_at 66 21 = some (21, .iload 6, 2, 0, 0, 0) := by decide +kernel
theorem pa_66_23 : pz_at 66 23 = some (23, .iaload, 1, 0, 0, 0) := by decide +kernel
theorem pa_66_24 : pz_at 66 24 = some (24, .iload_n 1, 1, 0, 0, 0) := by decide +kernel
theorem pa_66_25 : pz_at 66 25 = some (25, .iload_n 3, 1, 0, 0, 0) := by decide +kernel
theorem pa_66_26 : pz_at 66 26 = some (26, .invokevirtual 75, 3, 67, 3, 513) := by decide +kernel
theorem pa_66_29 : pz_at 66 29 = some (29, .ifCond .eq 39, 3, 68, 0, 0) := by decide +kernel
theorem pa_66_32 : pz_at 66 32 = some (32, .aload_n 0, 1, 0, 0, 0) := by decide +kernel
theorem pa_66_33 : pz_at 66 33 = some (33, .getstatic 72, 3, 0, 0, 511) := by decide +kernel
theorem pa_66_36 : pz_at 66 36 = some (36, .iload 6, 2, 0, 0, 0) := by decide +kernel
theorem pa_66_38 : pz_at 66 38 = some (38, .iconst 1, 1, 0, 0, 0) := by decide +kernel
theorem pa_66_39 : pz_at 66 39 = some (39, .iadd, 1, 0, 0, 0) := by decide +kernel
theorem pa_66_4 : pz_at 66 4 = some (4, .iload_n 2, 1, 0, 0, 0) := by decide +kernel
theorem pa_66_40 : pz_at 66 40 = some (40, .iaload, 1, 0, 0, 0) := by decide +kernel
theorem pa_66_41 : pz_at 66 41 = some (41, .iload_n 1, 1, 0, 0, 0) := by decide +kernel
theorem pa_66_42 : pz_at 66 42 = some (42, .iload 4, 2, 0, 0, 0) := by decide +kernel
theorem pa_66_44 : pz_at 66 44 = some (44, .invokevirtual 75, 3, 67, 3, 513) := by decide +kernel
theorem pa_66_47 : pz_at 66 47 = some (47, .ifCond .eq 21, 3, 68, 0, 0) := by decide +kernel
theorem pa_66_5 : pz_at 66 5 = some (5, .bipush 31, 2, 0, 0, 0) := by decide +kernel
theorem pa_66_50 : pz_at 66 50 = some (50, .aload_n 0, 1, 0, 0, 0) := by decide +kernel
theorem pa_66_51 : pz_at 66 51 = some (51, .getstatic 72, 3, 0, 0, 511) := by decide +kernel
theorem pa_66_54 : pz_at 66 54 = some (54, .iload 6, 2, 0, 0, 0) := by decide +kernel
theorem pa_66_56 : pz_at 66 56 = some (56, .iconst 2, 1, 0, 0, 0) := by decide +kernel
theorem pa_66_57 : pz_at 66 57 = some (57, .iadd, 1, 0, 0, 0) := by decide +kernel
theorem pa_66_58 : pz_at 66 58 = some (58, .iaload, 1, 0, 0, 0) := by decide +kernel
theorem pa_66_59 : pz_at 66 59 = some (59, .iload_n 1, 1, 0, 0, 0) := by decide +kernel
theorem pa_66_60 : pz_at 66 60 = some (60, .iload 5, 2, 0, 0, 0) := by decide +kernel
theorem pa_66_62 : pz_at 66 62 = some (62, .invokevirtual 75, 3, 67, 3, 513) := by decide +kernel
theorem pa_66_65 : pz_at 66 65 = some (65, .ifCond .ne 5, 3, 70, 0, 0) := by decide +kernel
theorem pa_66_68 : pz_at 66 68 = some (68, .iconst 0, 1, 0, 0, 0) := by decide +kernel
theorem pa_66_69 : pz_at 66 69 = some (69, .ireturn, 1, 0, 0, 0) := by decide +kernel
theorem pa_66_7 : pz_at 66 7 = some (7, .if_icmp .le 5, 3, 12, 0, 0) := by decide +kernel
theorem pa_66_70 : pz_at 66 70 = some (70, .getstatic 72, 3, 0, 0, 511) := by decide +kernel
theorem pa_66_73 : pz_at 66 73 = some (73, .iload 6, 2, 0, 0, 0) := by decide +kernel
theorem pa_66_75 : pz_at 66 75 = some (75, .iconst 1, 1, 0, 0, 0) := by decide +kernel
theorem pa_66_76 : pz_at 66 76 = some (76, .iadd, 1, 0, 0, 0) := by decide +kernel
theorem pa_66_77 : pz_at 66 77 = some (77, .iaload, 1, 0, 0, 0) := by decide +kernel
theorem pa_66_78 : pz_at 66 78 = some (78, .bipush 7, 2, 0, 0, 0) := by decide +kernel
theorem pa_66_80 : pz_at 66 80 = some (80, .if_icmp .ne 32, 3, 112, 0, 0) := by decide +kernel
theorem pa_66_83 : pz_at 66 83 = some (83, .iload_n 3, 1, 0, 0, 0) := by decide +kernel
theorem pa_66_84 : pz_at 66 84 = some (84, .aload_n 0, 1, 0, 0, 0) := by decide +kernel
theorem pa_66_85 : pz_at 66 85 = some (85, .getfield 25, 3, 4, 8, 135) := by decide +kernel
theorem pa_66_88 : pz_at 66 88 = some (88, .iload 4, 2, 0, 0, 0) := by decide +kernel
theorem pa_66_90 : pz_at 66 90 = some (90, .iaload, 1, 0, 0, 0) := by decide +kernel
theorem pa_66_91 : pz_at 66 91 = some (91, .iadd, 1, 0, 0, 0) := by decide +kernel
theorem pa_66_92 : pz_at 66 92 = some (92, .bipush 8, 2, 0, 0, 0) := by decide +kernel
theorem pa_66_94 : pz_at 66 94 = some (94, .if_icmp .gt 22, 3, 116, 0, 0) := by decide +kernel
theorem pa_66_97 : pz_at 66 97 = some (97, .iload 5, 2, 0, 0, 0) := by decide +kernel
theorem pa_66_99 : pz_at 66 99 = some (99, .aload_n 0, 1, 0, 0, 0) := by decide +kernel
theorem pm_67 : pz_mi 67 = (4, 4, (some .boolean)) := by decide +kernel
theorem pr_66 : (pz_mi 66).2.2 = (some .boolean) := by decide +kernel
theorem pv_66 (v1 : Int32) (v2 : Int32) (v3 : Int32) (v4 : Int32) (v5 : Int32) (σ : pz_Sg) (Post : pz_Ps) (h : ((v2 < (0 : Int32) → Post (some (.int (0 : Int32))) σ) ∧ (¬ v2 < (0 : Int32) → ((v2 ≤ (nI 31) → (vp_in (v2 * (nI 3)) 96 ∧ (∃ Q : pz_Ps, pz_WP 67 (0, pz_en 4 [.ref 1, .int (pz_wn (v2 * (nI 3)).toNatClampNeg), .int v1, .int v3], []) σ Q ∧ ∀ r1 σ1, Q (some (.int r1)) σ1 → ((r1 = (0 : Int32) → Post (some (.int (0 : Int32))) σ1) ∧ (¬ r1 = (0 : Int32) → (vp_in ((v2 * (nI 3)) + (1 : Int32)) 96 ∧ (∃ Q : pz_Ps, pz_WP 67 (0, pz_en 4 [.ref 1, .int (pz_wn ((v2 * (nI 3)) + (1 : Int32)).toNatClampNeg), .int v1, .int v4], []) σ1 Q ∧ ∀ r2 σ2, Q (some (.int r2)) σ2 → ((r2 = (0 : Int32) → Post (some (.int (0 : Int32))) σ2) ∧ (¬ r2 = (0 : Int32) → (vp_in ((v2 * (nI 3)) + (nI 2)) 96 ∧ (∃ Q : pz_Ps, pz_WP 67 (0, pz_en 4 [.ref 1, .int (pz_wn ((v2 * (nI 3)) + (nI 2)).toNatClampNeg), .int v1, .int v5], []) σ2 Q ∧ ∀ r3 σ3, Q (some (.int r3)) σ3 → ((r3 = (0 : Int32) → Post (some (.int (0 : Int32))) σ3) ∧ (¬ r3 = (0 : Int32) → (vp_in ((v2 * (nI 3)) + (1 : Int32)) 96 ∧ (((pz_wn ((v2 * (nI 3)) + (1 : Int32)).toNatClampNeg) = (nI 7) → (vp_in v4 10 ∧ (((nI 8) < (v3 + (σ3.1 6 v4.toNatClampNeg)) → Post (some (.int (0 : Int32))) σ3) ∧ (¬ (nI 8) < (v3 + (σ3.1 6 v4.toNatClampNeg)) → (vp_in v4 10 ∧ (((nI 8) < (v5 + (σ3.1 7 v4.toNatClampNeg)) → Post (some (.int (0 : Int32))) σ3) ∧ (¬ (nI 8) < (v5 + (σ3.1 7 v4.toNatClampNeg)) → Post (some (.int (1 : Int32))) σ3))))))) ∧ (¬ (pz_wn ((v2 * (nI 3)) + (1 : Int32)).toNatClampNeg) = (nI 7) → Post (some (.int (1 : Int32))) σ3)))))))))))))))) ∧ (¬ v2 ≤ (nI 31) → Post (some (.int (0 : Int32))) σ))))) : pz_WP 66 (0, pz_en 7 [.ref 1, .int v1, .int v2, .int v3, .int v4, .int v5], []) σ Post :=
  (ps_iload_n pa_66_0 (Eq.refl 1) rfl (ps_if pa_66_1 (Eq.refl 4) ⟨fun z11 => (ps_iconst pa_66_10 (Eq.refl 11) (show _ = (0 : Int32) from rfl) (ps_retZ pa_66_11 pr_66 (Or.inl rfl) (h.1 z11))), fun z11 => (ps_iload_n pa_66_4 (Eq.refl 5) rfl (ps_bipush pa_66_5 (Eq.refl 7) (show _ = (nI 31) from rfl) (ps_cmp pa_66_7 (Eq.refl 10) ⟨fun z10 => (ps_iload_n pa_66_12 (Eq.refl 13) rfl (ps_iconst pa_66_13 (Eq.refl 14) (show _ = (nI 3) from rfl) (ps_imul pa_66_14 (Eq.refl 15) (ps_istore pa_66_15 (Eq.refl 17) (show _ = [some (.ref 1), some (.int v1), some (.int v2), some (.int v3), some (.int v4), some (.int v5), some (.int (v2 * (nI 3)))] from rfl) (ps_aload_n pa_66_17 (Eq.refl 18) rfl (ps_gst pa_66_18 (Eq.refl 21) (ps_iload pa_66_21 (Eq.refl 23) rfl (ps_wld pa_66_23 (Eq.refl 24) ((h.2 z11).1 z10).1 (ps_iload_n pa_66_24 (Eq.refl 25) rfl (ps_iload_n pa_66_25 (Eq.refl 26) rfl (ps_cVi (As := [.int (pz_wn (v2 * (nI 3)).toNatClampNeg), .int v1, .int v3]) (r := []) pa_66_26 (Eq.refl 29) pm_67 rfl pc_1 rfl rfl (Nat.le_of_ble_eq_true rfl) (Nat.le_of_ble_eq_true rfl) (Exists.imp (fun Q z1 => ⟨z1.1, fun z1a z1b z1c => (ps_if pa_66_29 (Eq.refl 32) ⟨fun z9 => (ps_iconst pa_66_68 (Eq.refl 69) (show _ = (0 : Int32) from rfl) (ps_retZ pa_66_69 pr_66 (Or.inl rfl) ((z1.2 z1a z1b z1c).1 z9))), fun z9 => (ps_aload_n pa_66_32 (Eq.refl 33) rfl (ps_gst pa_66_33 (Eq.refl 36) (ps_iload pa_66_36 (Eq.refl 38) rfl (ps_iconst pa_66_38 (Eq.refl 39) (show _ = (1 : Int32) from rfl) (ps_iadd pa_66_39 (Eq.refl 40) (ps_wld pa_66_40 (Eq.refl 41) ((z1.2 z1a z1b z1c).2 z9).1 (ps_iload_n pa_66_41 (Eq.refl 42) rfl (ps_iload pa_66_42 (Eq.refl 44) rfl (ps_cVi (As := [.int (pz_wn ((v2 * (nI 3)) + (1 : Int32)).toNatClampNeg), .int v1, .int v4]) (r := []) pa_66_44 (Eq.refl 47) pm_67 rfl pc_1 rfl rfl (Nat.le_of_ble_eq_true rfl) (Nat.le_of_ble_eq_true rfl) (Exists.imp (fun Q z2 => ⟨z2.1, fun z2a z2b z2c => (ps_if pa_66_47 (Eq.refl 50) ⟨fun z8 => (ps_iconst pa_66_68 (Eq.refl 69) (show _ = (0 : Int32) from rfl) (ps_retZ pa_66_69 pr_66 (Or.inl rfl) ((z2.2 z2a z2b z2c).1 z8))), fun z8 => (ps_aload_n pa_66_50 (Eq.refl 51) rfl (ps_gst pa_66_51 (Eq.refl 54) (ps_iload pa_66_54 (Eq.refl 56) rfl (ps_iconst pa_66_56 (Eq.refl 57) (show _ = (nI 2) from rfl) (ps_iadd pa_66_57 (Eq.refl 58) (ps_wld pa_66_58 (Eq.refl 59) ((z2.2 z2a z2b z2c).2 z8).1 (ps_iload_n pa_66_59 (Eq.refl 60) rfl (ps_iload pa_66_60 (Eq.refl 62) rfl (ps_cVi (As := [.int (pz_wn ((v2 * (nI 3)) + (nI 2)).toNatClampNeg), .int v1, .int v5]) (r := []) pa_66_62 (Eq.refl 65) pm_67 rfl pc_1 rfl rfl (Nat.le_of_ble_eq_true rfl) (Nat.le_of_ble_eq_true rfl) (Exists.imp (fun Q z3 => ⟨z3.1, fun z3a z3b z3c => (ps_if pa_66_65 (Eq.refl 68) ⟨fun z7 => (ps_iconst pa_66_68 (Eq.refl 69) (show _ = (0 : Int32) from rfl) (ps_retZ pa_66_69 pr_66 (Or.inl rfl) ((z3.2 z3a z3b z3c).1 z7))), fun z7 => (ps_gst pa_66_70 (Eq.refl 73) (ps_iload pa_66_73 (Eq.refl 75) rfl (ps_iconst pa_66_75 (Eq.refl 76) (show _ = (1 : Int32) from rfl) (ps_iadd pa_66_76 (Eq.refl 77) (ps_wld pa_66_77 (Eq.refl 78) ((z3.2 z3a z3b z3c).2 z7).1 (ps_bipush pa_66_78 (Eq.refl 80) (show _ = (nI 7) from rfl) (ps_cmp pa_66_80 (Eq.refl 83) ⟨fun z6 => (ps_iload_n pa_66_83 (Eq.refl 84) rfl (ps_aload_n pa_66_84 (Eq.refl 85) rfl (ps_getR pa_66_85 (Eq.refl 88) pf_1_4_8 (ps_iload pa_66_88 (Eq.refl 90) rfl (ps_iald pa_66_90 (Eq.refl 91) pg_6 rfl rfl (((z3.2 z3a z3b z3c).2 z7).2.1 z6).1 (ps_iadd pa_66_91 (Eq.refl 92) (ps_bipush pa_66_92 (Eq.refl 94) (show _ = (nI 8) from rfl) (ps_cmp pa_66_94 (Eq.refl 97) ⟨fun z5 => (ps_iconst pa_66_116 (Eq.refl 117) (show _ = (0 : Int32) from rfl) (ps_retZ pa_66_117 pr_66 (Or.inl rfl) ((((z3.2 z3a z3b z3c).2 z7).2.1 z6).2.1 z5))), fun z5 => (ps_iload pa_66_97 (Eq.refl 99) rfl (ps_aload_n pa_66_99 (Eq.refl 100) rfl (ps_getR pa_66_100 (Eq.refl 103) pf_1_4_9 (ps_iload pa_66_103 (Eq.refl 105) rfl (ps_iald pa_66_105 (Eq.refl 106) pg_7 rfl rfl ((((z3.2 z3a z3b z3c).2 z7).2.1 z6).2.2 z5).1 (ps_iadd pa_66_106 (Eq.refl 107) (ps_bipush pa_66_107 (Eq.refl 109) (show _ = (nI 8) from rfl) (ps_cmp pa_66_109 (Eq.refl 112) ⟨fun z4 => (ps_iconst pa_66_116 (Eq.refl 117) (show _ = (0 : Int32) from rfl) (ps_retZ pa_66_117 pr_66 (Or.inl rfl) (((((z3.2 z3a z3b z3c).2 z7).2.1 z6).2.2 z5).2.1 z4))), fun z4 => (ps_iconst pa_66_112 (Eq.refl 113) (show _ = (1 : Int32) from rfl) (ps_goto pa_66_113 (ps_retZ pa_66_117 pr_66 (Or.inr rfl) (((((z3.2 z3a z3b z3c).2 z7).2.1 z6).2.2 z5).2.2 z4))))⟩))))))))⟩)))))))), fun z6 => (ps_iconst pa_66_112 (Eq.refl 113) (show _ = (1 : Int32) from rfl) (ps_goto pa_66_113 (ps_retZ pa_66_117 pr_66 (Or.inr rfl) (((z3.2 z3a z3b z3c).2 z7).2.2 z6))))⟩)))))))⟩)⟩) ((z2.2 z2a z2b z2c).2 z8).2))))))))))⟩)⟩) ((z1.2 z1a z1b z1c).2 z9).2))))))))))⟩)⟩) ((h.2 z11).1 z10).2)))))))))))), fun z10 => (ps_iconst pa_66_10 (Eq.refl 11) (show _ = (0 : Int32) from rfl) (ps_retZ pa_66_11 pr_66 (Or.inl rfl) ((h.2 z11).2 z10)))⟩)))⟩))
theorem pa_67_0 : pz_at 67 0 = some (0, .iload_n 1, 1, 0, 0, 0) := by decide +kernel
theorem pa_67_1 : pz_at 67 1 = some (1, .tableswitch 187 1 10 #[55, 61, 67, 74, 81, 104, 127, 133, 149, 164], 55, 0, 0, 0) := by decide +kernel
theorem pa_67_100 : pz_at 67 100 = some (100, .goto 4, 3, 104, 0, 0) := by decide +kernel
theorem pa_67_103 : pz_at 67 103 = some (103, .iconst 0, 1, 0, 0, 0) := by decide +kernel
theorem pa_67_104 : pz_at 67 104 = some (104, .ireturn, 1, 0, 0, 0) := by decide +kernel
theorem pa_67_105 : pz_at 67 105 = some (105, .aload_n 0, 1, 0, 0, 0) := by decide +kernel
theorem pa_67_106 : pz_at 67 106 = some (106, .iload_n 3, 1, 0, 0, 0) := by decide +kernel
theorem pa_67_107 : pz_at 67 107 = some (107, .invokevirtual 90, 3, 56, 1, 526) := by decide +kernel
theorem pa_67_110 : pz_at 67 110 = some (110, .ifCond .eq 16, 3, 126, 0, 0) := by decide +kernel
theorem pa_67_113 : pz_at 67 113 = some (113, .aload_n 0, 1, 0, 0, 0) := by decide +kernel
theorem pa_67_114 : pz_at 67 114 = some (114, .getfield 22, 3, 4, 7, 132) := by decide +kernel
theorem pa_67_117 : pz_at 67 117 = some (117, .iload_n 3, 1, 0, 0, 0) := by decide +kernel
theorem pa_67_118 : pz_at 67 118 = some (118, .baload, 1, 0, 0, 0) := by decide +kernel
theorem pa_67_119 : pz_at 67 119 = some (119, .ifCond .eq 7, 3, 126, 0, 0) := by decide +kernel
theorem pa_67_122 : pz_at 67 122 = some (122, .iconst 1, 1, 0, 0, 0) := by decide +kernel
theorem pa_67_123 : pz_at 67 123 = some (123, .goto 4, 3, 127, 0, 0) := by decide +kernel
theorem pa_67_126 : pz_at 67 126 = some (126, .iconst 0, 1, 0, 0, 0) := by decide +kernel
theorem pa_67_127 : pz_at 67 127 = some (127, .ireturn, 1, 0, 0, 0) := by decide +kernel
theorem pa_67_128 : pz_at 67 128 = some (128, .aload_n 0, 1, 0, 0, 0) := by decide +kernel
theorem pa_67_129 : pz_at 67 129 = some (129, .iload_n 3, 1, 0, 0, 0) := by decide +kernel
theorem pa_67_130 : pz_at 67 130 = some (130, .invokevirtual 93, 3, 57, 1, 530) := by decide +kernel
theorem pa_67_133 : pz_at 67 133 = some (133, .ireturn, 1, 0, 0, 0) := by decide +kernel
theorem pa_67_134 : pz_at 67 134 = some (134, .iload_n 3, 1, 0, 0, 0) := by decide +kernel
theorem pa_67_135 : pz_at 67 135 = some (135, .ifCond .lt 13, 3, 148, 0, 0) := by decide +kernel
theorem pa_67_138 : pz_at 67 138 = some (138, .iload_n 3, 1, 0, 0, 0) := by decide +kernel
theorem pa_67_139 : pz_at 67 139 = some (139, .bipush 24, 2, 0, 0, 0) := by decide +kernel
theorem pa_67_141 : pz_at 67 141 = some (141, .if_icmp .gt 7, 3, 148, 0, 0) := by decide +kernel
theorem pa_67_144 : pz_at 67 144 = some (144, .iconst 1, 1, 0, 0, 0) := by decide +kernel
theorem pa_67_145 : pz_at 67 145 = some (145, .goto 4, 3, 149, 0, 0) := by decide +kernel
theorem pa_67_148 : pz_at 67 148 = some (148, .iconst 0, 1, 0, 0, 0) := by decide +kernel
theorem pa_67_149 : pz_at 67 149 = some (149, .ireturn, 1, 0, 0, 0) := by decide +kernel
theorem pa_67_150 : pz_at 67 150 = some (150, .iload_n 3, 1, 0, 0, 0) := by decide +kernel
theorem pa_67_151 : pz_at 67 151 = some (151, .ifCond .lt 12, 3, 163, 0, 0) := by decide +kernel
theorem pa_67_154 : pz_at 67 154 = some (154, .iload_n 3, 1, 0, 0, 0) := by decide +kernel
theorem pa_67_155 : pz_at 67 155 = some (155, .iconst 4, 1, 0, 0, 0) := by decide +kernel
theorem pa_67_156 : pz_at 67 156 = some (156, .if_icmp .ge 7, 3, 163, 0, 0) := by decide +kernel
theorem pa_67_159 : pz_at 67 159 = some (159, .iconst 1, 1, 0, 0, 0) := by decide +kernel
theorem pa_67_160 : pz_at 67 160 = some (160, .goto 4, 3, 164, 0, 0) := by decide +kernel
theorem pa_67_163 : pz_at 67 163 = some (163, .iconst 0, 1, 0, 0, 0) := by decide +kernel
theorem pa_67_164 : pz_at 67 164 = some (164, .ireturn, 1, 0, 0, 0) := by decide +kernel
theorem pa_67_165 : pz_at 67 165 = some (165, .aload_n 0, 1, 0, 0, 0) := by decide +kernel
theorem pa_67_166 : pz_at 67 166 = some (166, .getfield 31, 3, 4, 10, 140) := by decide +kernel
theorem pa_67_169 : pz_at 67 169 = some (169, .iload_n 2, 1, 0, 0, 0) := by decide +kernel
theorem pa_67_170 : pz_at 67 170 = some (170, .iaload, 1, 0, 0, 0) := by decide +kernel
theorem pa_67_171 : pz_at 67 171 = some (171, .ifCond .eq 11, 3, 182, 0, 0) := by decide +kernel
theorem pa_67_174 : pz_at 67 174 = some (174, .aload_n 0, 1, 0, 0, 0) := by decide +kernel
theorem pa_67_175 : pz_at 67 175 = some (175, .iload_n 3, 1, 0, 0, 0) := by decide +kernel
theorem pa_67_176 : pz_at 67 176 = some (176, .invokevirtual 79, 3, 68, 1, 517) := by decide +kernel
theorem pa_67_179 : pz_at 67 179 = some (179, .ifCond .eq 7, 3, 186, 0, 0) := by decide +kernel
theorem pa_67_182 : pz_at 67 182 = some (182, .iconst 1, 1, 0, 0, 0) := by decide +kernel
theorem pa_67_183 : pz_at 67 183 = some (183, .goto 4, 3, 187, 0, 0) := by decide +kernel
theorem pa_67_186 : pz_at 67 186 = some (186, .iconst 0, 1, 0, 0, 0) := by decide +kernel
theorem pa_67_187 : pz_at 67 187 = some (187, .ireturn, 1, 0, 0, 0) := by decide +kernel
theorem pa_67_188 : pz_at 67 188 = some (188, .iconst 1, 1, 0, 0, 0) := by decide +kernel
theorem pa_67_189 : pz_at 67 189 = some (189, .ireturn, 1, 0, 0, 0) := by decide +kernel
theorem pa_67_56 : pz_at 67 56 = some (56, .aload_n 0, 1, 0, 0, 0) := by decide +kernel
theorem pa_67_57 : pz_at 67 57 = some (57, .iload_n 3, 1, 0, 0, 0) := by decide +kernel
theorem pa_67_58 : pz_at 67 58 = some (58, .invokevirtual 79, 3, 68, 1, 517) := by decide +kernel
theorem pa_67_61 : pz_at 67 61 = some (61, .ireturn, 1, 0, 0, 0) := by decide +kernel
theorem pa_67_62 : pz_at 67 62 = some (62, .aload_n 0, 1, 0, 0, 0) := by decide +kernel
theorem pa_67_63 : pz_at 67 63 = some (63, .iload_n 3, 1, 0, 0, 0) := by decide +kernel
theorem pa_67_64 : pz_at 67 64 = some (64, .invokevirtual 83, 3, 55, 1, 521) := by decide +kernel
theorem pa_67_67 : pz_at 67 67 = some (67, .ireturn, 1, 0, 0, 0) := by decide +kernel
theorem pa_67_68 : pz_at 67 68 = some (68, .aload_n 0, 1, 0, 0, 0) := by decide +kernel
theorem pa_67_69 : pz_at 67 69 = some (69, .iload_n 3, 1, 0, 0, 0) := by decide +kernel
theorem pa_67_70 : pz_at 67 70 = some (70, .iconst 0, 1, 0, 0, 0) := by decide +kernel
theorem pa_67_71 : pz_at 67 71 = some (71, .invokevirtual 86, 3, 69, 2, 522) := by decide +kernel
theorem pa_67_74 : pz_at 67 74 = some (74, .ireturn, 1, 0, 0, 0) := by decide +kernel
theorem pa_67_75 : pz_at 67 75 = some (75, .aload_n 0, 1, 0, 0, 0) := by decide +kernel
theorem pa_67_76 : pz_at 67 76 = some (76, .iload_n 3, 1, 0, 0, 0) := by decide +kernel
theorem pa_67_77 : pz_at 67 77 = some (77, .iconst 1, 1, 0, 0, 0) := by decide +kernel
theorem pa_67_78 : pz_at 67 78 = some (78, .invokevirtual 86, 3, 69, 2, 522) := by decide +kernel
theorem pa_67_81 : pz_at 67 81 = some (81, .ireturn, 1, 0, 0, 0) := by decide +kernel
theorem pa_67_82 : pz_at 67 82 = some (82, .aload_n 0, 1, 0, 0, 0) := by decide +kernel
theorem pa_67_83 : pz_at 67 83 = some (83, .iload_n 3, 1, 0, 0, 0) := by decide +kernel
theorem pa_67_84 : pz_at 67 84 = some (84, .invokevirtual 90, 3, 56, 1, 526) := by decide +kernel
theorem pa_67_87 : pz_at 67 87 = some (87, .ifCond .eq 16, 3, 103, 0, 0) := by decide +kernel
theorem pa_67_90 : pz_at 67 90 = some (90, .aload_n 0, 1, 0, 0, 0) := by decide +kernel
theorem pa_67_91 : pz_at 67 91 = some (91, .getfield 22, 3, 4, 7, 132) := by decide +kernel
theorem pa_67_94 : pz_at 67 94 = some (94, .iload_n 3, 1, 0, 0, 0) := by decide +kernel
theorem pa_67_95 : pz_at 67 95 = some (95, .baload, 1, 0, 0, 0) := by decide +kernel
theorem pa_67_96 : pz_at 67 96 = some (96, .ifCond .ne 7, 3, 103, 0, 0) := by decide +kernel
theorem pa_67_99 : pz_at 67 99 = some (99, .iconst 1, 1, 0, 0, 0) := by decide +kernel
theorem pm_55 : pz_mi 55 = (4, 2, (some .boolean)) := by decide +kernel
theorem pm_56 : pz_mi 56 = (4, 2, (some .boolean)) := by decide +kernel
theorem pm_57 : pz_mi 57 = (4, 2, (some .boolean)) := by decide +kernel
theorem pm_68 : pz_mi 68 = (4, 2, (some .boolean)) := by decide +kernel
theorem pm_69 : pz_mi 69 = (4, 3, (some .boolean)) := by decide +kernel
theorem pr_67 : (pz_mi 67).2.2 = (some .boolean) := by decide +kernel
theorem pv_67 (v1 : Int32) (v2 : Int32) (v3 : Int32) (σ : pz_Sg) (Post : pz_Ps) (h : ((v1.toInt < 1 ∨ 10 < v1.toInt → Post (some (.int (1 : Int32))) σ) ∧ ((v1 = (1 : Int32) → (∃ Q : pz_Ps, pz_WP 68 (0, pz_en 2 [.ref 1, .int v3], []) σ Q ∧ ∀ r1 σ1, Q (some (.int r1)) σ1 → ((r1 = 0 ∨ r1 = 1) ∧ Post (some (.int r1)) σ1))) ∧ ((v1 = (nI 2) → (∃ Q : pz_Ps, pz_WP 55 (0, pz_en 2 [.ref 1, .int v3], []) σ Q ∧ ∀ r2 σ2, Q (some (.int r2)) σ2 → ((r2 = 0 ∨ r2 = 1) ∧ Post (some (.int r2)) σ2))) ∧ ((v1 = (nI 3) → (∃ Q : pz_Ps, pz_WP 69 (0, pz_en 3 [.ref 1, .int v3, .int (0 : Int32)], []) σ Q ∧ ∀ r3 σ3, Q (some (.int r3)) σ3 → ((r3 = 0 ∨ r3 = 1) ∧ Post (some (.int r3)) σ3))) ∧ ((v1 = (nI 4) → (∃ Q : pz_Ps, pz_WP 69 (0, pz_en 3 [.ref 1, .int v3, .int (1 : Int32)], []) σ Q ∧ ∀ r4 σ4, Q (some (.int r4)) σ4 → ((r4 = 0 ∨ r4 = 1) ∧ Post (some (.int r4)) σ4))) ∧ ((v1 = (nI 5) → (∃ Q : pz_Ps, pz_WP 56 (0, pz_en 2 [.ref 1, .int v3], []) σ Q ∧ ∀ r5 σ5, Q (some (.int r5)) σ5 → ((r5 = (0 : Int32) → Post (some (.int (0 : Int32))) σ5) ∧ (¬ r5 = (0 : Int32) → (vp_in v3 8 ∧ (((σ5.1 5 v3.toNatClampNeg) = (0 : Int32) → Post (some (.int (1 : Int32))) σ5) ∧ (¬ (σ5.1 5 v3.toNatClampNeg) = (0 : Int32) → Post (some (.int (0 : Int32))) σ5))))))) ∧ ((v1 = (nI 6) → (∃ Q : pz_Ps, pz_WP 56 (0, pz_en 2 [.ref 1, .int v3], []) σ Q ∧ ∀ r6 σ6, Q (some (.int r6)) σ6 → ((r6 = (0 : Int32) → Post (some (.int (0 : Int32))) σ6) ∧ (¬ r6 = (0 : Int32) → (vp_in v3 8 ∧ (((σ6.1 5 v3.toNatClampNeg) = (0 : Int32) → Post (some (.int (0 : Int32))) σ6) ∧ (¬ (σ6.1 5 v3.toNatClampNeg) = (0 : Int32) → Post (some (.int (1 : Int32))) σ6))))))) ∧ ((v1 = (nI 7) → (∃ Q : pz_Ps, pz_WP 57 (0, pz_en 2 [.ref 1, .int v3], []) σ Q ∧ ∀ r7 σ7, Q (some (.int r7)) σ7 → ((r7 = 0 ∨ r7 = 1) ∧ Post (some (.int r7)) σ7))) ∧ ((v1 = (nI 8) → ((v3 < (0 : Int32) → Post (some (.int (0 : Int32))) σ) ∧ (¬ v3 < (0 : Int32) → (((nI 24) < v3 → Post (some (.int (0 : Int32))) σ) ∧ (¬ (nI 24) < v3 → Post (some (.int (1 : Int32))) σ))))) ∧ ((v1 = (nI 9) → ((v3 < (0 : Int32) → Post (some (.int (0 : Int32))) σ) ∧ (¬ v3 < (0 : Int32) → (((nI 4) ≤ v3 → Post (some (.int (0 : Int32))) σ) ∧ (¬ (nI 4) ≤ v3 → Post (some (.int (1 : Int32))) σ))))) ∧ ((v1 = (nI 10) → (vp_in v2 10 ∧ (((σ.1 8 v2.toNatClampNeg) = (0 : Int32) → Post (some (.int (1 : Int32))) σ) ∧ (¬ (σ.1 8 v2.toNatClampNeg) = (0 : Int32) → (∃ Q : pz_Ps, pz_WP 68 (0, pz_en 2 [.ref 1, .int v3], []) σ Q ∧ ∀ r8 σ8, Q (some (.int r8)) σ8 → ((r8 = (0 : Int32) → Post (some (.int (0 : Int32))) σ8) ∧ (¬ r8 = (0 : Int32) → Post (some (.int (1 : Int32))) σ8))))))) ∧ True)))))))))))) : pz_WP 67 (0, pz_en 4 [.ref 1, .int v1, .int v2, .int v3], []) σ Post :=
  (ps_iload_n pa_67_0 (Eq.refl 1) rfl (ps_tsw pa_67_1 (fun z1 => (ps_iconst pa_67_188 (Eq.refl 189) (show _ = (1 : Int32) from rfl) (ps_retZ pa_67_189 pr_67 (Or.inr rfl) (h.1 z1)))) ⟨fun z1 => (ps_aload_n pa_67_56 (Eq.refl 57) rfl (ps_iload_n pa_67_57 (Eq.refl 58) rfl (ps_cVi (As := [.int v3]) (r := []) pa_67_58 (Eq.refl 61) pm_68 rfl pc_1 rfl rfl (Nat.le_of_ble_eq_true rfl) (Nat.le_of_ble_eq_true rfl) (Exists.imp (fun Q z2 => ⟨z2.1, fun z2a z2b z2c => (ps_retZ pa_67_61 pr_67 (z2.2 z2a z2b z2c).1 (z2.2 z2a z2b z2c).2)⟩) (h.2.1 z1))))), ⟨fun z1 => (ps_aload_n pa_67_62 (Eq.refl 63) rfl (ps_iload_n pa_67_63 (Eq.refl 64) rfl (ps_cVi (As := [.int v3]) (r := []) pa_67_64 (Eq.refl 67) pm_55 rfl pc_1 rfl rfl (Nat.le_of_ble_eq_true rfl) (Nat.le_of_ble_eq_true rfl) (Exists.imp (fun Q z3 => ⟨z3.1, fun z3a z3b z3c => (ps_retZ pa_67_67 pr_67 (z3.2 z3a z3b z3c).1 (z3.2 z3a z3b z3c).2)⟩) (h.2.2.1 z1))))), ⟨fun z1 => (ps_aload_n pa_67_68 (Eq.refl 69) rfl (ps_iload_n pa_67_69 (Eq.refl 70) rfl (ps_iconst pa_67_70 (Eq.refl 71) (show _ = (0 : Int32) from rfl) (ps_cVi (As := [.int v3, .int (0 : Int32)]) (r := []) pa_67_71 (Eq.refl 74) pm_69 rfl pc_1 rfl rfl (Nat.le_of_ble_eq_true rfl) (Nat.le_of_ble_eq_true rfl) (Exists.imp (fun Q z4 => ⟨z4.1, fun z4a z4b z4c => (ps_retZ pa_67_74 pr_67 (z4.2 z4a z4b z4c).1 (z4.2 z4a z4b z4c).2)⟩) (h.2.2.2.1 z1)))))), ⟨fun z1 => (ps_aload_n pa_67_75 (Eq.refl 76) rfl (ps_iload_n pa_67_76 (Eq.refl 77) rfl (ps_iconst pa_67_77 (Eq.refl 78) (show _ = (1 : Int32) from rfl) (ps_cVi (As := [.int v3, .int (1 : Int32)]) (r := []) pa_67_78 (Eq.refl 81) pm_69 rfl pc_1 rfl rfl (Nat.le_of_ble_eq_true rfl) (Nat.le_of_ble_eq_true rfl) (Exists.imp (fun Q z5 => ⟨z5.1, fun z5a z5b z5c => (ps_retZ pa_67_81 pr_67 (z5.2 z5a z5b z5c).1 (z5.2 z5a z5b z5c).2)⟩) (h.2.2.2.2.1 z1)))))), ⟨fun z1 => (ps_aload_n pa_67_82 (Eq.refl 83) rfl (ps_iload_n pa_67_83 (Eq.refl 84) rfl (ps_cVi (As := [.int v3]) (r := []) pa_67_84 (Eq.refl 87) pm_56 rfl pc_1 rfl rfl (Nat.le_of_ble_eq_true rfl) (Nat.le_of_ble_eq_true rfl) (Exists.imp (fun Q z6 => ⟨z6.1, fun z6a z6b z6c => (ps_if pa_67_87 (Eq.refl 90) ⟨fun z8 => (ps_iconst pa_67_103 (Eq.refl 104) (show _ = (0 : Int32) from rfl) (ps_retZ pa_67_104 pr_67 (Or.inl rfl) ((z6.2 z6a z6b z6c).1 z8))), fun z8 => (ps_aload_n pa_67_90 (Eq.refl 91) rfl (ps_getR pa_67_91 (Eq.refl 94) pf_1_4_7 (ps_iload_n pa_67_94 (Eq.refl 95) rfl (ps_zald pa_67_95 (Eq.refl 96) pg_5 ((z6.2 z6a z6b z6c).2 z8).1 (ps_if pa_67_96 (Eq.refl 99) ⟨fun z7 => (ps_iconst pa_67_99 (Eq.refl 100) (show _ = (1 : Int32) from rfl) (ps_goto pa_67_100 (ps_retZ pa_67_104 pr_67 (Or.inr rfl) (((z6.2 z6a z6b z6c).2 z8).2.1 z7)))), fun z7 => (ps_iconst pa_67_103 (Eq.refl 104) (show _ = (0 : Int32) from rfl) (ps_retZ pa_67_104 pr_67 (Or.inl rfl) (((z6.2 z6a z6b z6c).2 z8).2.2 z7)))⟩)))))⟩)⟩) (h.2.2.2.2.2.1 z1))))), ⟨fun z1 => (ps_aload_n pa_67_105 (Eq.refl 106) rfl (ps_iload_n pa_67_106 (Eq.refl 107) rfl (ps_cVi (As := [.int v3]) (r := []) pa_67_107 (Eq.refl 110) pm_56 rfl pc_1 rfl rfl (Nat.le_of_ble_eq_true rfl) (Nat.le_of_ble_eq_true rfl) (Exists.imp (fun Q z9 => ⟨z9.1, fun z9a z9b z9c => (ps_if pa_67_110 (Eq.refl 113) ⟨fun z11 => (ps_iconst pa_67_126 (Eq.refl 127) (show _ = (0 : Int32) from rfl) (ps_retZ pa_67_127 pr_67 (Or.inl rfl) ((z9.2 z9a z9b z9c).1 z11))), fun z11 => (ps_aload_n pa_67_113 (Eq.refl 114) rfl (ps_getR pa_67_114 (Eq.refl 117) pf_1_4_7 (ps_iload_n pa_67_117 (Eq.refl 118) rfl (ps_zald pa_67_118 (Eq.refl 119) pg_5 ((z9.2 z9a z9b z9c).2 z11).1 (ps_if pa_67_119 (Eq.refl 122) ⟨fun z10 => (ps_iconst pa_67_126 (Eq.refl 127) (show _ = (0 : Int32) from rfl) (ps_retZ pa_67_127 pr_67 (Or.inl rfl) (((z9.2 z9a z9b z9c).2 z11).2.1 z10))), fun z10 => (ps_iconst pa_67_122 (Eq.refl 123) (show _ = (1 : Int32) from rfl) (ps_goto pa_67_123 (ps_retZ pa_67_127 pr_67 (Or.inr rfl) (((z9.2 z9a z9b z9c).2 z11).2.2 z10))))⟩)))))⟩)⟩) (h.2.2.2.2.2.2.1 z1))))), ⟨fun z1 => (ps_aload_n pa_67_128 (Eq.refl 129) rfl (ps_iload_n pa_67_129 (Eq.refl 130) rfl (ps_cVi (As := [.int v3]) (r := []) pa_67_130 (Eq.refl 133) pm_57 rfl pc_1 rfl rfl (Nat.le_of_ble_eq_true rfl) (Nat.le_of_ble_eq_true rfl) (Exists.imp (fun Q z12 => ⟨z12.1, fun z12a z12b z12c => (ps_retZ pa_67_133 pr_67 (z12.2 z12a z12b z12c).1 (z12.2 z12a z12b z12c).2)⟩) (h.2.2.2.2.2.2.2.1 z1))))), ⟨fun z1 => (ps_iload_n pa_67_134 (Eq.refl 135) rfl (ps_if pa_67_135 (Eq.refl 138) ⟨fun z14 => (ps_iconst pa_67_148 (Eq.refl 149) (show _ = (0 : Int32) from rfl) (ps_retZ pa_67_149 pr_67 (Or.inl rfl) ((h.2.2.2.2.2.2.2.2.1 z1).1 z14))), fun z14 => (ps_iload_n pa_67_138 (Eq.refl 139) rfl (ps_bipush pa_67_139 (Eq.refl 141) (show _ = (nI 24) from rfl) (ps_cmp pa_67_141 (Eq.refl 144) ⟨fun z13 => (ps_iconst pa_67_148 (Eq.refl 149) (show _ = (0 : Int32) from rfl) (ps_retZ pa_67_149 pr_67 (Or.inl rfl) (((h.2.2.2.2.2.2.2.2.1 z1).2 z14).1 z13))), fun z13 => (ps_iconst pa_67_144 (Eq.refl 145) (show _ = (1 : Int32) from rfl) (ps_goto pa_67_145 (ps_retZ pa_67_149 pr_67 (Or.inr rfl) (((h.2.2.2.2.2.2.2.2.1 z1).2 z14).2 z13))))⟩)))⟩)), ⟨fun z1 => (ps_iload_n pa_67_150 (Eq.refl 151) rfl (ps_if pa_67_151 (Eq.refl 154) ⟨fun z16 => (ps_iconst pa_67_163 (Eq.refl 164) (show _ = (0 : Int32) from rfl) (ps_retZ pa_67_164 pr_67 (Or.inl rfl) ((h.2.2.2.2.2.2.2.2.2.1 z1).1 z16))), fun z16 => (ps_iload_n pa_67_154 (Eq.refl 155) rfl (ps_iconst pa_67_155 (Eq.refl 156) (show _ = (nI 4) from rfl) (ps_cmp pa_67_156 (Eq.refl 159) ⟨fun z15 => (ps_iconst pa_67_163 (Eq.refl 164) (show _ = (0 : Int32) from rfl) (ps_retZ pa_67_164 pr_67 (Or.inl rfl) (((h.2.2.2.2.2.2.2.2.2.1 z1).2 z16).1 z15))), fun z15 => (ps_iconst pa_67_159 (Eq.refl 160) (show _ = (1 : Int32) from rfl) (ps_goto pa_67_160 (ps_retZ pa_67_164 pr_67 (Or.inr rfl) (((h.2.2.2.2.2.2.2.2.2.1 z1).2 z16).2 z15))))⟩)))⟩)), ⟨fun z1 => (ps_aload_n pa_67_165 (Eq.refl 166) rfl (ps_getR pa_67_166 (Eq.refl 169) pf_1_4_10 (ps_iload_n pa_67_169 (Eq.refl 170) rfl (ps_iald pa_67_170 (Eq.refl 171) pg_8 rfl rfl (h.2.2.2.2.2.2.2.2.2.2.1 z1).1 (ps_if pa_67_171 (Eq.refl 174) ⟨fun z19 => (ps_iconst pa_67_182 (Eq.refl 183) (show _ = (1 : Int32) from rfl) (ps_goto pa_67_183 (ps_retZ pa_67_187 pr_67 (Or.inr rfl) ((h.2.2.2.2.2.2.2.2.2.2.1 z1).2.1 z19)))), fun z19 => (ps_aload_n pa_67_174 (Eq.refl 175) rfl (ps_iload_n pa_67_175 (Eq.refl 176) rfl (ps_cVi (As := [.int v3]) (r := []) pa_67_176 (Eq.refl 179) pm_68 rfl pc_1 rfl rfl (Nat.le_of_ble_eq_true rfl) (Nat.le_of_ble_eq_true rfl) (Exists.imp (fun Q z17 => ⟨z17.1, fun z17a z17b z17c => (ps_if pa_67_179 (Eq.refl 182) ⟨fun z18 => (ps_iconst pa_67_186 (Eq.refl 187) (show _ = (0 : Int32) from rfl) (ps_retZ pa_67_187 pr_67 (Or.inl rfl) ((z17.2 z17a z17b z17c).1 z18))), fun z18 => (ps_iconst pa_67_182 (Eq.refl 183) (show _ = (1 : Int32) from rfl) (ps_goto pa_67_183 (ps_retZ pa_67_187 pr_67 (Or.inr rfl) ((z17.2 z17a z17b z17c).2 z18))))⟩)⟩) ((h.2.2.2.2.2.2.2.2.2.2.1 z1).2.2 z19)))))⟩))))), trivial⟩⟩⟩⟩⟩⟩⟩⟩⟩⟩))
theorem pa_68_0 : pz_at 68 0 = some (0, .iload_n 1, 1, 0, 0, 0) := by decide +kernel
theorem pa_68_1 : pz_at 68 1 = some (1, .ifCond .lt 13, 3, 14, 0, 0) := by decide +kernel
theorem pa_68_10 : pz_at 68 10 = some (10, .iconst 1, 1, 0, 0, 0) := by decide +kernel
theorem pa_68_11 : pz_at 68 11 = some (11, .goto 4, 3, 15, 0, 0) := by decide +kernel
theorem pa_68_14 : pz_at 68 14 = some (14, .iconst 0, 1, 0, 0, 0) := by decide +kernel
theorem pa_68_15 : pz_at 68 15 = some (15, .ireturn, 1, 0, 0, 0) := by decide +kernel
theorem pa_68_4 : pz_at 68 4 = some (4, .iload_n 1, 1, 0, 0, 0) := by decide +kernel
theorem pa_68_5 : pz_at 68 5 = some (5, .bipush 8, 2, 0, 0, 0) := by decide +kernel
theorem pa_68_7 : pz_at 68 7 = some (7, .if_icmp .ge 7, 3, 14, 0, 0) := by decide +kernel
theorem pr_68 : (pz_mi 68).2.2 = (some .boolean) := by decide +kernel
theorem pv_68 (v1 : Int32) (σ : pz_Sg) (Post : pz_Ps) (h : ((v1 < (0 : Int32) → Post (some (.int (0 : Int32))) σ) ∧ (¬ v1 < (0 : Int32) → (((nI 8) ≤ v1 → Post (some (.int (0 : Int32))) σ) ∧ (¬ (nI 8) ≤ v1 → Post (some (.int (1 : Int32))) σ))))) : pz_WP 68 (0, pz_en 2 [.ref 1, .int v1], []) σ Post :=
  (ps_iload_n pa_68_0 (Eq.refl 1) rfl (ps_if pa_68_1 (Eq.refl 4) ⟨fun z2 => (ps_iconst pa_68_14 (Eq.refl 15) (show _ = (0 : Int32) from rfl) (ps_retZ pa_68_15 pr_68 (Or.inl rfl) (h.1 z2))), fun z2 => (ps_iload_n pa_68_4 (Eq.refl 5) rfl (ps_bipush pa_68_5 (Eq.refl 7) (show _ = (nI 8) from rfl) (ps_cmp pa_68_7 (Eq.refl 10) ⟨fun z1 => (ps_iconst pa_68_14 (Eq.refl 15) (show _ = (0 : Int32) from rfl) (ps_retZ pa_68_15 pr_68 (Or.inl rfl) ((h.2 z2).1 z1))), fun z1 => (ps_iconst pa_68_10 (Eq.refl 11) (show _ = (1 : Int32) from rfl) (ps_goto pa_68_11 (ps_retZ pa_68_15 pr_68 (Or.inr rfl) ((h.2 z2).2 z1))))⟩)))⟩))
theorem pa_69_0 : pz_at 69 0 = some (0, .iload_n 1, 1, 0, 0, 0) := by decide +kernel
theorem pa_69_1 : pz_at 69 1 = some (1, .ifCond .lt 25, 3, 26, 0, 0) := by decide +kernel
theorem pa_69_12 : pz_at 69 12 = some (12, .aload_n 0, 1, 0, 0, 0) := by decide +kernel
theorem pa_69_13 : pz_at 69 13 = some (13, .getfield 18, 3, 4, 6, 130) := by decide +kernel
theorem pa_69_16 : pz_at 69 16 = some (16, .iload_n 1, 1, 0, 0, 0) := by decide +kernel
theorem pa_69_17 : pz_at 69 17 = some (17, .baload, 1, 0, 0, 0) := by decide +kernel
theorem pa_69_18 : pz_at 69 18 = some (18, .iload_n 2, 1, 0, 0, 0) := by decide +kernel
theorem pa_69_19 : pz_at 69 19 = some (19, .if_icmp .ne 7, 3, 26, 0, 0) := by decide +kernel
theorem pa_69_22 : pz_at 69 22 = some (22, .iconst 1, 1, 0, 0, 0) := by decide +kernel
theorem pa_69_23 : pz_at 69 23 = some (23, .goto 4, 3, 27, 0, 0) := by decide +kernel
theorem pa_69_26 : pz_at 69 26 = some (26, .iconst 0, 1, 0, 0, 0) := by decide +kernel
theorem pa_69_27 : pz_at 69 27 = some (27, .ireturn, 1, 0, 0, 0) := by decide +kernel
theorem pa_69_4 : pz_at 69 4 = some (4, .iload_n 1, 1, 0, 0, 0) := by decide +kernel
theorem pa_69_5 : pz_at 69 5 = some (5, .aload_n 0, 1, 0, 0, 0) := by decide +kernel
theorem pa_69_6 : pz_at 69 6 = some (6, .getfield 65, 3, 4, 1, 119) := by decide +kernel
theorem pa_69_9 : pz_at 69 9 = some (9, .if_icmp .ge 17, 3, 26, 0, 0) := by decide +kernel
theorem pr_69 : (pz_mi 69).2.2 = (some .boolean) := by decide +kernel
theorem pv_69 (v1 : Int32) (v2 : Int32) (σ : pz_Sg) (Post : pz_Ps) (h : ((v1 < (0 : Int32) → Post (some (.int (0 : Int32))) σ) ∧ (¬ v1 < (0 : Int32) → (((σ.1 1 1) ≤ v1 → Post (some (.int (0 : Int32))) σ) ∧ (¬ (σ.1 1 1) ≤ v1 → (vp_in v1 16 ∧ (((σ.1 4 v1.toNatClampNeg) = v2 → Post (some (.int (1 : Int32))) σ) ∧ (¬ (σ.1 4 v1.toNatClampNeg) = v2 → Post (some (.int (0 : Int32))) σ)))))))) : pz_WP 69 (0, pz_en 3 [.ref 1, .int v1, .int v2], []) σ Post :=
  (ps_iload_n pa_69_0 (Eq.refl 1) rfl (ps_if pa_69_1 (Eq.refl 4) ⟨fun z3 => (ps_iconst pa_69_26 (Eq.refl 27) (show _ = (0 : Int32) from rfl) (ps_retZ pa_69_27 pr_69 (Or.inl rfl) (h.1 z3))), fun z3 => (ps_iload_n pa_69_4 (Eq.refl 5) rfl (ps_aload_n pa_69_5 (Eq.refl 6) rfl (ps_getI pa_69_6 (Eq.refl 9) pf_1_4_1 (ps_cmp pa_69_9 (Eq.refl 12) ⟨fun z2 => (ps_iconst pa_69_26 (Eq.refl 27) (show _ = (0 : Int32) from rfl) (ps_retZ pa_69_27 pr_69 (Or.inl rfl) ((h.2 z3).1 z2))), fun z2 => (ps_aload_n pa_69_12 (Eq.refl 13) rfl (ps_getR pa_69_13 (Eq.refl 16) pf_1_4_6 (ps_iload_n pa_69_16 (Eq.refl 17) rfl (ps_zald pa_69_17 (Eq.refl 18) pg_4 ((h.2 z3).2 z2).1 (ps_iload_n pa_69_18 (Eq.refl 19) rfl (ps_cmp pa_69_19 (Eq.refl 22) ⟨fun z1 => (ps_iconst pa_69_22 (Eq.refl 23) (show _ = (1 : Int32) from rfl) (ps_goto pa_69_23 (ps_retZ pa_69_27 pr_69 (Or.inr rfl) (((h.2 z3).2 z2).2.1 z1)))), fun z1 => (ps_iconst pa_69_26 (Eq.refl 27) (show _ = (0 : Int32) from rfl) (ps_retZ pa_69_27 pr_69 (Or.inl rfl) (((h.2 z3).2 z2).2.2 z1)))⟩))))))⟩))))⟩))
