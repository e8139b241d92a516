theorem op_run (L : Nat) (ys : Nat → Int32) : pz_O19 (iv L ys) := by
  intro v n hn σ H
  have H' := iv_up H
  obtain ⟨h0, nt, nf, ns, nm, nx, h1, h2, h3, h4, h5, h6⟩ := H
  obtain ⟨⟨⟨c1, d1, b1⟩, ⟨c2, d2, b2⟩, ⟨c3, d3, b3⟩, ⟨c4, d4, b4⟩⟩, p2, p3, p4, p5, p6, p7⟩ := id h1
  obtain ⟨pr, hpr, e16, e27, e20⟩ := id h3
  obtain ⟨⟨w1, w1', wb⟩, w2, w3, w4, w5, w6⟩ := id h2
  have hy := pz_byn (x := v) d4 (by omega)
  refine pv_102 _ σ _ (pz_ki (w_isMethod c4 (by omega) v) ⟨fun z => ?_, fun z => ?_⟩)
  · have g := pz_b_0.mp z
    exact ⟨-1, rfl, ⟨rfl, rfl⟩, pv_170 _ _ _ (pz_ki (w_beyond _ _ _ _) ⟨fun y => absurd (hy.mpr g) (pz_b_0.mp y), fun _ => ⟨rfl, H'⟩⟩)⟩
  · have g : vp_in v nm := Classical.not_not.mp fun q => z (pz_b_0.mpr q)
    clear z
    obtain ⟨m0, hm0, rfl⟩ := vp_in_of g (by omega)
    have hm10 : m0 < 10 := by omega
    obtain ⟨F2, hC, o2, ⟨k0, k1⟩, k22, k23, k24, k25⟩ := w_cp21_16 (σ := σ) w1 wb e16 (by omega)
    refine pz_kv hC ?_
    have a1 : rFr (mkB F2 (fi σ.1 95 1290 (sv σ.1))) F2 (fi σ.1 95 1290 (sv σ.1)) := mkB_fr (fun a ha _ => by rw [fi_o (by omega), o2 a (by omega)]) (fun j _ => by rw [fi_o (by decide), o2 55 (by decide)])
    have hQ : rQ (mkB F2 (fi σ.1 95 1290 (sv σ.1))) nt nf ns nm m0 0 := rq_mk h1 (fun a ha => o2 a (fun q => by unfold iv_pgN at ha; simp at ha; omega)) (o2 1 (by decide)) (by rw [o2 55 (by decide)]) hm0 (by decide)
    have hw : iv_wd (mxf F2 (fi σ.1 95 1290 (sv σ.1))) nt ns nx := by
      refine iv_wd_c (F := σ.1) (fun a ha j => ?_) ?_ ?_ h2
      · unfold iv_wdN at ha
        simp at ha
        by_cases q : a ≤ 54
        · rw [mx_c q, o2 a (by omega)]
        · rw [mx_g (by omega), fi_o (by omega)]
      · rw [mx_c (by decide), o2 16 (by decide)]
      · rw [mx_g (by decide), fi_o (by decide)]
    have hrp : rPr F2 (fi σ.1 95 1290 (sv σ.1)) pr := by
      unfold rPr
      rw [o2 16 (by decide), o2 20 (by decide), fi_o (by decide), fi_o (by decide)]
      exact ⟨e16, e27, e20, by omega⟩
    have har : ∀ j, j < 6 → F2 53 j = fi σ.1 95 1290 (sv σ.1) 78 j ∧ fi σ.1 95 1290 (sv σ.1) 79 j = F2 54 j + 1 ∧ iv_rv nx (F2 54 j) := fun j hj => by
      rw [o2 53 (by decide), o2 54 (by decide), fi_o (by decide), fi_o (by decide)]
      exact h4 j hj
    have e0 : F2 0 10 = σ.1 0 10 := by rw [o2 0 (by decide)]
    have hwv : F2 0 10 = 0 ∨ F2 0 10 = 1 := by rw [e0]; exact h5.2.1
    refine pz_kQ (w_goRun (σ := (F2, σ.2)) (G := fi σ.1 95 1290 (sv σ.1)) (wh := 0) (t1 := 0) hQ rfl (by decide) a1 hw hrp (by omega) har (fun x _ => congrFun (mkB_c (by decide)).symm x) hwv ?_ ?_)
    · intro F1 Fx G' nx' dn fl pr' f R hfn hp' hf ef ox o40 o44 o7a o7b hW r er
      cases er
      refine ⟨fun q => absurd q ((by decide +kernel : ∀ f, f < 10 → ¬ nI f = -(nI 4)) f (by omega)), fun _ => ?_⟩
      have h7 : Fx 40 7 = 0 ∨ Fx 40 7 = 1 := hwv.elim (fun q => Or.inl (o7a q)) (fun q => (o7b q).1)
      refine pz_kv (w_cpDeeds (σ := (Fx, σ.2)) h7) ?_
      obtain ⟨r1, ⟨⟨x16, x22, xb⟩, x2, x3, x4, x5, x6⟩, ⟨y1, y2, y3, y4⟩, -, ⟨⟨z1, z1', -⟩, -⟩, ⟨⟨u1, u1', u2⟩, u3, u4, u5⟩, ⟨v1, v2⟩, ⟨q1, q2, -, f', hf', ef', q3⟩, -, -⟩ := id R
      obtain ⟨m1, m2, m3, m4⟩ := mkB_u r1
      have ff : f' = f := (nI_eq (by omega) (by omega)).mp (ef'.symm.trans ef)
      subst ff
      -- the class's cells at the end
      have cF : ∀ a, a ≠ 52 → a ≠ 40 → fi Fx 52 8 (Fx 40) a = F1 a := fun a h52 h40 => by rw [fi_o h52, ox a h40]
      have cO : ∀ a, (a ≤ 102 ∨ a = 1000 ∨ a = 1001) → rcN a = false → a ≠ 52 → ¬ (21 ≤ a ∧ a ≤ 25) → fi Fx 52 8 (Fx 40) a = σ.1 a := fun a ha hn h52 hc => by
        rw [cF a h52 (fun q => by rw [q] at hn; cases hn), m1 a ha hn, o2 a hc]
      have gO : ∀ a, 55 ≤ a ∧ a ≤ 102 → rgN a = false → a ≠ 95 → G' a = σ.1 a := fun a ha hn h95 => by
        by_cases q : a ≤ 94
        · rw [m3 a ⟨ha.1, q⟩ hn, o2 a (by omega)]
        · rw [m2 a ⟨by omega, ha.2⟩, fi_o h95]
      have gJ : ∀ j, rjN j = false → G' 55 j = σ.1 55 j := fun j hj => by rw [m4 j hj, o2 55 (by decide)]
      refine ⟨nI f', rfl, ⟨cO 1000 (Or.inr (Or.inl rfl)) rfl (by decide) (by decide), cO 1001 (Or.inr (Or.inr rfl)) rfl (by decide) (by decide)⟩, ?_⟩
      rw [Ms_eq (s := (fi Fx 52 8 (Fx 40), σ.2)) (G := σ.1) (fun a ha => cO a (Or.inl ha.2) (by unfold rcN; simp; omega) (by omega) (by omega))]
      generalize hT : ((fi Fx 52 8 (Fx 40), σ.2) : pz_Sg) = T
      have tF : T.1 = fi Fx 52 8 (Fx 40) := by rw [← hT]
      have t2 : T.2 = σ.2 := by rw [← hT]
      refine pv_170 _ _ _ (pz_ki (w_beyond _ _ _ _) ⟨fun _ => ?_, fun y => absurd (pz_b_f fun q => (hy.mp q) g) y⟩)
      refine pz_kv w_save95 (pz_ki (hW T _ ⟨rfl, rfl⟩) ⟨fun q => absurd q (by decide), fun _ => ?_⟩)
      have g51 : G' 55 51 = nI f' := q1.symm.trans ef'
      refine w_tellM (res := F1 40 5) hf' g51 ⟨fun _ => q2.symm, fun q => q3.resolve_left (by omega)⟩ (fun Gd hGd => ?_)
      have dO : ∀ a, a ≠ 55 → a ≠ 97 → Gd a = G' a := fun a h5 h9 => by
        rw [hGd, fu_o h9, fu_o h9, fu_o h9, fu_o h9, fu_o h9, fu_o h9, fu_o h5]
      have dJ : ∀ j, j ≠ 62 → Gd 55 j = G' 55 j := fun j hj => by
        rw [hGd, fu_o (by decide), fu_o (by decide), fu_o (by decide), fu_o (by decide), fu_o (by decide), fu_o (by decide), fu_j hj]
      -- all is as it should be behind
      have fin : ∀ w : Int32, ((Fx 40 7 = 0 ∧ w = 1) ∨ (Fx 40 7 = 1 ∧ w = 0)) → iv L ys (n + 1) (Ms T (fu Gd 55 64 w)) := by
        intro w hw7
        have sC : ∀ a, a ≤ 54 ∨ 103 ≤ a → (Ms T (fu Gd 55 64 w)).1 a = fi Fx 52 8 (Fx 40) a := fun a ha => by
          show (if a ≤ 54 ∨ 103 ≤ a then T.1 a else _) = _
          rw [if_pos ha, tF]
        have sG : ∀ a, 55 ≤ a ∧ a ≤ 102 → a ≠ 55 → (Ms T (fu Gd 55 64 w)).1 a = Gd a := fun a ha h5 => by
          rw [Ms_r ha, fu_o h5]
        have sJ : ∀ j, j ≠ 64 → j ≠ 62 → (Ms T (fu Gd 55 64 w)).1 55 j = G' 55 j := fun j h64 h62 => by
          rw [Ms_r (by decide), fu_j h64, dJ j h62]
        refine ⟨⟨?_, fun j hj => ?_⟩, nt, nf, ns, nm, nx', ?_, ?_, ⟨pr', by omega, ?_, ?_, fun k hk hkp => ?_⟩, fun j hj => ?_, ?_, ?_⟩
        · rw [sC 1001 (by decide), cO 1001 (by decide) rfl (by decide) (by decide)]
          exact h0.1
        · rw [sC 1000 (by decide), cO 1000 (by decide) rfl (by decide) (by decide)]
          exact h0.2 j hj
        · refine iv_pg_c (F := σ.1) (fun a ha j => ?_) (fun j _ => ?_) ?_ ?_ ?_ ?_ h1
          · have ha' := ha
            unfold iv_pgN at ha'
            simp at ha'
            by_cases q : a ≤ 54
            · rw [sC a (Or.inl q), cO a (Or.inl (by omega)) (by unfold rcN; simp; omega) (by omega) (by omega)]
            · rw [sG a (by omega) (by omega), dO a (by omega) (by omega), gO a (by omega) (by unfold rgN; simp; omega) (by omega)]
          · rw [sC 1 (by decide), cO 1 (by decide) rfl (by decide) (by decide)]
          · rw [sJ 0 (by decide) (by decide), gJ 0 rfl]
          · rw [sJ 2 (by decide) (by decide), gJ 2 rfl]
          · rw [sJ 5 (by decide) (by decide), gJ 5 rfl]
          · rw [sJ 7 (by decide) (by decide), gJ 7 rfl]
        · refine iv_wd_c (F := mxf F1 G') (fun a ha j => ?_) ?_ ?_ R.2.1
          · have ha' := ha
            unfold iv_wdN at ha'
            simp at ha'
            by_cases q : a ≤ 54
            · rw [sC a (Or.inl q), mx_c q, cF a (by omega) (by omega)]
            · rw [sG a (by omega) (by omega), mx_g (by omega), dO a (by omega) (by omega)]
          · rw [sC 16 (by decide), mx_c (by decide), cF 16 (by decide) (by decide)]
          · rw [sJ 22 (by decide) (by decide), mx_g (by decide)]
        · rw [sC 16 (by decide), cF 16 (by decide) (by decide)]
          exact y1
        · rw [sJ 27 (by decide) (by decide)]
          exact y2
        · rw [sC 20 (by decide), cF 20 (by decide) (by decide), sG 77 (by decide) (by decide), dO 77 (by decide) (by decide)]
          exact y3 k hk hkp
        · rw [sC 53 (by decide), cO 53 (by decide) rfl (by decide) (by decide), sC 54 (by decide), cO 54 (by decide) rfl (by decide) (by decide), sG 78 (by decide) (by decide), sG 79 (by decide) (by decide), dO 78 (by decide) (by decide), dO 79 (by decide) (by decide), gO 78 (by decide) rfl (by decide), gO 79 (by decide) rfl (by decide)]
          obtain ⟨j1, j2, j3⟩ := h4 j hj
          exact ⟨j1, j2, iv_rv_le j3 u2⟩
        · refine iv_an_c (σ := σ) (fun a ha j => ?_) ?_ ?_ (fun j => ?_) h5
          · have ha' := ha
            unfold iv_anN at ha'
            simp at ha'
            by_cases q : a ≤ 54
            · rw [sC a (Or.inl q), cO a (Or.inl (by omega)) (by unfold rcN; simp; omega) (by omega) (by omega)]
            · rw [sG a (by omega) (by omega), dO a (by omega) (by omega), gO a (by omega) (by unfold rgN; simp; omega) (by omega)]
          · rw [sC 0 (by decide), cO 0 (by decide) rfl (by decide) (by decide)]
          · rw [sJ 21 (by decide) (by decide), gJ 21 rfl]
          · show T.2 32 j = σ.2 32 j
            rw [t2]
        · have s52 : ∀ k, k < 8 → (Ms T (fu Gd 55 64 w)).1 52 k = Fx 40 k := fun k hk => by rw [sC 52 (by decide), fi_i hk]
          have s97 : (Ms T (fu Gd 55 64 w)).1 97 = Gd 97 := sG 97 (by decide) (by decide)
          refine ⟨Or.inr ⟨?_, fun k hk => ?_⟩, ?_, ?_⟩
          · show fu Gd 55 64 w 55 62 = 1
            rw [hGd]
            rfl
          · rw [s52 k (by omega), s97, hGd]
            rcases (show k = 0 ∨ k = 1 ∨ k = 2 ∨ k = 3 ∨ k = 4 ∨ k = 5 by omega) with rfl | rfl | rfl | rfl | rfl | rfl
            · rw [o40 0 (by decide) (by decide)]
              exact v1
            · rw [o40 1 (by decide) (by decide)]
              exact v2
            · rw [o40 2 (by decide) (by decide), u4]
              show nI (pr' - pr) = G' 55 27 - G' 55 50
              rw [y2, u3, nI_sb u5]
            · rw [o40 3 (by decide) (by decide)]
              exact z1.trans z1'.symm
            · rw [o44]
              show nI nx' - nI nx = G' 55 22 - G' 55 49
              rw [show G' 55 22 = nI nx' from x22, u1']
            · rw [o40 5 (by decide) (by decide)]
              rfl
          · rw [s52 7 (by decide)]
            show (Fx 40 7 = 0 ∧ fu Gd 55 64 w 55 64 = 1) ∨ (Fx 40 7 = 1 ∧ fu Gd 55 64 w 55 64 = 0)
            rw [fu_s]
            exact hw7
          · rw [sJ 39 (by decide) (by decide), gJ 39 rfl]
            exact h6.2.2
      have e21 : G' 55 21 = F2 0 10 := by rw [gJ 21 rfl, e0, h5.1]
      refine ⟨fun q => ⟨rfl, fin 1 (Or.inl ⟨o7a (e21.symm.trans q), rfl⟩)⟩, fun q => ?_⟩
      have wv1 : F2 0 10 = 1 := hwv.resolve_left fun k => q (e21.trans k)
      have an := h5.2.2 (by rw [← e0]; exact wv1) m0 hm0
      obtain ⟨an1, an2, -, -, ⟨an3, -⟩, -⟩ := an
      obtain ⟨qq, hqq, eqq⟩ := fP_q hQ.1 m0 hm0
      have bB54 : ∀ a, a ≤ 54 → ¬ (21 ≤ a ∧ a ≤ 25) → mkB F2 (fi σ.1 95 1290 (sv σ.1)) a = σ.1 a := fun a ha hc => by rw [mkB_c (by omega), o2 a hc]
      have wf := w_fsM (B := mkB F2 (fi σ.1 95 1290 (sv σ.1))) (m0 := m0) (t0 := nx) (pr := pr) (k := pr' - pr) (f := f') (q := qq) (G := Gd) (T := T) hm10 eqq hqq
        (by rw [dO 61 (by decide) (by decide), gO 61 (by decide) rfl (by decide), ← (p5.1 m0 hm0).2.1.1, ← bB54 7 (by decide) (by decide)]; exact eqq)
        wb hf' (by omega)
        (by rw [dJ 49 (by decide)]; exact u1')
        (by rw [dJ 50 (by decide)]; exact u3)
        (by rw [dJ 27 (by decide), y2, Nat.add_sub_cancel' u5])
        (by rw [dJ 51 (by decide)]; exact g51)
        (fun w hw => by rw [dO 86 (by decide) (by decide), gO 86 (by decide) rfl (by decide), bB54 33 (by decide) (by decide)]; exact (an1 w hw).1.symm)
        (fun w hw => by rw [dO 87 (by decide) (by decide), gO 87 (by decide) rfl (by decide), bB54 34 (by decide) (by decide)]; exact (an1 w hw).2.symm)
        (by rw [dO 83 (by decide) (by decide), gO 83 (by decide) rfl (by decide), bB54 37 (by decide) (by decide)]; exact an3.symm)
        (by rw [dO 84 (by decide) (by decide), gO 84 (by decide) rfl (by decide), bB54 35 (by decide) (by decide)]; exact an2.symm)
        (fun j hj => by rw [dO 79 (by decide) (by decide), gO 79 (by decide) rfl (by decide), bB54 54 (by decide) (by decide), Nat.zero_add, (h4 j (by omega)).2.1, qz_sub1])
      have eb : rBd (mkB F2 (fi σ.1 95 1290 (sv σ.1))) m0 0 nx Gd ↔ rBd (mkB F2 (fi σ.1 95 1290 (sv σ.1))) m0 0 nx G' := by
        unfold rBd
        rw [dJ 58 (by decide), dJ 59 (by decide), dO 93 (by decide) (by decide), dO 94 (by decide) (by decide)]
      obtain ⟨s01, siff⟩ := o7b wv1
      refine pz_ki wf ⟨fun k => ?_, fun k => ?_⟩
      · rintro σ4 rfl
        have nb := Classical.not_not.mp (pz_b_0.mp k)
        rw [Ms_u (by decide)]
        refine ⟨?_, fin 0 (Or.inr ⟨siff.mpr (nb.imp eb.mp id), rfl⟩)⟩
        show some (Value.int (Gd 55 51)) = _
        rw [dJ 51 (by decide), g51]
      · rintro σ5 rfl
        have nb : ¬ (rBd (mkB F2 (fi σ.1 95 1290 (sv σ.1))) m0 0 nx Gd ∨ rHb (mkB F2 (fi σ.1 95 1290 (sv σ.1))) m0 (pr' - pr) f') := Classical.not_not.mp fun q => k (pz_b_0.mpr q)
        rw [Ms_u (by decide)]
        refine ⟨?_, fin 1 (Or.inl ⟨s01.resolve_right fun q => nb ((siff.mp q).imp eb.mpr id), rfl⟩)⟩
        show some (Value.int (Gd 55 51)) = _
        rw [dJ 51 (by decide), g51]
    · intro F1 G' r1 hW r er
      cases er
      refine ⟨fun _ => ?_, fun q => absurd rfl q⟩
      obtain ⟨m1, m2, m3, m4⟩ := mkB_u r1
      obtain ⟨Fc, hC2, oc, ⟨l0, l1⟩, l17, l18, l19, l20⟩ := w_cp16_21 (σ := (F1, σ.2)) (nx := nx) (pr := pr) (by show F1 21 0 = _; rw [m1 21 (by decide) rfl]; exact k0) wb (by show F1 21 1 = _; rw [m1 21 (by decide) rfl]; exact k1) (by omega)
      refine pz_kv hC2 ?_
      have cO : ∀ a, (a ≤ 102 ∨ a = 1000 ∨ a = 1001) → rcN a = false → ¬ (16 ≤ a ∧ a ≤ 25) → Fc a = σ.1 a := fun a ha hn hc => by
        rw [oc a (by omega)]
        show F1 a = _
        rw [m1 a ha hn, o2 a (by omega)]
      have gO : ∀ a, 55 ≤ a ∧ a ≤ 102 → rgN a = false → a ≠ 95 → G' a = σ.1 a := fun a ha hn h95 => by
        by_cases q : a ≤ 94
        · rw [m3 a ⟨ha.1, q⟩ hn, o2 a (by omega)]
        · rw [m2 a ⟨by omega, ha.2⟩, fi_o h95]
      have gJ : ∀ j, rjN j = false → G' 55 j = σ.1 55 j := fun j hj => by rw [m4 j hj, o2 55 (by decide)]
      have g95 : ∀ y, y < 1290 → G' 95 y = sv σ.1 y := fun y hy => by rw [m2 95 (by decide), fi_i hy]
      refine ⟨-(nI 4), rfl, ⟨cO 1000 (Or.inr (Or.inl rfl)) rfl (by decide), cO 1001 (Or.inr (Or.inr rfl)) rfl (by decide)⟩, ?_⟩
      rw [Ms_eq (s := (Fc, σ.2)) (G := σ.1) (fun a ha => cO a (Or.inl ha.2) (by unfold rcN; simp; omega) (by omega))]
      generalize hT : ((Fc, σ.2) : pz_Sg) = T
      have tF : T.1 = Fc := by rw [← hT]
      have t2 : T.2 = σ.2 := by rw [← hT]
      refine pv_170 _ _ _ (pz_ki (w_beyond _ _ _ _) ⟨fun _ => ?_, fun y => absurd (pz_b_f fun q => (hy.mp q) g) y⟩)
      refine pz_kv w_save95 (pz_ki (hW T _ ⟨rfl, rfl⟩) ⟨fun _ => pz_kv w_restM ⟨rfl, ?_⟩, fun q => absurd rfl q⟩)
      have sC : ∀ a, a ≤ 54 ∨ 103 ≤ a → (Ms T (rs G')).1 a = Fc a := fun a ha => by
        show (if a ≤ 54 ∨ 103 ≤ a then T.1 a else _) = _
        rw [if_pos ha, tF]
      have sO : ∀ a, 55 ≤ a ∧ a ≤ 102 → a ≠ 55 → ¬ (73 ≤ a ∧ a ≤ 77) → (Ms T (rs G')).1 a = G' a := fun a ha h5 h7 => by
        rw [Ms_r ha]
        unfold rs rs3 rs2 rs1 rs0
        rw [fu_o h5, fu_o h5, fi_o (by omega), fi_o (by omega), fi_o (by omega), fi_o (by omega), fi_o (by omega)]
      have sJ : ∀ j, j ≠ 22 → j ≠ 27 → (Ms T (rs G')).1 55 j = G' 55 j := fun j h2 h7 => by
        rw [Ms_r (by decide)]
        unfold rs
        rw [fu_j h7, fu_j h2]
        rfl
      have s73 : ∀ x, x < 60 → (Ms T (rs G')).1 73 x = σ.1 73 x := fun x hx => by
        have : (Ms T (rs G')).1 73 x = fi G' 73 60 (fun y => G' 95 (2 * y)) 73 x := rfl
        rw [this, fi_i hx, g95 _ (by omega), sv_0 hx]
      have s74 : ∀ x, x < 60 → (Ms T (rs G')).1 74 x = σ.1 74 x := fun x hx => by
        have : (Ms T (rs G')).1 74 x = fi (fi G' 73 60 (fun y => G' 95 (2 * y))) 74 60 (fun y => G' 95 (2 * y + 1)) 74 x := rfl
        rw [this, fi_i hx, g95 _ (by omega), sv_1 hx]
      have s75 : ∀ x, x < 960 → (Ms T (rs G')).1 75 x = σ.1 75 x := fun x hx => by
        have : (Ms T (rs G')).1 75 x = fi (rs0 G') 75 960 (fun y => G' 95 (120 + y)) 75 x := rfl
        rw [this, fi_i hx, g95 _ (by omega), sv_2 hx]
      have s76 : ∀ x, x < 8 → (Ms T (rs G')).1 76 x = σ.1 76 x := fun x hx => by
        have : (Ms T (rs G')).1 76 x = fi (rs1 G') 76 8 (fun y => G' 95 (1080 + y)) 76 x := rfl
        rw [this, fi_i hx, g95 _ (by omega), sv_3 hx]
      have s77 : ∀ x, x < 200 → (Ms T (rs G')).1 77 x = σ.1 77 x := fun x hx => by
        have : (Ms T (rs G')).1 77 x = fi (rs2 G') 77 200 (fun y => G' 95 (1088 + y)) 77 x := rfl
        rw [this, fi_i hx, g95 _ (by omega), sv_4 hx]
      have s22 : (Ms T (rs G')).1 55 22 = σ.1 55 22 := by
        have : (Ms T (rs G')).1 55 22 = G' 95 1288 := rfl
        rw [this, g95 _ (by decide), sv_5]
      have s27 : (Ms T (rs G')).1 55 27 = σ.1 55 27 := by
        have : (Ms T (rs G')).1 55 27 = G' 95 1289 := rfl
        rw [this, g95 _ (by decide), sv_6]
      have f22 : ∀ y, F1 22 y = F2 22 y := fun y => congrFun (m1 22 (by decide) rfl) y
      have f23 : ∀ y, F1 23 y = F2 23 y := fun y => congrFun (m1 23 (by decide) rfl) y
      have f24 : ∀ y, F1 24 y = F2 24 y := fun y => congrFun (m1 24 (by decide) rfl) y
      have f25 : ∀ y, F1 25 y = F2 25 y := fun y => congrFun (m1 25 (by decide) rfl) y
      refine ⟨⟨?_, fun j hj => ?_⟩, nt, nf, ns, nm, nx, ?_, ?_, ⟨pr, by omega, ?_, ?_, fun k hk hkp => ?_⟩, fun j hj => ?_, ?_, ?_⟩
      · rw [sC 1001 (by decide), cO 1001 (by decide) rfl (by decide)]
        exact h0.1
      · rw [sC 1000 (by decide), cO 1000 (by decide) rfl (by decide)]
        exact h0.2 j hj
      · refine iv_pg_c (F := σ.1) (fun a ha j => ?_) (fun j _ => ?_) ?_ ?_ ?_ ?_ h1
        · have ha' := ha
          unfold iv_pgN at ha'
          simp at ha'
          by_cases q : a ≤ 54
          · rw [sC a (Or.inl q), cO a (Or.inl (by omega)) (by unfold rcN; simp; omega) (by omega)]
          · rw [sO a (by omega) (by omega) (by omega), gO a (by omega) (by unfold rgN; simp; omega) (by omega)]
        · rw [sC 1 (by decide), cO 1 (by decide) rfl (by decide)]
        · rw [sJ 0 (by decide) (by decide), gJ 0 rfl]
        · rw [sJ 2 (by decide) (by decide), gJ 2 rfl]
        · rw [sJ 5 (by decide) (by decide), gJ 5 rfl]
        · rw [sJ 7 (by decide) (by decide), gJ 7 rfl]
      · refine iv_wd_r h2 (by rw [sC 16 (by decide)]; exact l0) (s22.trans w1') (fun x hx => ?_) (fun x hx => s73 x (by omega)) (fun x hx => s74 x (by omega)) (fun j hj => ?_) (fun j hj => s75 j (by omega)) (fun s hs => ?_) (fun s hs => s76 s hs) ?_ ?_ ?_ b3
        · rw [sC 17 (by decide), l17 x hx]
          exact (f22 x).trans (k22 x hx)
        · rw [sC 18 (by decide), l18 j hj]
          exact (f23 j).trans (k23 j hj)
        · rw [sC 19 (by decide), l19 s hs]
          exact (f24 s).trans (k24 s hs)
        · rw [sC 3 (by decide), cO 3 (by decide) rfl (by decide)]
        · rw [sC 4 (by decide), cO 4 (by decide) rfl (by decide)]
        · rw [sC 5 (by decide), cO 5 (by decide) rfl (by decide)]
      · rw [sC 16 (by decide)]
        exact l1
      · exact s27.trans e27
      · rw [sC 20 (by decide), l20 k hk hkp, s77 k hk]
        exact ((f25 k).trans (k25 k hk hkp)).trans (e20 k hk hkp)
      · rw [sC 53 (by decide), cO 53 (by decide) rfl (by decide), sC 54 (by decide), cO 54 (by decide) rfl (by decide), sO 78 (by decide) (by decide) (by decide), sO 79 (by decide) (by decide) (by decide), gO 78 (by decide) rfl (by decide), gO 79 (by decide) rfl (by decide)]
        exact h4 j hj
      · refine iv_an_c (σ := σ) (fun a ha j => ?_) ?_ ?_ (fun j => ?_) h5
        · have ha' := ha
          unfold iv_anN at ha'
          simp at ha'
          by_cases q : a ≤ 54
          · rw [sC a (Or.inl q), cO a (Or.inl (by omega)) (by unfold rcN; simp; omega) (by omega)]
          · rw [sO a (by omega) (by omega) (by omega), gO a (by omega) (by unfold rgN; simp; omega) (by omega)]
        · rw [sC 0 (by decide), cO 0 (by decide) rfl (by decide)]
        · rw [sJ 21 (by decide) (by decide), gJ 21 rfl]
        · show T.2 32 j = σ.2 32 j
          rw [t2]
      · refine iv_la_c (F := σ.1) (fun j => ?_) (fun j => ?_) ?_ ?_ h6 ?_
        · rw [sC 52 (by decide), cO 52 (by decide) rfl (by decide)]
        · rw [sO 97 (by decide) (by decide) (by decide), gO 97 (by decide) rfl (by decide)]
        · rw [sJ 62 (by decide) (by decide), gJ 62 rfl]
        · rw [sJ 64 (by decide) (by decide), gJ 64 rfl]
        · rw [sJ 39 (by decide) (by decide), gJ 39 rfl]
