/-! ===== method, caught ===== -/
theorem pz_gtn {x : Int32} {n : Nat} (hn : n + 1 < 2 ^ 31) : nI n < x ↔ nI (n + 1) ≤ x := by
  rw [Int32.lt_iff_toInt_lt, Int32.le_iff_toInt_le, nI_toInt (by omega), nI_toInt hn]
  omega
/-- within 0 to n, by the class's two tests -/
theorem pz_to {x : Int32} {n : Nat} (hn : n + 1 < 2 ^ 31) : vp_in x (n + 1) ↔ ¬ x < 0 ∧ ¬ nI n < x := by
  rw [pz_gtn hn]
  exact pz_ix rfl hn
theorem w_addMethod {σ : pz_Sg} {nm : Nat} (h : σ.1 1 3 = nI nm) (hn : nm < 10) (p q r : Int32) : pz_WP 62 (0, pz_en 4 [.ref 1, .int p, .int q, .int r], []) σ (pz_is (some (.int (nI nm))) (pz_up (pz_up (pz_up (pz_up σ 6 nm p) 7 nm q) 8 nm r) 1 3 (nI (nm + 1)))) := by
  have cl : (nI nm).toNatClampNeg = nm := nI_clamp (by omega)
  have vi : vp_in (nI nm) 10 := vp_in_nI hn (by decide)
  refine pv_62 p q r σ _ ?_
  rw [h, cl]
  refine ⟨vi, ?_⟩
  rintro σ1 rfl
  rw [show (pz_up σ 6 nm p).1 1 3 = nI nm from h, cl]
  refine ⟨vi, ?_⟩
  rintro σ2 rfl
  rw [show (pz_up (pz_up σ 6 nm p) 7 nm q).1 1 3 = nI nm from h, cl]
  refine ⟨vi, ?_⟩
  rintro σ3 rfl σ4 rfl
  rw [show (pz_up (pz_up (pz_up σ 6 nm p) 7 nm q) 8 nm r).1 1 3 = nI nm from h, nI_1]
  exact ⟨rfl, rfl⟩
theorem op_method (L : Nat) (ys : Nat → Int32) : pz_O3 (iv L ys) := by
  intro p q r
  refine op_known fun σ n hn H => ?_
  have H' := iv_up H
  obtain ⟨h0, nt, nf, ns, nm, nx, h1, h2, h3, h4, h5, h6⟩ := H
  obtain ⟨⟨t1, t2, t3, ⟨c4, d4, b4⟩⟩, p2, p3, p4, p5, p6, p7⟩ := id h1
  have cl : (nI nm).toNatClampNeg = nm := nI_clamp (by omega)
  have e1 : vp_in p (3 + 1) ↔ ¬ p < 0 ∧ ¬ nI 3 < p := pz_to (by decide)
  have e2 : vp_in q (3 + 1) ↔ ¬ q < 0 ∧ ¬ nI 3 < q := pz_to (by decide)
  have e3 : vp_in r (2 + 1) ↔ ¬ r < 0 ∧ ¬ nI 2 < r := pz_to (by decide)
  have e3' : r ≤ nI 2 ↔ ¬ nI 2 < r := Int32.not_lt.symm
  have y1 : (p.toInt64 < (0 : Int64) ∨ lN 3 < p.toInt64) ↔ ¬ vp_in p (3 + 1) := pz_byc (by decide)
  have y2 : (q.toInt64 < (0 : Int64) ∨ lN 3 < q.toInt64) ↔ ¬ vp_in q (3 + 1) := pz_byc (by decide)
  have y3 : (r.toInt64 < (0 : Int64) ∨ lN 2 < r.toInt64) ↔ ¬ vp_in r (2 + 1) := pz_byc (by decide)
  by_cases g : vp_in p 4 ∧ vp_in q 4 ∧ vp_in r 3
  · obtain ⟨g1, g2, g3⟩ := g
    have q1 := e1.mp g1
    have q2 := e2.mp g2
    have q3 := e3.mp g3
    by_cases h : nm < 10
    · have vi : vp_in (nI nm) 10 := vp_in_nI h (by decide)
      refine ⟨nI nm, pz_up (pz_up (pz_up (pz_up (pz_up σ 0 10 0) 6 nm p) 7 nm q) 8 nm r) 1 3 (nI (nm + 1)), pz_up (pz_up (pz_up (pz_up (pz_up (pz_up (pz_up (pz_up (pz_up (pz_up (pz_up (pz_up σ 0 10 0) 6 nm p) 7 nm q) 8 nm r) 1 3 (nI (nm + 1))) 55 21 0) 60 nm p) 61 nm q) 62 nm r) 63 nm 0) 68 nm 0) 55 7 (nI (nm + 1)), pv_85 p q r σ _ ⟨fun z => absurd z q1.1, fun _ => ⟨fun z => absurd z q1.2, fun _ => ⟨fun z => absurd z q2.1, fun _ => ⟨fun z => absurd z q2.2, fun _ => ⟨fun z => absurd z q3.1, fun _ => ⟨fun _ => ⟨fun _ => ?_, fun z => absurd ((pz_lt8 c4 (by omega) (by decide)).mpr h) z⟩, fun z => absurd (e3'.mpr q3.2) z⟩⟩⟩⟩⟩⟩, ⟨rfl, rfl⟩, pv_114 p q r _ _ (pz_ki (w_beyond _ _ _ _) ⟨fun _ => pz_ki (w_beyond _ _ _ _) ⟨fun _ => pz_ki (w_beyond _ _ _ _) ⟨fun _ => ⟨fun z => absurd ((pz_eq8 (x := σ.1 55 7) d4 (by omega) (by decide)).mp z) (by omega), fun _ => ?_⟩, fun z => absurd (pz_b_0.mpr (fun y => y3.mp y g3)) z⟩, fun z => absurd (pz_b_0.mpr (fun y => y2.mp y g2)) z⟩, fun z => absurd (pz_b_0.mpr (fun y => y1.mp y g1)) z⟩), ?_⟩
      · rintro σ1 rfl
        exact pz_ki (w_addMethod (σ := pz_up σ 0 10 0) c4 h p q r) ⟨rfl, rfl⟩
      · intro σ4 e
        subst e
        rw [show (pz_up (pz_up (pz_up (pz_up (pz_up (pz_up σ 0 10 0) 6 nm p) 7 nm q) 8 nm r) 1 3 (nI (nm + 1))) 55 21 0).1 55 7 = nI nm from d4, cl]
        refine ⟨vi, fun σ5 e => ?_⟩
        subst e
        rw [show (pz_up (pz_up (pz_up (pz_up (pz_up (pz_up (pz_up σ 0 10 0) 6 nm p) 7 nm q) 8 nm r) 1 3 (nI (nm + 1))) 55 21 0) 60 nm p).1 55 7 = nI nm from d4, cl]
        refine ⟨vi, fun σ5 e => ?_⟩
        subst e
        rw [show (pz_up (pz_up (pz_up (pz_up (pz_up (pz_up (pz_up (pz_up σ 0 10 0) 6 nm p) 7 nm q) 8 nm r) 1 3 (nI (nm + 1))) 55 21 0) 60 nm p) 61 nm q).1 55 7 = nI nm from d4, cl]
        refine ⟨vi, fun σ5 e => ?_⟩
        subst e
        rw [show (pz_up (pz_up (pz_up (pz_up (pz_up (pz_up (pz_up (pz_up (pz_up σ 0 10 0) 6 nm p) 7 nm q) 8 nm r) 1 3 (nI (nm + 1))) 55 21 0) 60 nm p) 61 nm q) 62 nm r).1 55 7 = nI nm from d4, cl]
        refine ⟨vi, fun σ5 e => ?_⟩
        subst e
        rw [show (pz_up (pz_up (pz_up (pz_up (pz_up (pz_up (pz_up (pz_up (pz_up (pz_up σ 0 10 0) 6 nm p) 7 nm q) 8 nm r) 1 3 (nI (nm + 1))) 55 21 0) 60 nm p) 61 nm q) 62 nm r) 63 nm 0).1 55 7 = nI nm from d4, cl]
        refine ⟨vi, fun σ5 e σ6 e6 => ?_⟩
        subst e
        rw [show (pz_up (pz_up (pz_up (pz_up (pz_up (pz_up (pz_up (pz_up (pz_up (pz_up (pz_up σ 0 10 0) 6 nm p) 7 nm q) 8 nm r) 1 3 (nI (nm + 1))) 55 21 0) 60 nm p) 61 nm q) 62 nm r) 63 nm 0) 68 nm 0).1 55 7 = nI nm from d4, nI_1] at e6
        subst e6
        refine pz_ans ?_ rfl
        rw [qz_rs, qz_m1]
      · refine ⟨pz_ti_u (pz_ti_u (pz_ti_u (pz_ti_u (pz_ti_u (pz_ti_u (pz_ti_u (pz_ti_u (pz_ti_u (pz_ti_u (pz_ti_u (pz_ti_u h0 (by omega)) (by omega)) (by omega)) (by omega)) (by omega)) (by omega)) (by omega)) (by omega)) (by omega)) (by omega)) (by omega)) (by omega), nt, nf, ns, nm + 1, nx, ⟨⟨t1, t2, t3, ⟨rfl, rfl, by omega⟩⟩, iv_ty_d (F := σ.1) (fun _ => rfl) (fun _ => rfl) p2, iv_fl_d (F := σ.1) (fun _ => rfl) (fun _ => rfl) (fun _ => rfl) p3, p4, ⟨fun m hm => ?_, fun m m1 m2 => p5.2 m (by omega) m2⟩, iv_ln_g (F := σ.1) (Nat.le_refl _) (Nat.le_refl _) (Nat.le_refl _) (Nat.le_succ _) (by omega) (by omega) (by omega) (fun m hm => rfl) (fun m a b => (p5.2 m a (by omega)).1) (fun _ => rfl) (fun _ => rfl) (fun _ => rfl) (fun _ => rfl) (fun _ => rfl) (fun _ => rfl) (fun _ => rfl) (fun _ => rfl) (fun _ _ => rfl) (fun _ _ => rfl) (fun x hx => ?_) (fun x hx => ?_) (fun x hx => ?_) p6, iv_ca_g (F := σ.1) (fun m hm => rfl) (fun m a b => (p5.2 m a (by omega)).2) (fun _ => rfl) (fun _ => rfl) (fun _ => rfl) (fun _ => rfl) (fun _ => rfl) p7⟩, iv_wd_c (qz_fr1 (qz_fr1 (qz_fr1 (qz_fr1 (qz_fr1 (qz_fr1 (qz_fr1 (qz_fr1 (qz_fr1 (qz_fr1 (qz_fr1 (qz_fr1 qz_fr0 rfl) rfl) rfl) rfl) rfl) rfl) rfl) rfl) rfl) rfl) rfl) rfl) rfl rfl h2, iv_pr_c (Nat.le_succ n) rfl rfl (fun _ => rfl) (fun _ => rfl) h3, iv_ar_c (fun _ => rfl) (fun _ => rfl) (fun _ => rfl) (fun _ => rfl) h4, iv_an_0 rfl rfl, iv_la_c (fun _ => rfl) (fun _ => rfl) rfl rfl h6⟩
        · by_cases hq : m = nm
          · subst hq
            obtain ⟨a, ha, rfl⟩ := vp_in_of g1 (by decide)
            obtain ⟨b, hb, rfl⟩ := vp_in_of g2 (by decide)
            obtain ⟨d, hd, rfl⟩ := vp_in_of g3 (by decide)
            obtain ⟨z9, z14⟩ := p5.2 m (Nat.le_refl _) h
            simp only [qz_rd]
            simp [z9, z14]
            exact ⟨⟨a, by omega, rfl⟩, ⟨b, by omega, rfl⟩, ⟨d, by omega, rfl⟩, ⟨0, by omega, rfl⟩, ⟨0, by omega, rfl⟩⟩
          · have := p5.1 m (by omega)
            simpa [qz_rd, hq] using this
        · have hq : ¬ x = nm := by omega
          simp [qz_rd, hq]
        · have hq : ¬ x = nm := by omega
          simp [qz_rd, hq]
        · have hq : ¬ x = nm := by omega
          simp [qz_rd, hq]
    · refine ⟨-(nI 3), σ, σ, pv_85 p q r σ _ ⟨fun z => absurd z q1.1, fun _ => ⟨fun z => absurd z q1.2, fun _ => ⟨fun z => absurd z q2.1, fun _ => ⟨fun z => absurd z q2.2, fun _ => ⟨fun z => absurd z q3.1, fun _ => ⟨fun _ => ⟨fun z => absurd ((pz_lt8 c4 (by omega) (by decide)).mp z) h, fun _ => ⟨rfl, rfl⟩⟩, fun z => absurd (e3'.mpr q3.2) z⟩⟩⟩⟩⟩⟩, ⟨rfl, rfl⟩, pv_114 p q r _ _ (pz_ki (w_beyond _ _ _ _) ⟨fun _ => pz_ki (w_beyond _ _ _ _) ⟨fun _ => pz_ki (w_beyond _ _ _ _) ⟨fun _ => ⟨fun _ => ⟨rfl, rfl⟩, fun z => absurd ((pz_eq8 (x := σ.1 55 7) d4 (by omega) (by decide)).mpr (by omega)) z⟩, fun z => absurd (pz_b_0.mpr (fun y => y3.mp y g3)) z⟩, fun z => absurd (pz_b_0.mpr (fun y => y2.mp y g2)) z⟩, fun z => absurd (pz_b_0.mpr (fun y => y1.mp y g1)) z⟩), H'⟩
  · refine ⟨-(nI 2), σ, σ, pv_85 p q r σ _ ⟨fun _ => ⟨rfl, rfl⟩, fun a1 => ⟨fun _ => ⟨rfl, rfl⟩, fun a2 => ⟨fun _ => ⟨rfl, rfl⟩, fun a3 => ⟨fun _ => ⟨rfl, rfl⟩, fun a4 => ⟨fun _ => ⟨rfl, rfl⟩, fun a5 => ⟨fun a6 => absurd ⟨e1.mpr ⟨a1, a2⟩, e2.mpr ⟨a3, a4⟩, e3.mpr ⟨a5, e3'.mp a6⟩⟩ g, fun _ => ⟨rfl, rfl⟩⟩⟩⟩⟩⟩⟩, ⟨rfl, rfl⟩, pv_114 p q r _ _ (pz_ki (w_beyond _ _ _ _) ⟨fun b1 => pz_ki (w_beyond _ _ _ _) ⟨fun b2 => pz_ki (w_beyond _ _ _ _) ⟨fun b3 => absurd ⟨Classical.not_not.mp fun y => pz_b_0.mp b1 (y1.mpr y), Classical.not_not.mp fun y => pz_b_0.mp b2 (y2.mpr y), Classical.not_not.mp fun y => pz_b_0.mp b3 (y3.mpr y)⟩ g, fun _ => ⟨rfl, rfl⟩⟩, fun _ => ⟨rfl, rfl⟩⟩, fun _ => ⟨rfl, rfl⟩⟩), H'⟩
