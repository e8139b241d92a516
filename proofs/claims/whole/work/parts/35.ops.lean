/-! ===== shared, method ===== -/
theorem w_addStatic {σ : pz_Sg} {ns : Nat} (h : σ.1 1 2 = nI ns) (hn : ns < 8) (v : Int32) (hv : v = 0 ∨ v = 1) : pz_WP 61 (0, pz_en 2 [.ref 1, .int v], []) σ (pz_is (some (.int (nI ns))) (pz_up (pz_up σ 5 ns v) 1 2 (nI (ns + 1)))) := by
  have cl : (nI ns).toNatClampNeg = ns := nI_clamp (by omega)
  refine pv_61 v σ _ ?_
  rw [h, cl]
  refine ⟨vp_in_nI hn (by decide), hv, ?_⟩
  rintro σ1 rfl σ2 rfl
  have e : (pz_up σ 5 ns v).1 1 2 = nI ns := h
  rw [e, nI_1]
  exact ⟨rfl, rfl⟩
theorem pz_lt8 {x : Int32} {n N : Nat} (hx : x = nI n) (hn : n < 2 ^ 31) (hN : N < 2 ^ 31) : x < nI N ↔ n < N := by
  rw [hx, nI_ltI hn hN]
theorem pz_eq8 {x : Int32} {n N : Nat} (hx : x = nI n) (hn : n < 2 ^ 31) (hN : N < 2 ^ 31) : x = nI N ↔ n = N := by
  rw [hx, nI_eq hn hN]
theorem qz_m1 (n : Nat) : nI (n + 1) - 1 = nI n := nI_pred n
theorem op_shared (L : Nat) (ys : Nat → Int32) : pz_O2 (iv L ys) := by
  intro v hv
  refine op_known fun σ n hn H => ?_
  have H' := iv_up H
  obtain ⟨h0, nt, nf, ns, nm, nx, h1, h2, h3, h4, h5, h6⟩ := H
  obtain ⟨⟨t1, t2, ⟨c3, d3, b3⟩, t4⟩, p2, p3, ⟨rf1, rf2, rs⟩, p5, p6, p7⟩ := id h1
  have cl : (nI ns).toNatClampNeg = ns := nI_clamp (by omega)
  have k1 := pz_lt8 (N := 8) c3 (by omega) (by decide)
  have k2 := pz_eq8 (N := 8) d3 (by omega) (by decide)
  by_cases h : ns < 8
  · have v8 : vp_in (nI ns) 8 := vp_in_nI h (by decide)
    -- the class's own value of a new STATIC
    obtain ⟨w, hw0, hw1⟩ : ∃ w : Int32, (v = 0 → w = 0) ∧ (¬ v = 0 → w = -1) := by
      by_cases q : v = 0
      · exact ⟨0, fun _ => rfl, fun z => absurd q z⟩
      · exact ⟨-1, fun z => absurd z q, fun _ => rfl⟩
    have fin : iv L ys (n + 1) (pz_up (pz_up (pz_up (pz_up (pz_up (pz_up (pz_up (pz_up σ 0 10 0) 19 ns w) 5 ns v) 1 2 (nI (ns + 1))) 55 21 0) 59 ns v) 76 ns w) 55 5 (nI (ns + 1))) := by
      refine ⟨pz_ti_u (pz_ti_u (pz_ti_u (pz_ti_u (pz_ti_u (pz_ti_u (pz_ti_u (pz_ti_u h0 (by omega)) (by omega)) (by omega)) (by omega)) (by omega)) (by omega)) (by omega)) (by omega), nt, nf, ns + 1, nm, nx, ⟨⟨t1, t2, ⟨rfl, rfl, by omega⟩, t4⟩, iv_ty_d (F := σ.1) (fun _ => rfl) (fun _ => rfl) p2, iv_fl_d (F := σ.1) (fun _ => rfl) (fun _ => rfl) (fun _ => rfl) p3, ⟨rf1, rf2, fun s hs => ?_⟩, p5, iv_ln_g (F := σ.1) (Nat.le_refl _) (Nat.le_refl _) (Nat.le_succ _) (Nat.le_refl _) (by omega) (by omega) (by omega) (fun _ _ => rfl) (fun _ a b => absurd a (by omega)) (fun _ => rfl) (fun _ => rfl) (fun _ => rfl) (fun _ => rfl) (fun _ => rfl) (fun _ => rfl) (fun _ => rfl) (fun _ => rfl) (fun _ _ => rfl) (fun x hx => ?_) (fun _ _ => rfl) (fun _ _ => rfl) (fun _ _ => rfl) p6, iv_ca_g (F := σ.1) (fun _ _ => rfl) (fun _ a b => absurd a (by omega)) (fun _ => rfl) (fun _ => rfl) (fun _ => rfl) (fun _ => rfl) (fun _ => rfl) p7⟩, ?_, iv_pr_c (Nat.le_succ n) rfl rfl (fun _ => rfl) (fun _ => rfl) h3, iv_ar_c (fun _ => rfl) (fun _ => rfl) (fun _ => rfl) (fun _ => rfl) h4, iv_an_0 rfl rfl, iv_la_c (fun _ => rfl) (fun _ => rfl) rfl rfl h6⟩
      · by_cases q : s = ns
        · subst q
          simp only [qz_rd]
          simp
          exact hv
        · simp only [qz_rd, q, and_false, if_false]
          simpa using rs s hs
      · have q : ¬ x = ns := by omega
        simp [qz_rd, q]
      · obtain ⟨w1, w2, w3, w4, w5, w6⟩ := h2
        refine ⟨w1, w2, w3, fun s hs => ?_, w5, fun s hs hr => ?_⟩
        · by_cases q : s = ns
          · subst q
            simp [qz_rd]
          · have := w4 s hs
            simp [qz_rd, q, this]
        · by_cases q : s = ns
          · subst q
            have hv1 : v = 1 := by simpa [qz_rd] using hr
            have : w = -1 := hw1 (by rw [hv1]; decide)
            simp [qz_rd, this, iv_rv]
          · have hr' : σ.1 5 s = 1 := by simpa [qz_rd, q] using hr
            have := w6 s (by omega) hr'
            simpa [qz_rd, q] using this
    refine ⟨nI ns, (pz_up (pz_up (pz_up (pz_up σ 0 10 0) 19 ns w) 5 ns v) 1 2 (nI (ns + 1))), _, pv_84 v σ _ ⟨fun _ => ?_, fun z => absurd (k1.mpr h) z⟩, ?_, pv_113 v _ _ ⟨fun z => absurd ((pz_eq8 (N := 8) (x := σ.1 55 5) d3 (by omega) (by decide)).mp z) (by omega), fun _ => ?_⟩, fin⟩
    · intro σ1 e1
      subst e1
      have e : (pz_up σ 0 10 0).1 1 2 = nI ns := c3
      rw [e, cl]
      refine ⟨fun z => ⟨v8, fun σ2 e2 => ?_⟩, fun z => ⟨v8, fun σ2 e2 => ?_⟩⟩
      · subst e2
        have hw := hw0 z
        subst hw
        exact pz_ki (w_addStatic (σ := pz_up (pz_up σ 0 10 0) 19 ns 0) c3 h v hv) ⟨rfl, rfl⟩
      · subst e2
        have hw := hw1 z
        subst hw
        exact pz_ki (w_addStatic (σ := pz_up (pz_up σ 0 10 0) 19 ns (-1)) c3 h v hv) ⟨rfl, rfl⟩
    · exact ⟨rfl, rfl⟩
    · intro σ1 e1
      subst e1
      have e : (pz_up (pz_up (pz_up (pz_up (pz_up σ 0 10 0) 19 ns w) 5 ns v) 1 2 (nI (ns + 1))) 55 21 0).1 55 5 = nI ns := d3
      rw [e, cl]
      refine ⟨v8, hv, fun σ2 e2 => ?_⟩
      subst e2
      have last : pz_WP 113 (44, [some (.ref 55), none], [.int w, .int (nI ns), .ref 76]) (pz_up (pz_up (pz_up (pz_up (pz_up (pz_up σ 0 10 0) 19 ns w) 5 ns v) 1 2 (nI (ns + 1))) 55 21 0) 59 ns v) (pz_is (some (.int (nI ns))) (pz_up (pz_up (pz_up (pz_up (pz_up (pz_up (pz_up (pz_up σ 0 10 0) 19 ns w) 5 ns v) 1 2 (nI (ns + 1))) 55 21 0) 59 ns v) 76 ns w) 55 5 (nI (ns + 1)))) := by
        refine pv_113_44 _ _ _ _ ?_
        rw [cl]
        refine ⟨v8, fun σ3 e3 σ4 e4 => ?_⟩
        subst e3
        subst e4
        have e5 : (pz_up (pz_up (pz_up (pz_up (pz_up (pz_up (pz_up σ 0 10 0) 19 ns w) 5 ns v) 1 2 (nI (ns + 1))) 55 21 0) 59 ns v) 76 ns w).1 55 5 = nI ns := d3
        rw [e5, nI_1]
        refine pz_ans ?_ rfl
        rw [qz_rs, qz_m1]
      rw [show (pz_up (pz_up (pz_up (pz_up (pz_up (pz_up σ 0 10 0) 19 ns w) 5 ns v) 1 2 (nI (ns + 1))) 55 21 0) 59 ns v).1 55 5 = nI ns from d3]
      refine ⟨fun z => ?_, fun z => ?_⟩
      · have hw := hw0 z; subst hw; exact last
      · have hw := hw1 z; subst hw; exact last
  · refine ⟨-(nI 3), σ, σ, pv_84 v σ _ ⟨fun z => absurd (k1.mp z) h, fun _ => ⟨rfl, rfl⟩⟩, ⟨rfl, rfl⟩, pv_113 v σ _ ⟨fun _ => ⟨rfl, rfl⟩, fun z => absurd (k2.mpr (by omega)) z⟩, H'⟩
