/-! ===== stat, kind, set, arg, shared, method ===== -/
theorem vp_le {x : Int32} {n m : Nat} (h : vp_in x n) (hm : n ≤ m) : vp_in x m := by
  rw [vp_in_iff] at h ⊢
  omega
theorem iv_rv_i {nx : Nat} (hn : nx < 2 ^ 31) {v : Int32} : iv_rv nx v ↔ v = -1 ∨ vp_in v nx := by
  unfold iv_rv
  refine or_congr Iff.rfl ⟨?_, fun h => ?_⟩
  · rintro ⟨y, hy, rfl⟩
    exact vp_in_nI hy hn
  · obtain ⟨j, hj, e⟩ := vp_in_of h hn
    exact ⟨j, hj, e⟩
theorem iv_rv_le {n m : Nat} {v : Int32} (h : iv_rv n v) (hm : n ≤ m) : iv_rv m v := h.imp id (fun ⟨y, h1, h2⟩ => ⟨y, by omega, h2⟩)
theorem w_isClass {σ : pz_Sg} {n : Nat} (h : σ.1 1 0 = nI n) (hn : n < 2 ^ 31) (v : Int32) : pz_WP 55 (0, pz_en 2 [.ref 1, .int v], []) σ (pz_is (some (.int (pz_b (vp_in v n)))) σ) := by
  have e := pz_ix (x := v) h hn
  exact pv_55 v σ _ ⟨fun z => pz_no (fun q => (e.mp q).1 z), fun z => ⟨fun z2 => pz_no (fun q => (e.mp q).2 z2), fun z2 => pz_yes (e.mpr ⟨z, z2⟩)⟩⟩
theorem w_isStatic {σ : pz_Sg} {n : Nat} (h : σ.1 1 2 = nI n) (hn : n < 2 ^ 31) (v : Int32) : pz_WP 56 (0, pz_en 2 [.ref 1, .int v], []) σ (pz_is (some (.int (pz_b (vp_in v n)))) σ) := by
  have e := pz_ix (x := v) h hn
  exact pv_56 v σ _ ⟨fun z => pz_no (fun q => (e.mp q).1 z), fun z => ⟨fun z2 => pz_no (fun q => (e.mp q).2 z2), fun z2 => pz_yes (e.mpr ⟨z, z2⟩)⟩⟩
theorem w_isMethod {σ : pz_Sg} {n : Nat} (h : σ.1 1 3 = nI n) (hn : n < 2 ^ 31) (v : Int32) : pz_WP 57 (0, pz_en 2 [.ref 1, .int v], []) σ (pz_is (some (.int (pz_b (vp_in v n)))) σ) := by
  have e := pz_ix (x := v) h hn
  exact pv_57 v σ _ ⟨fun z => pz_no (fun q => (e.mp q).1 z), fun z => ⟨fun z2 => pz_no (fun q => (e.mp q).2 z2), fun z2 => pz_yes (e.mpr ⟨z, z2⟩)⟩⟩
theorem w_isThing {σ : pz_Sg} {n : Nat} (h : σ.1 16 0 = nI n) (hn : n < 2 ^ 31) (v : Int32) : pz_WP 71 (0, pz_en 2 [.ref 16, .int v], []) σ (pz_is (some (.int (pz_b (vp_in v n)))) σ) := by
  have e := pz_ix (x := v) h hn
  exact pv_71r16 v σ _ ⟨fun z => pz_no (fun q => (e.mp q).1 z), fun z => ⟨fun z2 => pz_no (fun q => (e.mp q).2 z2), fun z2 => pz_yes (e.mpr ⟨z, z2⟩)⟩⟩
theorem w_isThingOrNull {σ : pz_Sg} {n : Nat} (h : σ.1 16 0 = nI n) (hn : n < 2 ^ 31) (v : Int32) : pz_WP 72 (0, pz_en 2 [.ref 16, .int v], []) σ (pz_is (some (.int (pz_b (iv_rv n v)))) σ) := by
  refine pv_72 v σ _ ⟨fun z => pz_yes (Or.inl z), fun z => pz_ki (w_isThing h hn v) ⟨fun q => pz_no (fun y => ?_), fun q => pz_yes ((iv_rv_i hn).mpr (Or.inr ?_))⟩⟩
  · exact ((iv_rv_i hn).mp y).elim z (pz_b_0.mp q)
  · exact Classical.not_not.mp fun y => q (pz_b_0.mpr y)
theorem w_noThing {σ : pz_Sg} {n : Nat} (h : σ.1 55 22 = nI n) (hn : n < 2 ^ 31) (v : Int32) : pz_WP 125 (0, pz_en 2 [.ref 55, .int v], []) σ (pz_is (some (.int (pz_b (¬ vp_in v n)))) σ) := by
  have e := pz_ix (x := v) h hn
  have l : v < σ.1 55 22 ↔ ¬ σ.1 55 22 ≤ v := Int32.not_le.symm
  exact pv_125 v σ _ ⟨fun z => pz_yes (fun q => (e.mp q).1 z), fun z => ⟨fun z2 => pz_no (fun q => q (e.mpr ⟨z, l.mp z2⟩)), fun z2 => pz_yes (fun q => z2 (l.mpr (e.mp q).2))⟩⟩
theorem op_stat (L : Nat) (ys : Nat → Int32) : pz_O11 (iv L ys) := by
  intro a
  refine op_read fun σ n H => ?_
  obtain ⟨-, nt, nf, ns, nm, nx, ⟨⟨-, -, ⟨c3, d3, b3⟩, -⟩, -⟩, ⟨-, -, -, w4, -⟩, -, -, -, -⟩ := H
  have hy := pz_byn (x := a) d3 (by omega)
  by_cases h : vp_in a ns
  · obtain ⟨k, hk, rfl⟩ := vp_in_of h (by omega)
    have cl : (nI k).toNatClampNeg = k := nI_clamp (by omega)
    refine ⟨σ.1 19 k, pv_93 _ σ _ (pz_ki (w_isStatic c3 (by omega) _) ?_), pv_130 _ σ _ (pz_ki (w_beyond _ _ _ σ) ?_)⟩
    · rw [pz_b_t h]
      exact ⟨fun z => absurd z (by decide), fun _ => ⟨vp_le h b3, pz_ans (by rw [cl]) rfl⟩⟩
    · rw [pz_b_f (fun z => hy.mp z h)]
      exact ⟨fun _ => ⟨vp_le h b3, pz_ans (by rw [cl, w4 k (by omega)]) rfl⟩, fun z => absurd rfl z⟩
  · refine ⟨0, pv_93 _ σ _ (pz_ki (w_isStatic c3 (by omega) _) ?_), pv_130 _ σ _ (pz_ki (w_beyond _ _ _ σ) ?_)⟩
    · rw [pz_b_f h]
      exact ⟨fun _ => ⟨rfl, rfl⟩, fun z => absurd rfl z⟩
    · rw [pz_b_t (hy.mpr h)]
      exact ⟨fun z => absurd z (by decide), fun _ => ⟨rfl, rfl⟩⟩
theorem op_kind (L : Nat) (ys : Nat → Int32) : pz_O12 (iv L ys) := by
  intro a
  refine op_read fun σ n H => ?_
  obtain ⟨-, nt, nf, ns, nm, nx, ⟨⟨⟨-, -, tb⟩, -⟩, -⟩, ⟨⟨w1, w1', wb⟩, w2, -⟩, -, -, -, -⟩ := H
  by_cases h : vp_in a nx
  · obtain ⟨k, hk, rfl⟩ := vp_in_of h (by omega)
    have cl : (nI k).toNatClampNeg = k := nI_clamp (by omega)
    refine ⟨σ.1 17 k, pv_94 _ σ _ (pz_ki (w_isThing w1 (by omega) _) ?_), pv_131 _ σ _ (pz_ki (w_noThing w1' (by omega) _) ?_)⟩
    · rw [pz_b_t h]
      exact ⟨fun z => absurd z (by decide), fun _ => ⟨vp_le h wb, pz_ans (by rw [cl]) rfl⟩⟩
    · rw [pz_b_f (fun z => z h), cl]
      refine ⟨fun _ => ⟨vp_le h wb, ?_⟩, fun z => absurd rfl z⟩
      rcases w2 k hk with ⟨t, ht, k1, k2, k3⟩ | ⟨q, hq, k1, k2, k3⟩
      · rw [k2]
        exact ⟨fun z => absurd z (nI_pos (by omega)), fun _ => ⟨vp_le h wb, pz_ans k1.symm rfl⟩⟩
      · rw [k2]
        exact ⟨fun _ => ⟨vp_le h wb, pz_ans (by rw [k3, k1]) rfl⟩, fun z => absurd (by decide) z⟩
  · refine ⟨-1, pv_94 _ σ _ (pz_ki (w_isThing w1 (by omega) _) ?_), pv_131 _ σ _ (pz_ki (w_noThing w1' (by omega) _) ?_)⟩
    · rw [pz_b_f h]
      exact ⟨fun _ => ⟨rfl, rfl⟩, fun z => absurd rfl z⟩
    · rw [pz_b_t h]
      exact ⟨fun z => absurd z (by decide), fun _ => ⟨rfl, rfl⟩⟩
/-- cells of a kind that a chain of writes leaves alone -/
def qz_fr (N : Nat → Bool) (σ σ' : pz_Sg) : Prop := ∀ a, N a = true → ∀ j, σ'.1 a j = σ.1 a j
theorem qz_fr0 {N : Nat → Bool} {σ : pz_Sg} : qz_fr N σ σ := fun _ _ _ => rfl
theorem qz_fr1 {N : Nat → Bool} {σ σ' : pz_Sg} (h : qz_fr N σ σ') {b : Nat} (hb : N b = false) {j : Nat} {v : Int32} : qz_fr N σ (pz_up σ' b j v) := fun a ha i => by
  rw [qz_rn _ _ _ _ (fun e => by rw [e, hb] at ha; cases ha)]
  exact h a ha i
theorem pz_ti_u {L : Nat} {ys : Nat → Int32} {σ : pz_Sg} (h : pz_ti L ys σ) {a j : Nat} {v : Int32} (ha : a < 103) : pz_ti L ys (pz_up σ a j v) := pz_ti_k h ha pz_up_ne
theorem qz_sc {σ : pz_Sg} {a j : Nat} {v : Int32} (ha : a < 103) : (pz_up σ a j v).1 1000 = σ.1 1000 ∧ (pz_up σ a j v).1 1001 = σ.1 1001 := ⟨qz_rn _ _ _ _ (by omega), qz_rn _ _ _ _ (by omega)⟩
/-- set: the STATIC's new value in both worlds -/
theorem iv_set {L : Nat} {ys : Nat → Int32} {n : Nat} {σ : pz_Sg} {nt nf ns nm nx : Nat} (h0 : pz_ti L ys σ) (h1 : iv_pg σ.1 nt nf ns nm) (h2 : iv_wd σ.1 nt ns nx) (h3 : iv_pr σ.1 n) (h4 : iv_ar σ.1 nx) (h5 : iv_an σ nm) (h6 : iv_la σ.1) {s : Nat} {v : Int32} (hv : σ.1 5 s = 1 → iv_rv nx v) : iv L ys (n + 1) (pz_up (pz_up σ 19 s v) 76 s v) := by
  refine ⟨pz_ti_u (pz_ti_u h0 (by omega)) (by omega), nt, nf, ns, nm, nx, iv_pg_c (qz_fr1 (qz_fr1 qz_fr0 rfl) rfl) (fun _ _ => rfl) rfl rfl rfl rfl h1, ?_, iv_pr_c (Nat.le_succ n) rfl rfl (fun _ => rfl) (fun _ => rfl) h3, iv_ar_c (fun _ => rfl) (fun _ => rfl) (fun _ => rfl) (fun _ => rfl) h4, iv_an_c (qz_fr1 (qz_fr1 qz_fr0 rfl) rfl) rfl rfl (fun _ => rfl) h5, iv_la_c (fun _ => rfl) (fun _ => rfl) rfl rfl h6⟩
  obtain ⟨w1, w2, w3, w4, w5, w6⟩ := h2
  refine ⟨w1, w2, w3, fun t ht => ?_, w5, fun t ht hr => ?_⟩
  · by_cases q : t = s
    · subst q
      rw [qz_rs, qz_rn _ _ _ _ (by decide), qz_rs]
    · simp only [qz_rd, q, and_false, if_false]
      exact w4 t ht
  · by_cases q : t = s
    · subst q
      rw [qz_rn _ _ _ _ (by decide), qz_rs]
      exact hv hr
    · simp only [qz_rd, q, and_false, if_false]
      exact w6 t ht hr
theorem op_set (L : Nat) (ys : Nat → Int32) : pz_O9 (iv L ys) := by
  intro a v
  refine op_known fun σ n hn H => ?_
  have H' := iv_up H
  obtain ⟨h0, nt, nf, ns, nm, nx, h1, h2, h3, h4, h5, h6⟩ := H
  obtain ⟨⟨-, -, ⟨c3, d3, b3⟩, -⟩, -, -, ⟨-, -, rs⟩, -⟩ := id h1
  obtain ⟨⟨w1, w1', wb⟩, -⟩ := id h2
  have hy := pz_byn (x := a) d3 (by omega)
  by_cases h : vp_in a ns
  · obtain ⟨k, hk, rfl⟩ := vp_in_of h (by omega)
    have cl : (nI k).toNatClampNeg = k := nI_clamp (by omega)
    have v8 := vp_le h b3
    obtain ⟨r1, r2⟩ := rs k (by omega)
    by_cases hr : σ.1 5 k = 0
    · refine ⟨1, pz_up σ 19 k v, pz_up (pz_up σ 19 k v) 76 k v, pv_91 _ _ σ _ (pz_ki (w_isStatic c3 (by omega) _) ?_), qz_sc (by omega), pv_128 _ _ (pz_up σ 19 k v) _ (pz_ki (w_beyond _ _ _ _) ?_), iv_set h0 h1 h2 h3 h4 h5 h6 (fun z => absurd (hr.symm.trans z) (by decide))⟩
      · rw [pz_b_t h, cl]
        exact ⟨fun z => absurd z (by decide), fun _ => ⟨v8, fun _ => ⟨v8, fun σ2 e2 => pz_ans rfl e2⟩, fun z => absurd hr z⟩⟩
      · rw [show ((pz_up σ 19 k v).1 55 5) = σ.1 55 5 from rfl, pz_b_f (fun z => hy.mp z h), cl]
        exact ⟨fun _ => ⟨v8, fun _ => ⟨v8, fun σ2 e2 => pz_ans rfl e2⟩, fun z => absurd (r1.symm.trans hr) z⟩, fun z => absurd rfl z⟩
    · have hr1 : ¬ σ.1 59 k = 0 := by rw [← r1]; exact hr
      by_cases hq : iv_rv nx v
      · refine ⟨1, pz_up σ 19 k v, pz_up (pz_up σ 19 k v) 76 k v, pv_91 _ _ σ _ (pz_ki (w_isStatic c3 (by omega) _) ?_), qz_sc (by omega), pv_128 _ _ (pz_up σ 19 k v) _ (pz_ki (w_beyond _ _ _ _) ?_), iv_set h0 h1 h2 h3 h4 h5 h6 (fun _ => hq)⟩
        · rw [pz_b_t h, cl]
          refine ⟨fun z => absurd z (by decide), fun _ => ⟨v8, fun z => absurd z hr, fun _ => pz_ki (w_isThingOrNull w1 (by omega) v) ?_⟩⟩
          rw [pz_b_t hq]
          exact ⟨fun z => absurd z (by decide), fun _ => ⟨v8, fun σ2 e2 => pz_ans rfl e2⟩⟩
        · rw [show ((pz_up σ 19 k v).1 55 5) = σ.1 55 5 from rfl, pz_b_f (fun z => hy.mp z h), cl]
          refine ⟨fun _ => ⟨v8, fun z => absurd z hr1, fun _ => ⟨fun _ => ⟨v8, fun σ2 e2 => pz_ans rfl e2⟩, fun z => pz_ki (w_noThing (σ := pz_up σ 19 k v) (n := nx) w1' (by omega) v) ?_⟩⟩, fun z => absurd rfl z⟩
          rw [pz_b_f (fun y => y (((iv_rv_i (by omega)).mp hq).resolve_left z))]
          exact ⟨fun _ => ⟨v8, fun σ2 e2 => pz_ans rfl e2⟩, fun z => absurd rfl z⟩
      · refine ⟨-1, σ, σ, pv_91 _ _ σ _ (pz_ki (w_isStatic c3 (by omega) _) ?_), ⟨rfl, rfl⟩, pv_128 _ _ σ _ (pz_ki (w_beyond _ _ _ _) ?_), H'⟩
        · rw [pz_b_t h, cl]
          refine ⟨fun z => absurd z (by decide), fun _ => ⟨v8, fun z => absurd z hr, fun _ => pz_ki (w_isThingOrNull w1 (by omega) v) ?_⟩⟩
          rw [pz_b_f hq]
          exact ⟨fun _ => ⟨rfl, rfl⟩, fun z => absurd rfl z⟩
        · rw [pz_b_f (fun z => hy.mp z h), cl]
          refine ⟨fun _ => ⟨v8, fun z => absurd z hr1, fun _ => ⟨fun z => absurd (Or.inl z) hq, fun z => pz_ki (w_noThing (n := nx) w1' (by omega) v) ?_⟩⟩, fun z => absurd rfl z⟩
          rw [pz_b_t (fun y => hq ((iv_rv_i (by omega)).mpr (Or.inr y)))]
          exact ⟨fun z => absurd z (by decide), fun _ => ⟨rfl, rfl⟩⟩
  · refine ⟨-1, σ, σ, pv_91 _ _ σ _ (pz_ki (w_isStatic c3 (by omega) _) ?_), ⟨rfl, rfl⟩, pv_128 _ _ σ _ (pz_ki (w_beyond _ _ _ _) ?_), H'⟩
    · rw [pz_b_f h]
      exact ⟨fun _ => ⟨rfl, rfl⟩, fun z => absurd rfl z⟩
    · rw [pz_b_t (hy.mpr h)]
      exact ⟨fun z => absurd z (by decide), fun _ => ⟨rfl, rfl⟩⟩
