/-! ===== arg, shared, method ===== -/
theorem qz_sub1 (x : Int32) : x + 1 - 1 = x := by
  rw [Int32.add_sub_cancel]
theorem op_arg (L : Nat) (ys : Nat → Int32) : pz_O13 (iv L ys) := by
  intro w z k v hz
  refine op_known fun σ n hn H => ?_
  have H' := iv_up H
  obtain ⟨h0, nt, nf, ns, nm, nx, h1, h2, h3, h4, h5, h6⟩ := H
  obtain ⟨⟨w1, w1', wb⟩, -⟩ := id h2
  have e1 : vp_in w 2 ↔ ¬ w < 0 ∧ ¬ nI 2 ≤ w := pz_ix rfl (by decide)
  have e2 : vp_in k 3 ↔ ¬ k < 0 ∧ ¬ nI 3 ≤ k := pz_ix rfl (by decide)
  have e1' : ¬ (1 : Int32) < w ↔ ¬ nI 2 ≤ w := by
    rw [Int32.not_lt]
    exact pz_lt_le (n := 1) (by decide)
  have y1 : (w.toInt64 < (0 : Int64) ∨ (1 : Int64) < w.toInt64) ↔ ¬ vp_in w (1 + 1) := pz_byc (by decide)
  have y2 : (k.toInt64 < (0 : Int64) ∨ lN 2 < k.toInt64) ↔ ¬ vp_in k (2 + 1) := pz_byc (by decide)
  by_cases hw : vp_in w 2
  · by_cases hk : vp_in k 3
    · have q1 := e1.mp hw
      have q2 := e2.mp hk
      obtain ⟨a, ha, rfl⟩ := vp_in_of hw (by decide)
      obtain ⟨b, hb, rfl⟩ := vp_in_of hk (by decide)
      have i1 : nI a * nI 3 + nI b = nI (a * 3 + b) := by rw [pk_mul, nI_add]
      have i2 : nI 3 * nI a + nI b = nI (a * 3 + b) := by rw [pk_mul, nI_add, Nat.mul_comm]
      have hi : vp_in (nI (a * 3 + b)) 6 := vp_in_nI (by omega) (by decide)
      have cl : (nI (a * 3 + b)).toNatClampNeg = a * 3 + b := nI_clamp (by omega)
      obtain ⟨r1, r2, r3⟩ := h4 (a * 3 + b) (by omega)
      by_cases hr : z = 0
      · refine ⟨σ.1 53 (a * 3 + b), pz_up σ 53 (a * 3 + b) v, pz_up (pz_up σ 53 (a * 3 + b) v) 78 (a * 3 + b) v, pv_95 _ _ _ _ σ _ ⟨fun y => absurd y q1.1, fun _ => ⟨fun y => absurd y (e1'.mpr q1.2), fun _ => ⟨fun y => absurd y q2.1, fun _ => ⟨fun _ => ⟨fun _ => pv_95_39 _ _ _ _ σ _ ⟨fun _ => pv_95_54 _ _ _ σ _ ?_, fun y => absurd hr y⟩, fun y => absurd hr y⟩, fun y => absurd (pz_ltn.mpr q2.2) y⟩⟩⟩⟩, qz_sc (by omega), pv_132 _ _ _ _ _ _ (pz_ki (w_beyond _ _ _ _) ?_), ?_⟩
        · rw [i1, cl]
          exact ⟨hi, hi, fun σ1 e => pz_ans rfl e⟩
        · rw [pz_b_f (fun y => y1.mp y hw)]
          refine ⟨fun _ => pz_ki (w_beyond _ _ _ _) ?_, fun y => absurd rfl y⟩
          rw [pz_b_f (fun y => y2.mp y hk)]
          refine ⟨fun _ => ⟨fun _ => ?_, fun y => absurd hr y⟩, fun y => absurd rfl y⟩
          rw [i2, cl]
          exact ⟨hi, hi, fun σ1 e => pz_ans r1.symm e⟩
        · refine ⟨pz_ti_u (pz_ti_u h0 (by omega)) (by omega), nt, nf, ns, nm, nx, iv_pg_c (qz_fr1 (qz_fr1 qz_fr0 rfl) rfl) (fun _ _ => rfl) rfl rfl rfl rfl h1, iv_wd_c (qz_fr1 (qz_fr1 qz_fr0 rfl) rfl) rfl rfl h2, iv_pr_c (Nat.le_succ n) rfl rfl (fun _ => rfl) (fun _ => rfl) h3, fun j hj => ?_, iv_an_c (qz_fr1 (qz_fr1 qz_fr0 rfl) rfl) rfl rfl (fun _ => rfl) h5, iv_la_c (fun _ => rfl) (fun _ => rfl) rfl rfl h6⟩
          obtain ⟨s1, s2, s3⟩ := h4 j hj
          refine ⟨?_, s2, s3⟩
          by_cases q : j = a * 3 + b
          · subst q
            rw [qz_rs, qz_rn _ _ _ _ (by decide), qz_rs]
          · simp only [qz_rd, q, and_false, if_false]
            exact s1
      · have hfin : iv_rv nx v → iv L ys (n + 1) (pz_up (pz_up σ 54 (a * 3 + b) v) 79 (a * 3 + b) (v + 1)) := fun hv => by
          refine ⟨pz_ti_u (pz_ti_u h0 (by omega)) (by omega), nt, nf, ns, nm, nx, iv_pg_c (qz_fr1 (qz_fr1 qz_fr0 rfl) rfl) (fun _ _ => rfl) rfl rfl rfl rfl h1, iv_wd_c (qz_fr1 (qz_fr1 qz_fr0 rfl) rfl) rfl rfl h2, iv_pr_c (Nat.le_succ n) rfl rfl (fun _ => rfl) (fun _ => rfl) h3, fun j hj => ?_, iv_an_c (qz_fr1 (qz_fr1 qz_fr0 rfl) rfl) rfl rfl (fun _ => rfl) h5, iv_la_c (fun _ => rfl) (fun _ => rfl) rfl rfl h6⟩
          obtain ⟨s1, s2, s3⟩ := h4 j hj
          refine ⟨s1, ?_, ?_⟩
          · by_cases q : j = a * 3 + b
            · subst q
              rw [qz_rs, qz_rn _ _ _ _ (by decide), qz_rs]
            · simp only [qz_rd, q, and_false, if_false]
              exact s2
          · by_cases q : j = a * 3 + b
            · subst q
              rw [qz_rn _ _ _ _ (by decide), qz_rs]
              exact hv
            · simp only [qz_rd, q, and_false, if_false]
              exact s3
        have hm : iv_rv nx v → pz_WP 132 (53, [some (.ref 55), none, none, none, some (.int v), some (.int (nI (a * 3 + b))), none], []) (pz_up σ 54 (a * 3 + b) v) (pz_is (some (.int (σ.1 54 (a * 3 + b)))) (pz_up (pz_up σ 54 (a * 3 + b) v) 79 (a * 3 + b) (v + 1))) := fun _ => by
          refine pv_132_53 _ _ _ _ ?_
          rw [cl]
          refine ⟨hi, hi, fun σ1 e => pz_ans ?_ e⟩
          rw [qz_rn _ _ _ _ (by decide), r2, qz_sub1]
        by_cases hq : iv_rv nx v
        · refine ⟨σ.1 54 (a * 3 + b), pz_up σ 54 (a * 3 + b) v, _, pv_95 _ _ _ _ σ _ ⟨fun y => absurd y q1.1, fun _ => ⟨fun y => absurd y (e1'.mpr q1.2), fun _ => ⟨fun y => absurd y q2.1, fun _ => ⟨fun _ => ⟨fun y => absurd y hr, fun _ => pz_ki (w_isThingOrNull w1 (by omega) v) ?_⟩, fun y => absurd (pz_ltn.mpr q2.2) y⟩⟩⟩⟩, qz_sc (by omega), pv_132 _ _ _ _ _ _ (pz_ki (w_beyond _ _ _ _) ?_), hfin hq⟩
          · rw [pz_b_t hq]
            refine ⟨fun y => absurd y (by decide), fun _ => pv_95_39 _ _ _ _ σ _ ⟨fun y => absurd y hr, fun _ => pv_95_54a _ _ _ σ _ ?_⟩⟩
            rw [i1, cl]
            exact ⟨hi, hi, fun σ1 e => pz_ans rfl e⟩
          · rw [pz_b_f (fun y => y1.mp y hw)]
            refine ⟨fun _ => pz_ki (w_beyond _ _ _ _) ?_, fun y => absurd rfl y⟩
            rw [pz_b_f (fun y => y2.mp y hk)]
            refine ⟨fun _ => ⟨fun y => absurd y hr, fun _ => ?_⟩, fun y => absurd rfl y⟩
            rw [i2]
            refine ⟨fun _ => hm hq, fun y => pz_ki (w_noThing (σ := pz_up σ 54 (a * 3 + b) v) (n := nx) w1' (by omega) v) ?_⟩
            rw [pz_b_f (fun u => u (((iv_rv_i (by omega)).mp hq).resolve_left y))]
            exact ⟨fun _ => hm hq, fun u => absurd rfl u⟩
        · refine ⟨-1, σ, σ, pv_95 _ _ _ _ σ _ ⟨fun y => absurd y q1.1, fun _ => ⟨fun y => absurd y (e1'.mpr q1.2), fun _ => ⟨fun y => absurd y q2.1, fun _ => ⟨fun _ => ⟨fun y => absurd y hr, fun _ => pz_ki (w_isThingOrNull w1 (by omega) v) ?_⟩, fun y => absurd (pz_ltn.mpr q2.2) y⟩⟩⟩⟩, ⟨rfl, rfl⟩, pv_132 _ _ _ _ _ _ (pz_ki (w_beyond _ _ _ _) ?_), H'⟩
          · rw [pz_b_f hq]
            exact ⟨fun _ => ⟨rfl, rfl⟩, fun y => absurd rfl y⟩
          · rw [pz_b_f (fun y => y1.mp y hw)]
            refine ⟨fun _ => pz_ki (w_beyond _ _ _ _) ?_, fun y => absurd rfl y⟩
            rw [pz_b_f (fun y => y2.mp y hk)]
            refine ⟨fun _ => ⟨fun y => absurd y hr, fun _ => ⟨fun y => absurd (Or.inl y) hq, fun y => pz_ki (w_noThing (n := nx) w1' (by omega) v) ?_⟩⟩, fun y => absurd rfl y⟩
            rw [pz_b_t (fun u => hq ((iv_rv_i (by omega)).mpr (Or.inr u)))]
            exact ⟨fun u => absurd u (by decide), fun _ => ⟨rfl, rfl⟩⟩
    · have q1 := e1.mp hw
      refine ⟨-(nI 2), σ, σ, pv_95 _ _ _ _ σ _ ⟨fun _ => ⟨rfl, rfl⟩, fun _ => ⟨fun _ => ⟨rfl, rfl⟩, fun _ => ⟨fun _ => ⟨rfl, rfl⟩, fun y3 => ⟨fun y4 => absurd (e2.mpr ⟨y3, pz_ltn.mp y4⟩) hk, fun _ => ⟨rfl, rfl⟩⟩⟩⟩⟩, ⟨rfl, rfl⟩, pv_132 _ _ _ _ _ _ (pz_ki (w_beyond _ _ _ _) ?_), H'⟩
      rw [pz_b_f (fun y => y1.mp y hw)]
      refine ⟨fun _ => pz_ki (w_beyond _ _ _ _) ?_, fun y => absurd rfl y⟩
      rw [pz_b_t (y2.mpr hk)]
      exact ⟨fun u => absurd u (by decide), fun _ => ⟨rfl, rfl⟩⟩
  · refine ⟨-(nI 2), σ, σ, pv_95 _ _ _ _ σ _ ⟨fun _ => ⟨rfl, rfl⟩, fun y1 => ⟨fun _ => ⟨rfl, rfl⟩, fun y2 => absurd (e1.mpr ⟨y1, e1'.mp y2⟩) hw⟩⟩, ⟨rfl, rfl⟩, pv_132 _ _ _ _ _ _ (pz_ki (w_beyond _ _ _ _) ?_), H'⟩
    rw [pz_b_t (y1.mpr hw)]
    exact ⟨fun u => absurd u (by decide), fun _ => ⟨rfl, rfl⟩⟩
/-! growth of the program -/
theorem iv_ty_d {F F' : iv_F} {nt : Nat} (h2 : ∀ j, F' 2 j = F 2 j) (h56 : ∀ j, F' 56 j = F 56 j) (H : iv_ty F nt) : iv_ty F' nt := by
  intro t ht
  obtain ⟨a1, a2⟩ := H t ht
  rw [h56 t, h2 t]
  refine ⟨a1, fun u hu => ?_⟩
  rw [a2 u hu, iv_bl_c h56]
theorem iv_fl_d {F F' : iv_F} {nt nf : Nat} (h3 : ∀ j, F' 3 j = F 3 j) (h56 : ∀ j, F' 56 j = F 56 j) (h57 : ∀ j, F' 57 j = F 57 j) (H : iv_fl F nt nf) : iv_fl F' nt nf := by
  refine ⟨fun f hf => by rw [h57 f]; exact H.1 f hf, fun t ht f hf => ?_⟩
  rw [h3 t, h57 f, H.2 t ht f hf, iv_bl_c h56]
theorem iv_su_g {F F' : iv_F} {nt nf ns nm nt' nf' ns' nm' m : Nat} {k x : Int32} (h1 : nt ≤ nt') (h2 : nf ≤ nf') (h3 : ns ≤ ns') (h4 : nm ≤ nm') (bf : nf < 2 ^ 31) (bs : ns < 2 ^ 31) (r4 : ∀ x, x < nf → F' 4 x = F 4 x) (r5 : ∀ x, x < ns → F' 5 x = F 5 x) (r8 : F' 8 m = F 8 m) (H : iv_su F nt nf ns nm m k x) : iv_su F' nt' nf' ns' nm' m k x := by
  obtain ⟨a1, a2, a3, a4, a5, a6, a7, a8, a9, a10⟩ := H
  have cl : ∀ {n : Nat}, n < 2 ^ 31 → vp_in x n → x.toNatClampNeg < n := fun hn h => by
    obtain ⟨j, hj, rfl⟩ := vp_in_of h hn
    rw [nI_clamp (by omega)]
    exact hj
  refine ⟨a1, fun z => vp_le (a2 z) h1, fun z => ⟨vp_le (a3 z).1 h2, ?_⟩, fun z => ⟨vp_le (a4 z).1 h2, ?_⟩, fun z => ⟨vp_le (a5 z).1 h3, ?_⟩, fun z => ⟨vp_le (a6 z).1 h3, ?_⟩, fun z => vp_le (a7 z) h4, a8, a9, fun z => by rw [r8]; exact a10 z⟩
  · rw [r4 _ (cl bf (a3 z).1)]; exact (a3 z).2
  · rw [r4 _ (cl bf (a4 z).1)]; exact (a4 z).2
  · rw [r5 _ (cl bs (a5 z).1)]; exact (a5 z).2
  · rw [r5 _ (cl bs (a6 z).1)]; exact (a6 z).2
theorem iv_ft_g {F F' : iv_F} {nt nf ns nm nt' nf' ns' nm' m : Nat} {o a b c : Int32} (h1 : nt ≤ nt') (h2 : nf ≤ nf') (h3 : ns ≤ ns') (h4 : nm ≤ nm') (bf : nf < 2 ^ 31) (bs : ns < 2 ^ 31) (bm : nm < 2 ^ 31) (r4 : ∀ x, x < nf → F' 4 x = F 4 x) (r5 : ∀ x, x < ns → F' 5 x = F 5 x) (r8 : F' 8 m = F 8 m) (r6 : ∀ x, x < nm → F' 6 x = F 6 x) (r7 : ∀ x, x < nm → F' 7 x = F 7 x) (H : iv_ft F nt nf ns nm m o a b c) : iv_ft F' nt' nf' ns' nm' m o a b c := by
  obtain ⟨a1, a2, a3, a4, a5⟩ := H
  refine ⟨a1, iv_su_g h1 h2 h3 h4 bf bs r4 r5 r8 a2, iv_su_g h1 h2 h3 h4 bf bs r4 r5 r8 a3, iv_su_g h1 h2 h3 h4 bf bs r4 r5 r8 a4, fun z => ?_⟩
  have hb : vp_in b nm := by
    subst z
    exact a3.2.2.2.2.2.2.1 (by decide +kernel)
  obtain ⟨j, hj, rfl⟩ := vp_in_of hb bm
  have e := a5 z
  rw [nI_clamp (by omega)] at e ⊢
  rw [r6 j hj, r7 j hj]
  exact e
theorem iv_ln_g {F F' : iv_F} {nt nf ns nm nt' nf' ns' nm' : Nat} (h1 : nt ≤ nt') (h2 : nf ≤ nf') (h3 : ns ≤ ns') (h4 : nm ≤ nm') (bf : nf < 2 ^ 31) (bs : ns < 2 ^ 31) (bm : nm < 2 ^ 31) (g9 : ∀ m, m < nm → F' 9 m = F 9 m) (g0 : ∀ m, nm ≤ m → m < nm' → F' 9 m = 0)
    (k10 : ∀ j, F' 10 j = F 10 j) (k11 : ∀ j, F' 11 j = F 11 j) (k12 : ∀ j, F' 12 j = F 12 j) (k13 : ∀ j, F' 13 j = F 13 j) (k64 : ∀ j, F' 64 j = F 64 j) (k65 : ∀ j, F' 65 j = F 65 j) (k66 : ∀ j, F' 66 j = F 66 j) (k67 : ∀ j, F' 67 j = F 67 j)
    (r4 : ∀ x, x < nf → F' 4 x = F 4 x) (r5 : ∀ x, x < ns → F' 5 x = F 5 x) (r8 : ∀ x, x < nm → F' 8 x = F 8 x) (r6 : ∀ x, x < nm → F' 6 x = F 6 x) (r7 : ∀ x, x < nm → F' 7 x = F 7 x) (H : iv_ln F nt nf ns nm) : iv_ln F' nt' nf' ns' nm' := by
  intro m hm l hl
  by_cases hq : m < nm
  · rw [g9 m hq] at hl
    obtain ⟨e1, e2⟩ := H m hq l hl
    rw [k10, k11, k12, k13, k64, k65, k66, k67]
    exact ⟨e1, iv_ft_g h1 h2 h3 h4 bf bs bm r4 r5 (r8 m hq) r6 r7 e2⟩
  · rw [g0 m (by omega) hm] at hl
    rw [sb_cl0] at hl
    exact absurd hl (Nat.not_lt_zero _)
theorem iv_ca_g {F F' : iv_F} {nm nm' : Nat} (g14 : ∀ m, m < nm → F' 14 m = F 14 m) (g0 : ∀ m, nm ≤ m → m < nm' → F' 14 m = 0) (k15 : ∀ j, F' 15 j = F 15 j) (k69 : ∀ j, F' 69 j = F 69 j) (k70 : ∀ j, F' 70 j = F 70 j) (k71 : ∀ j, F' 71 j = F 71 j) (k72 : ∀ j, F' 72 j = F 72 j) (H : iv_ca F nm) : iv_ca F' nm' := by
  intro m hm k hk
  by_cases hq : m < nm
  · rw [g14 m hq] at hk
    rw [k15, k15, k15, k15, k69, k70, k71, k72]
    exact H m hq k hk
  · rw [g0 m (by omega) hm] at hk
    rw [sb_cl0] at hk
    exact absurd hk (Nat.not_lt_zero _)
