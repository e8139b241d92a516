/-! ===== type ===== -/
/-- each CLASS stands below one that was there before -/
def iv_up0 (F : iv_F) (nt : Nat) : Prop := ∀ t, t < nt → (F 56 t = -1 ∨ ∃ p, p < t ∧ F 56 t = nI p)
theorem iv_up0_of {F : iv_F} {nt : Nat} (H : iv_ty F nt) : iv_up0 F nt := fun t ht => (H t ht).1
theorem nI_ne1 {p : Nat} (hp : p < 2 ^ 31) : ¬ nI p = -1 := fun e => nI_pos hp (by rw [e]; decide)
theorem iv_bl_s {F F' : iv_F} {nt : Nat} (bn : nt < 2 ^ 31) (H : iv_up0 F nt) (h : ∀ t, t < nt → F' 56 t = F 56 t) : ∀ N t, t < N → t < nt → ∀ k k' u, t ≤ k → t ≤ k' → (iv_bl F' k' t u ↔ iv_bl F k t u) := by
  intro N
  induction N with
  | zero => intro t ht; exact absurd ht (Nat.not_lt_zero _)
  | succ N ih =>
    intro t ht hn k k' u hk hk'
    -- what both say in the end
    have one : ∀ (G : iv_F) (j : Nat), t ≤ j → (∀ s, s < nt → G 56 s = F 56 s) → (∀ s, s < t → ∀ i, s ≤ i → (iv_bl G i s u ↔ iv_bl F s s u)) → (iv_bl G j t u ↔ t = u ∨ ∃ p, p < t ∧ F 56 t = nI p ∧ iv_bl F p p u) := by
      intro G j hj hG hs
      cases j with
      | zero =>
        have t0 : t = 0 := by omega
        subst t0
        refine ⟨fun z => Or.inl z, fun z => z.elim id ?_⟩
        rintro ⟨p, hp, -⟩
        exact absurd hp (Nat.not_lt_zero _)
      | succ j =>
        show (t = u ∨ (¬ G 56 t = -1 ∧ iv_bl G j (G 56 t).toNatClampNeg u)) ↔ _
        rw [hG t hn]
        rcases H t hn with e | ⟨p, hp, e⟩
        · rw [e]
          refine or_congr Iff.rfl ⟨fun z => absurd rfl z.1, ?_⟩
          rintro ⟨p, hp, e2, -⟩
          exact absurd e2.symm (nI_ne1 (by omega))
        · rw [e, nI_clamp (by omega)]
          refine or_congr Iff.rfl ⟨fun z => ⟨p, hp, rfl, (hs p hp j (by omega)).mp z.2⟩, ?_⟩
          rintro ⟨p', hp', e2, z⟩
          have : p = p' := (nI_eq (by omega) (by omega)).mp e2
          subst this
          exact ⟨nI_ne1 (by omega), (hs p hp j (by omega)).mpr z⟩
    rw [one F' k' hk' h (fun s hs i hi => ih s (by omega) (by omega) s i u (Nat.le_refl _) hi), one F k hk (fun _ _ => rfl) (fun s hs i hi => ?_)]
    rw [← ih s (by omega) (by omega) i i u hi hi, ih s (by omega) (by omega) s i u (Nat.le_refl _) hi]
theorem iv_bl_n {F F' : iv_F} {nt : Nat} (bn : nt < 2 ^ 31) (H : iv_up0 F nt) (h : ∀ t, t < nt → F' 56 t = F 56 t) {t : Nat} (ht : t < nt) (u : Nat) : iv_bl F' t t u ↔ iv_bl F t t u := iv_bl_s bn H h (t + 1) t (Nat.lt_succ_self t) ht t t u (Nat.le_refl _) (Nat.le_refl _)
/-- the new CLASS -/
theorem iv_bl_new {F F' : iv_F} {nt : Nat} (bn : nt < 2 ^ 31) (H : iv_up0 F nt) (h : ∀ t, t < nt → F' 56 t = F 56 t) (u : Nat) : (F' 56 nt = -1 → (iv_bl F' nt nt u ↔ nt = u)) ∧ ∀ p, p < nt → F' 56 nt = nI p → (iv_bl F' nt nt u ↔ nt = u ∨ iv_bl F p p u) := by
  constructor
  · intro e
    cases nt with
    | zero => exact Iff.rfl
    | succ j =>
      conv => lhs; unfold iv_bl
      rw [e]
      exact ⟨fun z => z.elim id (fun y => absurd rfl y.1), fun z => Or.inl z⟩
  · intro p hp e
    cases nt with
    | zero => exact absurd hp (Nat.not_lt_zero _)
    | succ j =>
      conv => lhs; unfold iv_bl
      rw [e, nI_clamp (by omega), iv_bl_s bn H h (p + 1) p (Nat.lt_succ_self p) hp p j u (Nat.le_refl _) (by omega)]
      exact or_congr Iff.rfl ⟨fun z => z.2, fun z => ⟨nI_ne1 (by omega), z⟩⟩
theorem iv_bt_i {x : Int32} {u : Nat} (hu : u < 32) : iv_bt x u ↔ bt x u = true := b_is hu
/-- the rows of the new CLASS: what is above it, what FIELDS it has -/
def iv_nr (F : iv_F) (nt : Nat) (v : Int32) (a b : Int32) : Prop := (v = -1 ∧ a = (1 : Int32) <<< (nI nt &&& 31) ∧ b = 0) ∨ ∃ p, p < nt ∧ v = nI p ∧ a = ((1 : Int32) <<< (nI nt &&& 31)) ||| F 2 p ∧ b = F 3 p
theorem iv_ty_n {F F' : iv_F} {nt : Nat} {v a b : Int32} (bn : nt < 8) (hv : iv_nr F nt v a b) (h2 : ∀ t, t < nt → F' 2 t = F 2 t) (h56 : ∀ t, t < nt → F' 56 t = F 56 t) (e2 : F' 2 nt = a) (e56 : F' 56 nt = v) (H : iv_ty F nt) : iv_ty F' (nt + 1) := by
  have H0 := iv_up0_of H
  intro t ht
  by_cases q : t = nt
  · subst q
    rw [e2, e56]
    rcases hv with ⟨v1, a1, -⟩ | ⟨p, hp, v1, a1, -⟩
    · refine ⟨Or.inl v1, fun u hu => ?_⟩
      rw [iv_bt_i (by omega), a1, b_bit (by omega), (iv_bl_new (by omega) H0 h56 u).1 (e56.trans v1), decide_eq_true_iff]
      exact eq_comm
    · refine ⟨Or.inr ⟨p, hp, v1⟩, fun u hu => ?_⟩
      rw [iv_bt_i (by omega), a1, b_or, b_bit (by omega), (iv_bl_new (by omega) H0 h56 u).2 p hp (e56.trans v1), Bool.or_eq_true, decide_eq_true_iff, ← (H p hp).2 u hu, iv_bt_i (by omega)]
      exact or_congr eq_comm Iff.rfl
  · have hn : t < nt := by omega
    rw [h2 t hn, h56 t hn]
    refine ⟨(H t hn).1, fun u hu => ?_⟩
    rw [iv_bl_n (by omega) H0 h56 hn]
    exact (H t hn).2 u hu
theorem iv_fl_n {F F' : iv_F} {nt nf : Nat} {v a b : Int32} (bn : nt < 8) (hv : iv_nr F nt v a b) (h3 : ∀ t, t < nt → F' 3 t = F 3 t) (h56 : ∀ t, t < nt → F' 56 t = F 56 t) (h57 : ∀ j, F' 57 j = F 57 j) (e3 : F' 3 nt = b) (e56 : F' 56 nt = v) (H0 : iv_up0 F nt) (H : iv_fl F nt nf) : iv_fl F' (nt + 1) nf := by
  refine ⟨fun f hf => ?_, fun t ht f hf => ?_⟩
  · obtain ⟨t, ht, e⟩ := H.1 f hf
    exact ⟨t, by omega, by rw [h57]; exact e⟩
  · rw [h57]
    by_cases q : t = nt
    · subst q
      rw [e3]
      have out : f < nf → ¬ t = (F 57 f).toNatClampNeg := fun hq z => by
        obtain ⟨y, hy, e⟩ := H.1 f hq
        rw [e, nI_clamp (by omega)] at z
        omega
      rcases hv with ⟨v1, -, b1⟩ | ⟨p, hp, v1, -, b1⟩
      · rw [iv_bt_i (by omega), b1, b_0, (iv_bl_new (by omega) H0 h56 _).1 (e56.trans v1)]
        exact ⟨fun z => absurd z (by decide), fun z => absurd z.2 (out z.1)⟩
      · rw [b1, H.2 p hp f hf, (iv_bl_new (by omega) H0 h56 _).2 p hp (e56.trans v1)]
        exact and_congr_right fun z => ⟨fun y => Or.inr y, fun y => y.elim (fun x => absurd x (out z)) id⟩
    · have hn : t < nt := by omega
      rw [h3 t hn, H.2 t hn f hf, iv_bl_n (by omega) H0 h56 hn]
theorem iv_wd_t {F F' : iv_F} {nt ns nx : Nat} (bt : nt < 2 ^ 31) (h : ∀ a, iv_wdN a = true → a ≠ 3 → ∀ j, F' a j = F a j) (h3 : ∀ t, t < nt → F' 3 t = F 3 t) (h1 : F' 16 0 = F 16 0) (h2 : F' 55 22 = F 55 22) (H : iv_wd F nt ns nx) : iv_wd F' (nt + 1) ns nx := by
  obtain ⟨a1, a2, a3, a4, a5, a6⟩ := H
  refine ⟨by rw [h1, h2]; exact a1, fun x hx => by rw [h 17 rfl (by decide) x, h 73 rfl (by decide) x, h 74 rfl (by decide) x]; exact (a2 x hx).imp (fun ⟨t, a, b⟩ => ⟨t, by omega, b⟩) id, fun j hj => by rw [h 18 rfl (by decide) j, h 75 rfl (by decide) j]; exact a3 j hj, fun s hs => by rw [h 19 rfl (by decide) s, h 76 rfl (by decide) s]; exact a4 s hs, fun x hx t ht hk f hf hr hb => ?_, fun s hs hr => ?_⟩
  · rw [h 17 rfl (by decide) x] at hk
    rw [h 4 rfl (by decide) f] at hr
    have tn : t < nt := by
      rcases a2 x hx with ⟨t', ht', e, -⟩ | ⟨n, hn, e, -⟩
      · have : t = t' := (nI_eq (by omega) (by omega)).mp (hk.symm.trans e)
        omega
      · exact absurd (by rw [← hk, e]; exact (by decide +kernel : ∀ n, n < 17 → -(nI 10) - nI n < 0) n (by omega)) (nI_pos (n := t) (by omega))
    rw [h3 t tn] at hb
    rw [h 18 rfl (by decide)]
    exact a5 x hx t tn hk f hf hr hb
  · rw [h 5 rfl (by decide) s] at hr
    rw [h 19 rfl (by decide)]
    exact a6 s hs hr
theorem w_addClass {σ : pz_Sg} {nt : Nat} (h : σ.1 1 0 = nI nt) (hn : nt < 8) {v a b : Int32} (hv : iv_nr σ.1 nt v a b) : pz_WP 59 (0, pz_en 3 [.ref 1, .int v], []) σ (pz_is (some (.int (nI nt))) (pz_up (pz_up (pz_up σ 2 nt a) 3 nt b) 1 0 (nI (nt + 1)))) := by
  have cl : (nI nt).toNatClampNeg = nt := nI_clamp (by omega)
  have vi : vp_in (nI nt) 8 := vp_in_nI hn (by decide)
  rcases hv with ⟨v1, a1, b1⟩ | ⟨p, hp, v1, a1, b1⟩
  · refine pv_59 v σ _ ⟨fun _ => ?_, fun z => absurd v1 z⟩
    refine pv_59_32 _ _ _ σ _ ?_
    rw [h, cl, ← a1]
    refine ⟨vi, ?_⟩
    rintro σ1 rfl
    rw [show (pz_up σ 2 nt a).1 1 0 = nI nt from h, cl]
    refine ⟨fun _ => ⟨vi, ?_⟩, fun z => absurd v1 z⟩
    rintro σ2 rfl σ3 rfl
    rw [show (pz_up (pz_up σ 2 nt a) 3 nt 0).1 1 0 = nI nt from h, nI_1, b1]
    exact ⟨rfl, rfl⟩
  · have n1 : ¬ v = -1 := by rw [v1]; exact nI_ne1 (by omega)
    have cp : v.toNatClampNeg = p := by rw [v1]; exact nI_clamp (by omega)
    have vp : vp_in v 8 := by rw [v1]; exact vp_in_nI (by omega) (by decide)
    refine pv_59 v σ _ ⟨fun z => absurd z n1, fun _ => ⟨vp, ?_⟩⟩
    refine pv_59_32 _ _ _ σ _ ?_
    rw [h, cl, cp, ← a1]
    refine ⟨vi, ?_⟩
    rintro σ1 rfl
    rw [show (pz_up σ 2 nt a).1 1 0 = nI nt from h, cl, show (pz_up σ 2 nt a).1 3 p = σ.1 3 p from rfl, ← b1]
    refine ⟨fun z => absurd z n1, fun _ => ⟨vp, vi, ?_⟩⟩
    rintro σ2 rfl σ3 rfl
    rw [show (pz_up (pz_up σ 2 nt a) 3 nt b).1 1 0 = nI nt from h, nI_1]
    exact ⟨rfl, rfl⟩
theorem op_type (L : Nat) (ys : Nat → Int32) : pz_O0 (iv L ys) := by
  intro v
  refine op_known fun σ n hn H => ?_
  have H' := iv_up H
  obtain ⟨h0, nt, nf, ns, nm, nx, h1, h2, h3, h4, h5, h6⟩ := H
  obtain ⟨⟨⟨c1, d1, b1⟩, t2, t3, t4⟩, p2, p3, p4, p5, p6, p7⟩ := id h1
  have cl : (nI nt).toNatClampNeg = nt := nI_clamp (by omega)
  have hy := pz_byn (x := v) d1 (by omega)
  by_cases g : v = -1 ∨ vp_in v nt
  · -- past the first test
    have A : ∀ {P : pz_Ps}, pz_WP 82 (18, [some (.ref 0), some (.int v)], []) σ P → pz_WP 82 (0, pz_en 2 [.ref 0, .int v], []) σ P := fun h => pv_82 v σ _ ⟨fun _ => h, fun z => pz_ki (w_isClass c1 (by omega) v) ⟨fun y => absurd (g.resolve_left z) (pz_b_0.mp y), fun _ => h⟩⟩
    have B : ∀ {s : pz_Sg} {P : pz_Ps}, s.1 55 0 = σ.1 55 0 → pz_WP 110 (23, [some (.ref 55), some (.int v)], []) s P → pz_WP 110 (0, pz_en 2 [.ref 55, .int v], []) s P := fun e h => pv_110 v _ _ ⟨fun _ => h, fun z => pz_ki (w_beyond _ _ _ _) ⟨fun _ => h, fun y => absurd (pz_b_0.mpr (fun q => hy.mp (by rw [← e]; exact q) (g.resolve_left z))) y⟩⟩
    by_cases h : nt < 8
    · have vi : vp_in (nI nt) 8 := vp_in_nI h (by decide)
      obtain ⟨a, b, hr⟩ : ∃ a b, iv_nr σ.1 nt v a b := by
        rcases g with g | g
        · exact ⟨_, _, Or.inl ⟨g, rfl, rfl⟩⟩
        · obtain ⟨p, hp, e⟩ := vp_in_of g (by omega)
          exact ⟨_, _, Or.inr ⟨p, hp, e, rfl, rfl⟩⟩
      refine ⟨nI nt, pz_up (pz_up (pz_up (pz_up σ 0 10 0) 2 nt a) 3 nt b) 1 0 (nI (nt + 1)), pz_up (pz_up (pz_up (pz_up (pz_up (pz_up (pz_up σ 0 10 0) 2 nt a) 3 nt b) 1 0 (nI (nt + 1))) 55 21 0) 56 nt v) 55 0 (nI (nt + 1)), A (pv_82_18 v σ _ ⟨fun _ => ?_, fun z => absurd ((pz_lt8 c1 (by omega) (by decide)).mpr h) z⟩), ⟨rfl, rfl⟩, B rfl (pv_110_23 v _ _ ⟨fun z => absurd ((pz_eq8 (x := σ.1 55 0) d1 (by omega) (by decide)).mp z) (by omega), fun _ => ?_⟩), ?_⟩
      · rintro σ1 rfl
        exact pz_ki (w_addClass (σ := pz_up σ 0 10 0) c1 h hr) ⟨rfl, rfl⟩
      · intro σ4 e
        subst e
        rw [show (pz_up (pz_up (pz_up (pz_up (pz_up σ 0 10 0) 2 nt a) 3 nt b) 1 0 (nI (nt + 1))) 55 21 0).1 55 0 = nI nt from d1, cl]
        refine ⟨vi, fun σ5 e σ6 e6 => ?_⟩
        subst e
        rw [show (pz_up (pz_up (pz_up (pz_up (pz_up (pz_up σ 0 10 0) 2 nt a) 3 nt b) 1 0 (nI (nt + 1))) 55 21 0) 56 nt v).1 55 0 = nI nt from d1, nI_1] at e6
        subst e6
        refine pz_ans ?_ rfl
        rw [qz_rs, qz_m1]
      · refine ⟨pz_ti_u (pz_ti_u (pz_ti_u (pz_ti_u (pz_ti_u (pz_ti_u (pz_ti_u h0 (by omega)) (by omega)) (by omega)) (by omega)) (by omega)) (by omega)) (by omega), nt + 1, nf, ns, nm, nx, ⟨⟨⟨rfl, rfl, by omega⟩, t2, t3, t4⟩, iv_ty_n (F := σ.1) h hr (fun t ht => ?_) (fun t ht => ?_) ?_ ?_ p2, iv_fl_n (F := σ.1) h hr (fun t ht => ?_) (fun t ht => ?_) (fun _ => rfl) ?_ ?_ (iv_up0_of p2) p3, p4, p5, iv_ln_g (F := σ.1) (Nat.le_succ _) (Nat.le_refl _) (Nat.le_refl _) (Nat.le_refl _) (by omega) (by omega) (by omega) (fun m hm => rfl) (fun m a b => absurd a (by omega)) (fun _ => rfl) (fun _ => rfl) (fun _ => rfl) (fun _ => rfl) (fun _ => rfl) (fun _ => rfl) (fun _ => rfl) (fun _ => rfl) (fun _ _ => rfl) (fun _ _ => rfl) (fun _ _ => rfl) (fun _ _ => rfl) (fun _ _ => rfl) p6, iv_ca_g (F := σ.1) (fun m hm => rfl) (fun m a b => absurd a (by omega)) (fun _ => rfl) (fun _ => rfl) (fun _ => rfl) (fun _ => rfl) (fun _ => rfl) p7⟩, iv_wd_t (F := σ.1) (by omega) (fun a ha h3 j => ?_) (fun t ht => ?_) rfl rfl h2, iv_pr_c (Nat.le_succ n) rfl rfl (fun _ => rfl) (fun _ => rfl) h3, iv_ar_c (fun _ => rfl) (fun _ => rfl) (fun _ => rfl) (fun _ => rfl) h4, iv_an_0 rfl rfl, iv_la_c (fun _ => rfl) (fun _ => rfl) rfl rfl h6⟩
        · have hq : ¬ t = nt := by omega
          simp [qz_rd, hq]
        · have hq : ¬ t = nt := by omega
          simp [qz_rd, hq]
        · simp [qz_rd]
        · simp [qz_rd]
        · have hq : ¬ t = nt := by omega
          simp [qz_rd, hq]
        · have hq : ¬ t = nt := by omega
          simp [qz_rd, hq]
        · simp [qz_rd]
        · simp [qz_rd]
        · rw [qz_rn _ _ _ _ (fun e => by rw [e] at ha; cases ha), qz_rn _ _ _ _ (fun e => by rw [e] at ha; cases ha), qz_rn _ _ _ _ (fun e => by rw [e] at ha; cases ha), qz_rn _ _ _ _ (fun e => by rw [e] at ha; cases ha), qz_rn _ _ _ _ h3, qz_rn _ _ _ _ (fun e => by rw [e] at ha; cases ha), qz_rn _ _ _ _ (fun e => by rw [e] at ha; cases ha)]
        · have hq : ¬ t = nt := by omega
          simp [qz_rd, hq]
    · exact ⟨-(nI 3), σ, σ, A (pv_82_18 v σ _ ⟨fun z => absurd ((pz_lt8 c1 (by omega) (by decide)).mp z) h, fun _ => ⟨rfl, rfl⟩⟩), ⟨rfl, rfl⟩, B rfl (pv_110_23 v _ _ ⟨fun _ => ⟨rfl, rfl⟩, fun z => absurd ((pz_eq8 (x := σ.1 55 0) d1 (by omega) (by decide)).mpr (by omega)) z⟩), H'⟩
  · have g1 : ¬ v = -1 := fun z => g (Or.inl z)
    have g2 : ¬ vp_in v nt := fun z => g (Or.inr z)
    exact ⟨-1, σ, σ, pv_82 v σ _ ⟨fun z => absurd z g1, fun _ => pz_ki (w_isClass c1 (by omega) v) ⟨fun _ => ⟨rfl, rfl⟩, fun z => absurd (pz_b_0.mpr g2) z⟩⟩, ⟨rfl, rfl⟩, pv_110 v σ _ ⟨fun z => absurd z g1, fun _ => pz_ki (w_beyond _ _ _ _) ⟨fun z => absurd (hy.mpr g2) (pz_b_0.mp z), fun _ => ⟨rfl, rfl⟩⟩⟩, H'⟩
