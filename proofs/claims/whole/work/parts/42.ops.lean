/-! ===== get, put: what a THING holds ===== -/
theorem iv_bl_d {F : iv_F} {nt : Nat} (bn : nt < 2 ^ 31) (H : iv_up0 F nt) {t : Nat} (ht : t < nt) (u : Nat) : iv_bl F t t u ↔ t = u ∨ ∃ p, p < t ∧ F 56 t = nI p ∧ iv_bl F p p u := by
  cases t with
  | zero =>
    refine ⟨fun z => Or.inl z, fun z => z.elim id ?_⟩
    rintro ⟨p, hp, -⟩
    exact absurd hp (Nat.not_lt_zero _)
  | succ j =>
    conv => lhs; unfold iv_bl
    rcases H (j + 1) ht with e | ⟨p, hp, e⟩
    · rw [e]
      refine or_congr Iff.rfl ⟨fun z => absurd rfl z.1, ?_⟩
      rintro ⟨p, hp, e2, -⟩
      exact absurd e2.symm (nI_ne1 (by omega))
    · rw [e, nI_clamp (by omega), iv_bl_s bn H (fun _ _ => rfl) (p + 1) p (Nat.lt_succ_self p) (by omega) p j u (Nat.le_refl _) (by omega)]
      refine or_congr Iff.rfl ⟨fun z => ⟨p, hp, rfl, z.2⟩, ?_⟩
      rintro ⟨p', hp', e2, z⟩
      have : p = p' := (nI_eq (by omega) (by omega)).mp e2
      subst this
      exact ⟨nI_ne1 (by omega), z⟩
/-- the reference's isBelow -/
theorem w_isBelowM1 {σ : pz_Sg} {nt : Nat} (bn : nt ≤ 8) (H : iv_up0 σ.1 nt) (u : Nat) (hu : u < 2 ^ 31) : ∀ N t, t < N → t < nt → pz_WP 111 (2, [some (.ref 55), none, some (.int (nI u)), some (.int (nI t))], []) σ (pz_is (some (.int (pz_b (iv_bl σ.1 t t u)))) σ) := by
  intro N
  induction N with
  | zero => intro t ht; exact absurd ht (Nat.not_lt_zero _)
  | succ N ih =>
    intro t ht hn
    have d := iv_bl_d (by omega) H hn u
    have cl : (nI t).toNatClampNeg = t := nI_clamp (by omega)
    have t0 : ¬ nI t < 0 := nI_pos (by omega)
    refine pv_111_2 _ _ σ _ ⟨fun z => absurd z t0, fun _ => ⟨fun z => ?_, fun z => ⟨vp_in_nI (by omega) (by decide), ?_⟩⟩⟩
    · have e : t = u := (nI_eq (by omega) hu).mp z
      exact ⟨fun _ => ⟨fun q => absurd q t0, fun _ => pz_yes (d.mpr (Or.inl e))⟩, fun q => absurd z q⟩
    · rw [cl]
      have e : ¬ t = u := fun q => z (by rw [q])
      rcases H t hn with y | ⟨p, hp, y⟩
      · rw [y]
        have no : ¬ iv_bl σ.1 t t u := fun q => (d.mp q).elim e (fun ⟨p, hp, e2, _⟩ => nI_ne1 (by omega) (e2.symm.trans y))
        refine pv_111_2 _ _ σ _ ⟨fun _ => ⟨fun _ => ⟨fun _ => pz_no no, fun q => absurd (by decide) q⟩, fun _ => pz_no no⟩, fun q => absurd (by decide) q⟩
      · rw [y]
        have := ih p (by omega) (by omega)
        rw [show pz_b (iv_bl σ.1 t t u) = pz_b (iv_bl σ.1 p p u) from pz_b_c ?_]
        · exact this
        · rw [d]
          refine ⟨fun q => q.elim (fun q => absurd q e) (fun ⟨p', hp', e2, q⟩ => ?_), fun q => Or.inr ⟨p, hp, y, q⟩⟩
          have : p = p' := (nI_eq (by omega) (by omega)).mp (y.symm.trans e2)
          subst this
          exact q
theorem w_isBelowM {σ : pz_Sg} {nt : Nat} (bn : nt ≤ 8) (H : iv_up0 σ.1 nt) {t u : Nat} (ht : t < nt) (hu : u < 2 ^ 31) : pz_WP 111 (0, pz_en 4 [.ref 55, .int (nI t), .int (nI u)], []) σ (pz_is (some (.int (pz_b (iv_bl σ.1 t t u)))) σ) := pv_111 _ _ σ _ (w_isBelowM1 bn H u hu (t + 1) t (Nat.lt_succ_self t) ht)
/-- whether a THING of kind c holds place p -/
def qz_hs (F : iv_F) (nt nf : Nat) (c : Int32) (p : Nat) : Prop := (∃ n, n ≤ 16 ∧ c = -(nI 10) - nI n ∧ p < n) ∨ (∃ t, t < nt ∧ c = nI t ∧ p < nf ∧ iv_bl F t t (F 57 p).toNatClampNeg)
theorem qz_hs_a {F : iv_F} {nt nf n : Nat} (bt : nt ≤ 8) (hn : n ≤ 16) {p : Nat} : qz_hs F nt nf (-(nI 10) - nI n) p ↔ p < n := by
  constructor
  · rintro (⟨n', hn', e, hp⟩ | ⟨t, ht, e, -⟩)
    · have := congrArg (fun x => -(nI 10) - x) e
      simp only [(qz_k10 n (by omega)).2.2.1, (qz_k10 n' (by omega)).2.2.1] at this
      have : n = n' := (nI_eq (by omega) (by omega)).mp this
      omega
    · exact absurd (by rw [← e]; exact (qz_k10 n (by omega)).2.1) (nI_pos (n := t) (by omega))
  · intro h
    exact Or.inl ⟨n, hn, rfl, h⟩
theorem qz_hs_o {F : iv_F} {nt nf t : Nat} (bt : nt ≤ 8) (ht : t < nt) {p : Nat} : qz_hs F nt nf (nI t) p ↔ p < nf ∧ iv_bl F t t (F 57 p).toNatClampNeg := by
  constructor
  · rintro (⟨n', hn', e, hp⟩ | ⟨t', ht', e, h⟩)
    · exact absurd (by rw [e]; exact (qz_k10 n' (by omega)).2.1) (nI_pos (n := t) (by omega))
    · have : t = t' := (nI_eq (by omega) (by omega)).mp e
      subst this
      exact h
  · intro h
    exact Or.inr ⟨t, ht, rfl, h⟩
theorem qz_hs_16 {F : iv_F} {nt nf : Nat} {c : Int32} {p : Nat} (bf : nf ≤ 16) (h : qz_hs F nt nf c p) : p < 16 := by
  rcases h with ⟨n, hn, -, hp⟩ | ⟨t, -, -, hp, -⟩
  · omega
  · omega
theorem w_isArray {σ : pz_Sg} {x : Nat} (hx : x < 60) : pz_WP 74 (0, pz_en 2 [.ref 16, .int (nI x)], []) σ (pz_is (some (.int (pz_b (¬ -(nI 10) < σ.1 17 x)))) σ) := by
  refine pv_74r16 _ σ _ ?_
  rw [nI_clamp (by omega)]
  exact ⟨vp_in_nI hx (by decide), fun z => pz_no (fun q => q z), fun z => pz_yes z⟩
theorem w_itemsOf {σ : pz_Sg} {x : Nat} (hx : x < 60) : pz_WP 73 (0, pz_en 2 [.ref 16, .int (nI x)], []) σ (pz_is (some (.int (-(nI 10) - σ.1 17 x))) σ) := by
  refine pv_73r16 _ σ _ ?_
  rw [nI_clamp (by omega)]
  exact ⟨vp_in_nI hx (by decide), rfl, rfl⟩
theorem qz_nar : ∀ t, t < 8 → -(nI 10) < nI t := by decide +kernel
/-- World.hasField -/
theorem w_hasField {σ : pz_Sg} {nt nf x : Nat} (hx : x < 60) {k i : Int32} (bt : nt ≤ 8) (hk : qz_kd nt (σ.1 17 x) k i) (H3 : iv_fl σ.1 nt nf) {p : Nat} (hp : p < 16) : pz_WP 76 (0, pz_en 4 [.ref 16, .ref 1, .int (nI x), .int (nI p)], []) σ (pz_is (some (.int (pz_b (-(nI 10) < σ.1 17 x ∧ qz_hs σ.1 nt nf (σ.1 17 x) p)))) σ) := by
  have cl : (nI x).toNatClampNeg = x := nI_clamp (by omega)
  refine pv_76r16_1 _ _ σ _ (pz_ki (w_isArray hx) ⟨fun z => ?_, fun z => pz_no (fun q => z (pz_b_0.mpr (fun y => y q.1)))⟩)
  have z' : -(nI 10) < σ.1 17 x := Classical.not_not.mp (pz_b_0.mp z)
  rw [cl]
  rcases hk with ⟨t, ht, e, -, -⟩ | ⟨n, hn, e, -, -⟩
  · rw [e] at z' ⊢
    have ct : (nI t).toNatClampNeg = t := nI_clamp (by omega)
    have hh := H3.2 t ht p hp
    rw [ct]
    exact ⟨vp_in_nI hx (by decide), vp_in_nI (by omega) (by decide), fun y => pz_yes ⟨z', (qz_hs_o bt ht).mpr (hh.mp y)⟩, fun y => pz_no (fun q => y (hh.mpr ((qz_hs_o bt ht).mp q.2)))⟩
  · rw [e] at z'
    exact absurd z' (qz_k10 n (by omega)).2.2.2
/-- World.holds -/
theorem w_holds {σ : pz_Sg} {nt nf nx : Nat} (bx : nx ≤ 60) (bt : nt ≤ 8) (bf : nf ≤ 16) (h16 : σ.1 16 0 = nI nx) (h11 : σ.1 1 1 = nI nf) (hw : ∀ x, x < nx → ∃ k i, qz_kd nt (σ.1 17 x) k i) (H3 : iv_fl σ.1 nt nf) (a b : Int32) : pz_WP 78 (0, pz_en 4 [.ref 16, .ref 1, .int a, .int b], []) σ (pz_is (some (.int (pz_b (∃ x p, x < nx ∧ a = nI x ∧ b = nI p ∧ p < 16 ∧ qz_hs σ.1 nt nf (σ.1 17 x) p)))) σ) := by
  refine pv_78r16_1 _ _ σ _ (pz_ki (w_isThing h16 (by omega) a) ⟨fun z => pz_no ?_, fun z => ?_⟩)
  · rintro ⟨x, p, hx, rfl, -⟩
    exact pz_b_0.mp z (vp_in_nI hx (by omega))
  · obtain ⟨x, hx, rfl⟩ := vp_in_of (Classical.not_not.mp fun q => z (pz_b_0.mpr q)) (by omega)
    refine ⟨fun y => ?_, fun y => pz_no ?_⟩
    · obtain ⟨p, hp, rfl⟩ := nI_of (Int32.not_lt.mpr y)
      have red : (∃ x' p', x' < nx ∧ nI x = nI x' ∧ nI p = nI p' ∧ p' < 16 ∧ qz_hs σ.1 nt nf (σ.1 17 x') p') ↔ p < 16 ∧ qz_hs σ.1 nt nf (σ.1 17 x) p := by
        constructor
        · rintro ⟨x', p', h1, e1, e2, h2, h3⟩
          have : x = x' := (nI_eq (by omega) (by omega)).mp e1
          have : p = p' := (nI_eq (by omega) (by omega)).mp e2
          subst x'
          subst p'
          exact ⟨h2, h3⟩
        · rintro ⟨h2, h3⟩
          exact ⟨x, p, hx, rfl, rfl, h2, h3⟩
      rw [pz_b_c red]
      obtain ⟨k, i, hk⟩ := hw x hx
      refine pz_ki (w_isArray (by omega)) ⟨fun u => ?_, fun u => ?_⟩
      · have u' : -(nI 10) < σ.1 17 x := Classical.not_not.mp (pz_b_0.mp u)
        rw [h11]
        refine ⟨fun q => pz_no (fun w => ?_), fun q => ?_⟩
        · rcases hk with ⟨t, ht, e, -, -⟩ | ⟨n, hn, e, -, -⟩
          · rw [e] at w
            exact absurd ((nI_leI (by omega) (by omega)).mp q) (Nat.not_le.mpr ((qz_hs_o bt ht).mp w.2).1)
          · rw [e] at u'
            exact absurd u' (qz_k10 n (by omega)).2.2.2
        · have p16 : p < 16 := Nat.lt_of_lt_of_le (Nat.not_le.mp fun w => q (nI_le w (by omega))) bf
          refine pz_ki (w_hasField (by omega) bt hk H3 p16) ⟨fun w => pz_no (fun v => pz_b_0.mp w ⟨u', v.2⟩), fun w => pz_yes ⟨p16, (Classical.not_not.mp fun v => w (pz_b_0.mpr v)).2⟩⟩
      · have u' : ¬ -(nI 10) < σ.1 17 x := Classical.not_not.mp fun q => u (pz_b_0.mpr q)
        rcases hk with ⟨t, ht, e, -, -⟩ | ⟨n, hn, e, -, -⟩
        · rw [e] at u'
          exact absurd (qz_nar t (by omega)) u'
        · refine pz_ki (w_itemsOf (by omega)) ?_
          rw [e, (qz_k10 n (by omega)).2.2.1, qz_hs_a bt hn]
          exact ⟨fun q => pz_no (fun v => absurd ((nI_leI (by omega) (by omega)).mp q) (by omega)), fun q => pz_yes ⟨Nat.lt_of_lt_of_le (Nat.not_le.mp fun w => q (nI_le w (by omega))) hn, Nat.not_le.mp fun w => q (nI_le w (by omega))⟩⟩
    · rintro ⟨x', p, hx', -, rfl, hp, -⟩
      exact y (Int32.not_lt.mp (nI_pos (by omega)))
/-- World.refersAt -/
theorem w_refersAt {σ : pz_Sg} {x p : Nat} (hx : x < 60) (hp : p < 16) : pz_WP 79 (0, pz_en 4 [.ref 16, .ref 1, .int (nI x), .int (nI p)], []) σ (pz_is (some (.int (pz_b (-(nI 10) < σ.1 17 x ∧ ¬ σ.1 4 p = 0)))) σ) := by
  refine pv_79r16_1 _ _ σ _ (pz_ki (w_isArray hx) ⟨fun z => ?_, fun z => pz_no (fun q => z (pz_b_0.mpr (fun y => y q.1)))⟩)
  have z' : -(nI 10) < σ.1 17 x := Classical.not_not.mp (pz_b_0.mp z)
  rw [nI_clamp (by omega)]
  exact ⟨vp_in_nI hp (by decide), fun y => pz_no (fun q => q.2 y), fun y => pz_yes ⟨z', y⟩⟩
/-- the reference's hasIt -/
theorem w_hasIt {σ : pz_Sg} {nt nf x : Nat} (hx : x < 60) {c : Int32} (bt : nt ≤ 8) (bf : nf ≤ 16) (hk : qz_kd nt c (σ.1 73 x) (σ.1 74 x)) (h2 : σ.1 55 2 = nI nf) (H0 : iv_up0 σ.1 nt) (H3 : ∀ f, f < nf → ∃ t, t < nt ∧ σ.1 57 f = nI t) (b : Int32) : pz_WP 126 (0, pz_en 3 [.ref 55, .int (nI x), .int b], []) σ (pz_is (some (.int (pz_b (∃ p, b = nI p ∧ p < 16 ∧ qz_hs σ.1 nt nf c p)))) σ) := by
  have cl : (nI x).toNatClampNeg = x := nI_clamp (by omega)
  have vx : vp_in (nI x) 60 := vp_in_nI hx (by decide)
  refine pv_126 _ _ σ _ ?_
  rw [cl]
  rcases hk with ⟨t, ht, rfl, e1, e2⟩ | ⟨n, hn, rfl, e1, e2⟩
  · rw [e1]
    refine ⟨vx, fun _ => pz_ki (w_beyond _ _ _ _) ⟨fun z => ?_, fun z => pz_no ?_⟩, fun z => absurd (Int32.not_lt.mp (nI_pos (by omega))) z⟩
    · have hv : vp_in b nf := Classical.not_not.mp fun q => pz_b_0.mp z ((pz_byn h2 (by omega)).mpr q)
      obtain ⟨p, hp, rfl⟩ := vp_in_of hv (by omega)
      have cp : (nI p).toNatClampNeg = p := nI_clamp (by omega)
      obtain ⟨u, hu, e⟩ := H3 p hp
      rw [cp, e1, e]
      have := w_isBelowM (u := u) bt H0 ht (by omega)
      have red : iv_bl σ.1 t t u ↔ ∃ p', nI p = nI p' ∧ p' < 16 ∧ qz_hs σ.1 nt nf (nI t) p' := by
        constructor
        · intro q
          exact ⟨p, rfl, by omega, (qz_hs_o bt ht).mpr ⟨hp, by rw [e, nI_clamp (by omega)]; exact q⟩⟩
        · rintro ⟨p', e', -, q⟩
          have q := (qz_hs_o bt ht).mp q
          have : p = p' := (nI_eq (by omega) (by omega)).mp e'
          subst p'
          rw [e, nI_clamp (by omega)] at q
          exact q.2
      rw [pz_b_c red] at this
      exact ⟨vx, vp_in_nI (by omega) (by decide), pz_ki this pz_re⟩
    · rintro ⟨p, rfl, -, q⟩
      exact z (pz_b_0.mpr fun y => (pz_byn h2 (by omega)).mp y (vp_in_nI ((qz_hs_o bt ht).mp q).1 (by omega)))
  · rw [e1, e2]
    refine ⟨vx, fun z => absurd z (by decide), fun _ => ⟨vx, pz_ki (w_beyond _ _ _ _) ⟨fun z => pz_yes ?_, fun z => pz_no ?_⟩⟩⟩
    · have hv : vp_in b n := Classical.not_not.mp fun q => pz_b_0.mp z ((pz_byn rfl (by omega)).mpr q)
      obtain ⟨p, hp, rfl⟩ := vp_in_of hv (by omega)
      exact ⟨p, rfl, by omega, (qz_hs_a bt hn).mpr hp⟩
    · rintro ⟨p, rfl, -, q⟩
      exact z (pz_b_0.mpr fun y => (pz_byn rfl (by omega)).mp y (vp_in_nI ((qz_hs_a bt hn).mp q) (by omega)))
theorem qz_i16 {x p : Nat} (hx : x < 60) (hp : p < 16) : nI x * nI 16 + nI p = nI (16 * x + p) ∧ nI 16 * nI x + nI p = nI (16 * x + p) ∧ (nI (16 * x + p)).toNatClampNeg = 16 * x + p ∧ vp_in (nI (16 * x + p)) 960 := by
  refine ⟨?_, ?_, nI_clamp (by omega), vp_in_nI (by omega) (by decide)⟩
  · rw [pk_mul, nI_add, Nat.mul_comm]
  · rw [pk_mul, nI_add]
theorem op_get (L : Nat) (ys : Nat → Int32) : pz_O10 (iv L ys) := by
  intro a b
  refine op_read fun σ n H => ?_
  obtain ⟨-, nt, nf, ns, nm, nx, ⟨⟨⟨c1, d1, b1⟩, ⟨c2, d2, b2⟩, -⟩, p2, p3, -⟩, ⟨⟨w1, w1', wb⟩, w2, w3, -⟩, -⟩ := H
  have hC := w_holds wb b1 b2 w1 c2 (fun x hx => ⟨_, _, w2 x hx⟩) p3 a b
  by_cases g : ∃ x p, x < nx ∧ a = nI x ∧ b = nI p ∧ p < 16 ∧ qz_hs σ.1 nt nf (σ.1 17 x) p
  · rw [pz_b_t g] at hC
    obtain ⟨x, p, hx, rfl, rfl, hp, hh⟩ := g
    obtain ⟨i1, i2, cx, vx⟩ := qz_i16 (x := x) (by omega) hp
    have hM := w_hasIt (by omega) b1 b2 (w2 x hx) d2 (iv_up0_of p2) p3.1 (nI p)
    rw [pz_b_t ⟨p, rfl, hp, hh⟩] at hM
    refine ⟨σ.1 18 (16 * x + p), pv_92 _ _ σ _ (pz_ki hC ⟨fun z => absurd z (by decide), fun _ => ?_⟩), pv_129 _ _ σ _ (pz_ki (w_noThing w1' (by omega) _) ⟨fun _ => pz_ki hM ⟨fun z => absurd z (by decide), fun _ => ?_⟩, fun z => absurd (pz_b_0.mpr (fun y => y (vp_in_nI hx (by omega)))) z⟩)⟩
    · rw [i1, cx]; exact ⟨vx, rfl, rfl⟩
    · rw [i2, cx]; exact ⟨vx, pz_ans (w3 _ (by omega)).symm rfl⟩
  · rw [pz_b_f g] at hC
    refine ⟨0, pv_92 _ _ σ _ (pz_ki hC ⟨fun _ => ⟨rfl, rfl⟩, fun z => absurd rfl z⟩), pv_129 _ _ σ _ (pz_ki (w_noThing w1' (by omega) _) ⟨fun z => ?_, fun _ => ⟨rfl, rfl⟩⟩)⟩
    obtain ⟨x, hx, rfl⟩ := vp_in_of (Classical.not_not.mp (pz_b_0.mp z)) (by omega)
    have hM := w_hasIt (by omega) b1 b2 (w2 x hx) d2 (iv_up0_of p2) p3.1 b
    rw [pz_b_f (fun ⟨p, e, hp, hh⟩ => g ⟨x, p, hx, rfl, e, hp, hh⟩)] at hM
    exact pz_ki hM ⟨fun _ => ⟨rfl, rfl⟩, fun z => absurd rfl z⟩
/-- a place of a THING in both worlds -/
theorem iv_wd_put {F F' : iv_F} {nt ns nx x p : Nat} {v : Int32} (hx : x < nx) (hp : p < 16) (h18 : ∀ j, F' 18 j = if j = 16 * x + p then v else F 18 j) (h75 : ∀ j, F' 75 j = if j = 16 * x + p then v else F 75 j) (hr : ∀ a, a ≠ 18 → a ≠ 75 → F' a = F a) (hv : ∀ t, t < nt → F 17 x = nI t → F 4 p = 1 → iv_rv nx v) (H : iv_wd F nt ns nx) : iv_wd F' nt ns nx := by
  obtain ⟨w1, w2, w3, w4, w5, w6⟩ := H
  refine ⟨by rw [hr 16 (by decide) (by decide), hr 55 (by decide) (by decide)]; exact w1, fun y hy => by rw [hr 17 (by decide) (by decide), hr 73 (by decide) (by decide), hr 74 (by decide) (by decide)]; exact w2 y hy, fun j hj => ?_, fun s hs => by rw [hr 19 (by decide) (by decide), hr 76 (by decide) (by decide)]; exact w4 s hs, fun y hy t ht h0 f hf h1 hb => ?_, fun s hs h1 => ?_⟩
  · rw [h18, h75]
    split
    · rfl
    · exact w3 j hj
  · rw [hr 17 (by decide) (by decide)] at h0
    rw [hr 4 (by decide) (by decide)] at h1
    rw [hr 3 (by decide) (by decide)] at hb
    rw [h18]
    split
    · rename_i e
      have e1 : y = x := by omega
      have e2 : f = p := by omega
      subst e1
      subst e2
      exact hv t ht h0 h1
    · exact w5 y hy t ht h0 f hf h1 hb
  · rw [hr 5 (by decide) (by decide)] at h1
    rw [hr 19 (by decide) (by decide)]
    exact w6 s hs h1
theorem iv_put {L : Nat} {ys : Nat → Int32} {n : Nat} {σ : pz_Sg} {nt nf ns nm nx x p : Nat} (h0 : pz_ti L ys σ) (h1 : iv_pg σ.1 nt nf ns nm) (h2 : iv_wd σ.1 nt ns nx) (h3 : iv_pr σ.1 n) (h4 : iv_ar σ.1 nx) (h5 : iv_an σ nm) (h6 : iv_la σ.1) (hx : x < nx) (hp : p < 16) {v : Int32} (hv : ∀ t, t < nt → σ.1 17 x = nI t → σ.1 4 p = 1 → iv_rv nx v) : iv L ys (n + 1) (pz_up (pz_up σ 18 (16 * x + p) v) 75 (16 * x + p) v) := by
  refine ⟨pz_ti_u (pz_ti_u h0 (by omega)) (by omega), nt, nf, ns, nm, nx, iv_pg_c (qz_fr1 (qz_fr1 qz_fr0 rfl) rfl) (fun _ _ => rfl) rfl rfl rfl rfl h1, iv_wd_put (F := σ.1) hx hp (fun j => ?_) (fun j => ?_) (fun a q1 q2 => ?_) hv h2, iv_pr_c (Nat.le_succ n) rfl rfl (fun _ => rfl) (fun _ => rfl) h3, iv_ar_c (fun _ => rfl) (fun _ => rfl) (fun _ => rfl) (fun _ => rfl) h4, iv_an_c (qz_fr1 (qz_fr1 qz_fr0 rfl) rfl) rfl rfl (fun _ => rfl) h5, iv_la_c (fun _ => rfl) (fun _ => rfl) rfl rfl h6⟩
  · rw [qz_rn _ _ _ _ (by decide), qz_rd]
    simp
  · rw [qz_rd, qz_rn _ _ _ _ (by decide)]
    simp
  · rw [qz_rn _ _ _ _ q2, qz_rn _ _ _ _ q1]
theorem op_put (L : Nat) (ys : Nat → Int32) : pz_O8 (iv L ys) := by
  intro a b v
  refine op_known fun σ n hn H => ?_
  have H' := iv_up H
  obtain ⟨h0, nt, nf, ns, nm, nx, h1, h2, h3, h4, h5, h6⟩ := H
  obtain ⟨⟨⟨c1, d1, b1⟩, ⟨c2, d2, b2⟩, -⟩, p2, p3, ⟨rf1, -, -⟩, -⟩ := id h1
  obtain ⟨⟨w1, w1', wb⟩, w2, w3, -⟩ := id h2
  have hC := w_holds wb b1 b2 w1 c2 (fun x hx => ⟨_, _, w2 x hx⟩) p3 a b
  by_cases g : ∃ x p, x < nx ∧ a = nI x ∧ b = nI p ∧ p < 16 ∧ qz_hs σ.1 nt nf (σ.1 17 x) p
  · rw [pz_b_t g] at hC
    obtain ⟨x, p, hx, rfl, rfl, hp, hh⟩ := g
    obtain ⟨i1, i2, cx, vx⟩ := qz_i16 (x := x) (by omega) hp
    have kd := w2 x hx
    have ob : -(nI 10) < σ.1 17 x ↔ ¬ σ.1 73 x < 0 := by rw [← qz_kd_o b1 kd, Int32.not_le]
    have hF : ∀ s : pz_Sg, s.1 73 x = σ.1 73 x → s.1 74 x = σ.1 74 x → s.1 55 2 = σ.1 55 2 → s.1 56 = σ.1 56 → s.1 57 = σ.1 57 → pz_WP 126 (0, pz_en 3 [.ref 55, .int (nI x), .int (nI p)], []) s (pz_is (some (.int 1)) s) := by
      intro s e73 e74 e2 e56 e57
      have hM := w_hasIt (σ := s) (nt := nt) (nf := nf) (x := x) (c := σ.1 17 x) (by omega) b1 b2 (by rw [e73, e74]; exact kd) (by rw [e2]; exact d2) (fun t ht => by rw [e56]; exact iv_up0_of p2 t ht) (fun f hf => by rw [e57]; exact p3.1 f hf) (nI p)
      have hh' : qz_hs s.1 nt nf (σ.1 17 x) p := by
        rcases hh with q | ⟨t, ht, q1, q2, q3⟩
        · exact Or.inl q
        · exact Or.inr ⟨t, ht, q1, q2, by rw [e57, iv_bl_c (F := σ.1) (fun t => by rw [e56])]; exact q3⟩
      rw [pz_b_t ⟨p, rfl, hp, hh'⟩] at hM
      exact hM
    have cX : (nI x).toNatClampNeg = x := nI_clamp (by omega)
    have cP : (nI p).toNatClampNeg = p := nI_clamp (by omega)
    have v60 : vp_in (nI x) 60 := vp_in_nI (by omega) (by decide)
    have v16 : vp_in (nI p) 16 := vp_in_nI hp (by decide)
    have nth : ∀ {P : Prop} {s : pz_Sg}, (¬ pz_b (¬ vp_in (nI x) nx) = 0 → P) := fun z => absurd (pz_b_0.mpr (fun y => y (vp_in_nI hx (by omega)))) z
    by_cases gv : (-(nI 10) < σ.1 17 x ∧ ¬ σ.1 4 p = 0) → iv_rv nx v
    · refine ⟨1, pz_up σ 18 (16 * x + p) v, pz_up (pz_up σ 18 (16 * x + p) v) 75 (16 * x + p) v, pv_90 _ _ _ σ _ (pz_ki hC ⟨fun z => absurd z (by decide), fun _ => pz_ki (w_refersAt (by omega) hp) ⟨fun z => ?_, fun z => pz_ki (w_isThingOrNull w1 (by omega) v) ⟨fun y => absurd (gv (Classical.not_not.mp fun q => z (pz_b_0.mpr q))) (pz_b_0.mp y), fun _ => ?_⟩⟩⟩), ⟨rfl, rfl⟩, pv_127 _ _ _ _ _ (pz_ki (w_noThing (σ := pz_up σ 18 (16 * x + p) v) (n := nx) w1' (by omega) _) ⟨fun _ => pz_ki (hF _ rfl rfl rfl rfl rfl) ⟨fun z => absurd z (by decide), fun _ => ⟨v60, ?_⟩⟩, nth (s := σ)⟩), iv_put h0 h1 h2 h3 h4 h5 h6 hx hp (fun t ht q1 q2 => gv ⟨by rw [q1]; exact qz_nar t (by omega), by rw [q2]; decide⟩)⟩
      · refine pv_90_47 _ _ _ σ _ ?_
        rw [i1, cx]
        exact ⟨vx, fun σ2 e2 => pz_ans rfl e2⟩
      · refine pv_90_47 _ _ _ σ _ ?_
        rw [i1, cx]
        exact ⟨vx, fun σ2 e2 => pz_ans rfl e2⟩
      · have fin : pz_WP 127 (50, [some (.ref 55), some (.int (nI x)), some (.int (nI p)), some (.int v)], []) (pz_up σ 18 (16 * x + p) v) (pz_is (some (.int 1)) (pz_up (pz_up σ 18 (16 * x + p) v) 75 (16 * x + p) v)) := by
          refine pv_127_50 _ _ _ _ _ ?_
          rw [i2, cx]
          exact ⟨vx, fun σ2 e2 => pz_ans rfl e2⟩
        rw [cX, cP]
        refine ⟨fun _ => fin, fun z => ⟨v16, fun _ => fin, fun y => ⟨fun _ => fin, fun u => pz_ki (w_noThing (σ := pz_up σ 18 (16 * x + p) v) (n := nx) w1' (by omega) v) ⟨fun _ => fin, fun q => absurd (pz_b_0.mpr (fun t => t ?_)) q⟩⟩⟩⟩
        have := gv ⟨ob.mpr z, by rw [(rf1 p hp).1]; exact y⟩
        exact ((iv_rv_i (by omega)).mp this).resolve_left u
    · have g1 : -(nI 10) < σ.1 17 x ∧ ¬ σ.1 4 p = 0 := Classical.not_not.mp fun q => gv (fun z => absurd z q)
      have g2 : ¬ iv_rv nx v := fun q => gv (fun _ => q)
      refine ⟨-1, σ, σ, pv_90 _ _ _ σ _ (pz_ki hC ⟨fun z => absurd z (by decide), fun _ => pz_ki (w_refersAt (by omega) hp) ⟨fun z => absurd g1 (pz_b_0.mp z), fun z => pz_ki (w_isThingOrNull w1 (by omega) v) ⟨fun _ => ⟨rfl, rfl⟩, fun y => absurd (pz_b_0.mpr g2) y⟩⟩⟩), ⟨rfl, rfl⟩, pv_127 _ _ _ _ _ (pz_ki (w_noThing (n := nx) w1' (by omega) _) ⟨fun _ => pz_ki (hF _ rfl rfl rfl rfl rfl) ⟨fun z => absurd z (by decide), fun _ => ⟨v60, ?_⟩⟩, nth (s := σ)⟩), H'⟩
      rw [cX, cP]
      refine ⟨fun z => absurd z (ob.mp g1.1), fun z => ⟨v16, fun y => absurd (by rw [(rf1 p hp).1]; exact y) g1.2, fun y => ⟨fun u => absurd (Or.inl u) g2, fun u => pz_ki (w_noThing (n := nx) w1' (by omega) v) ⟨fun q => absurd ((iv_rv_i (by omega)).mpr (Or.inr (Classical.not_not.mp (pz_b_0.mp q)))) g2, fun _ => ⟨rfl, rfl⟩⟩⟩⟩⟩
  · rw [pz_b_f g] at hC
    refine ⟨-1, σ, σ, pv_90 _ _ _ σ _ (pz_ki hC ⟨fun _ => ⟨rfl, rfl⟩, fun z => absurd rfl z⟩), ⟨rfl, rfl⟩, pv_127 _ _ _ σ _ (pz_ki (w_noThing w1' (by omega) _) ⟨fun z => ?_, fun _ => ⟨rfl, rfl⟩⟩), H'⟩
    obtain ⟨x, hx, rfl⟩ := vp_in_of (Classical.not_not.mp (pz_b_0.mp z)) (by omega)
    have hM := w_hasIt (by omega) b1 b2 (w2 x hx) d2 (iv_up0_of p2) p3.1 b
    rw [pz_b_f (fun ⟨p, e, hp, hh⟩ => g ⟨x, p, hx, rfl, e, hp, hh⟩)] at hM
    exact pz_ki hM ⟨fun _ => ⟨rfl, rfl⟩, fun z => absurd rfl z⟩
