/-! ===== a RUN ends: held against what was foreseen ===== -/
def rHb (B : iv_F) (m0 k f : Nat) : Prop := (0 < k ∧ B 37 m0 = 0) ∨ (0 < f ∧ ¬ bB (B 35 m0) f)
theorem bB_not {x : Int32} {u : Nat} (hu : u < 32) : (x >>> (nI u &&& 31)) &&& 1 = 0 ↔ ¬ bB x u := by
  rw [b_no hu]
  unfold bB
  cases bt x u <;> simp
theorem w_hold {σ : pz_Sg} {m0 k f : Nat} (hm : m0 < 10) (hk : k < 2 ^ 30) (hf : f ≤ 9) (h2 : σ.1 40 2 = nI k) (h6 : σ.1 40 6 = nI f) : pz_WP 35 (0, pz_en 4 [.ref 39, .int (nI m0)], []) σ (fun v σ' => v = none ∧ (((¬ σ.1 39 11 = 0 ∧ rHb σ.1 m0 k f) ∧ σ' = pz_up σ 40 7 1) ∨ (¬ (¬ σ.1 39 11 = 0 ∧ rHb σ.1 m0 k f) ∧ σ' = σ))) := by
  have vm : vp_in (nI m0) 10 := vp_in_nI hm (by decide)
  have cm : (nI m0).toNatClampNeg = m0 := nI_clamp (by omega)
  have L65 : ∀ (a b : Int32), (¬ a = 0 ∨ ¬ b = 0 ↔ rHb σ.1 m0 k f) → pz_WP 35 (65, [some (.ref 39), none, some (.int a), none], [.int b]) σ (fun v σ' => v = none ∧ (((¬ σ.1 39 11 = 0 ∧ rHb σ.1 m0 k f) ∧ σ' = pz_up σ 40 7 1) ∨ (¬ (¬ σ.1 39 11 = 0 ∧ rHb σ.1 m0 k f) ∧ σ' = σ))) := by
    intro a b hab
    refine pv_35_65 _ _ σ _ ⟨fun z => ⟨rfl, Or.inr ⟨fun q => q.1 z, rfl⟩⟩, fun z => ⟨fun za => ⟨fun zb => ⟨rfl, Or.inr ⟨fun q => ?_, rfl⟩⟩, fun zb => ?_⟩, fun za => ?_⟩⟩
    · rcases hab.mpr q.2 with w | w
      · exact w za
      · exact w zb
    · rintro σ2 rfl
      exact ⟨rfl, Or.inl ⟨⟨z, hab.mp (Or.inr zb)⟩, rfl⟩⟩
    · rintro σ2 rfl
      exact ⟨rfl, Or.inl ⟨⟨z, hab.mp (Or.inl za)⟩, rfl⟩⟩
  have L27 : ∀ a : Int32, (¬ a = 0 ↔ (0 < k ∧ σ.1 37 m0 = 0)) → pz_WP 35 (27, [some (.ref 39), some (.int (nI m0)), none, none], [.int a]) σ (fun v σ' => v = none ∧ (((¬ σ.1 39 11 = 0 ∧ rHb σ.1 m0 k f) ∧ σ' = pz_up σ 40 7 1) ∨ (¬ (¬ σ.1 39 11 = 0 ∧ rHb σ.1 m0 k f) ∧ σ' = σ))) := by
    intro a ha
    refine pv_35_27 _ _ σ _ ?_
    rw [h6, cm]
    refine ⟨fun z => L65 a 0 ?_, fun z => ⟨vm, fun zb => L65 a 1 ?_, fun zb => L65 a 0 ?_⟩⟩
    · have : f = 0 := by
        have := (nI_leI (show f < 2 ^ 31 by omega) (by decide)).mp (show nI f ≤ nI 0 from z)
        omega
      unfold rHb
      rw [ha]
      exact ⟨fun q => q.elim Or.inl (fun w => absurd rfl w), fun q => q.elim Or.inl (fun w => absurd w.1 (by omega))⟩
    · unfold rHb
      have f0 : 0 < f := Nat.pos_of_ne_zero fun q => z (by rw [q]; decide)
      exact ⟨fun _ => Or.inr ⟨f0, (bB_not (by omega)).mp zb⟩, fun _ => Or.inr (by decide)⟩
    · unfold rHb
      rw [ha]
      exact ⟨fun q => q.elim Or.inl (fun w => absurd rfl w), fun q => q.elim Or.inl (fun w => absurd ((bB_not (by omega)).mpr w.2) zb)⟩
  refine pv_35 _ σ _ ?_
  rw [h2, cm]
  refine ⟨fun z => L27 0 ⟨fun w => absurd rfl w, fun w => ?_⟩, fun z => ⟨vm, fun zb => L27 1 ⟨fun _ => ⟨?_, zb⟩, fun _ => by decide⟩, fun zb => L27 0 ⟨fun w => absurd rfl w, fun w => absurd w.2 zb⟩⟩⟩
  · have := (nI_leI (show k < 2 ^ 31 by omega) (by decide)).mp (show nI k ≤ nI 0 from z)
    omega
  · exact Nat.pos_of_ne_zero fun q => z (by rw [q]; decide)
theorem b_sb {x y : Int32} : x &&& (y ^^^ -1) = 0 ↔ ∀ p, bB x p → bB y p := by
  rw [b_an0]
  constructor
  · intro h p hp
    by_cases h32 : p < 32
    · have := h p h32
      rw [b_xor, b_m1 p h32] at this
      unfold bB at *
      cases hy : bt y p
      · exact absurd ⟨hp, by rw [hy]; rfl⟩ this
      · rfl
    · exact absurd ((b_big (Nat.not_lt.mp h32)).symm.trans hp) (by decide)
  · rintro h i hi ⟨h1, h2⟩
    rw [b_xor, b_m1 i hi, show bt y i = true from h i h1] at h2
    exact absurd h2 (by decide)
/-- what is foreseen for THING y, for reads and for writes, of the first k references given -/
def rOp (B : iv_F) (m0 t1 c x p k : Nat) : Prop := bB (B c (4 * m0 + 3)) p ∨ ∃ j, j < k ∧ B 54 (t1 + j) = nI x ∧ bB (B c (4 * m0 + j)) p
def rOy (B : iv_F) (m0 t1 : Nat) (G : iv_F) (x : Nat) : Prop := (∀ p, bB (G 93 x) p → rOk B m0 t1 33 x p) ∧ (∀ p, bB (G 94 x) p → rOk B m0 t1 34 x p)
theorem rOp_s {B : iv_F} {m0 t1 c x p k : Nat} : rOp B m0 t1 c x p (k + 1) ↔ rOp B m0 t1 c x p k ∨ (B 54 (t1 + k) = nI x ∧ bB (B c (4 * m0 + k)) p) := by
  unfold rOp
  constructor
  · rintro (h | ⟨j, hj, h1, h2⟩)
    · exact Or.inl (Or.inl h)
    · by_cases e : j = k
      · subst e
        exact Or.inr ⟨h1, h2⟩
      · exact Or.inl (Or.inr ⟨j, by omega, h1, h2⟩)
  · rintro ((h | ⟨j, hj, h1, h2⟩) | ⟨h1, h2⟩)
    · exact Or.inl h
    · exact Or.inr ⟨j, by omega, h1, h2⟩
    · exact Or.inr ⟨k, by omega, h1, h2⟩
def rFs (B : iv_F) (m0 k f : Nat) (G : iv_F) : Prop := (∀ p, bB (G 55 58) p → bB (B 33 (4 * m0 + 3)) p) ∧ (∀ p, bB (G 55 59) p → bB (B 34 (4 * m0 + 3)) p) ∧ (k = 0 ∨ ¬ B 37 m0 = 0) ∧ (f = 0 ∨ bB (B 35 m0) f)
theorem rFs_b {B : iv_F} {m0 t1 t0 k f : Nat} {G : iv_F} : (rFs B m0 k f G ∧ ∀ y, y < t0 → rOy B m0 t1 G y) ↔ ¬ (rBd B m0 t1 t0 G ∨ rHb B m0 k f) := by
  constructor
  · rintro ⟨⟨h1, h2, h3, h4⟩, h5⟩ ((⟨p, q1, q2⟩ | ⟨p, q1, q2⟩ | ⟨x, p, hx, ⟨q1, q2⟩ | ⟨q1, q2⟩⟩) | ⟨q1, q2⟩ | ⟨q1, q2⟩)
    · exact q2 (h1 p q1)
    · exact q2 (h2 p q1)
    · exact q2 ((h5 x hx).1 p q1)
    · exact q2 ((h5 x hx).2 p q1)
    · rcases h3 with w | w
      · omega
      · exact w q2
    · rcases h4 with w | w
      · omega
      · exact q2 w
  · intro h
    refine ⟨⟨fun p hp => ?_, fun p hp => ?_, ?_, ?_⟩, fun y hy => ⟨fun p hp => ?_, fun p hp => ?_⟩⟩
    · exact Classical.not_not.mp fun q => h (Or.inl (Or.inl ⟨p, hp, q⟩))
    · exact Classical.not_not.mp fun q => h (Or.inl (Or.inr (Or.inl ⟨p, hp, q⟩)))
    · by_cases e : k = 0
      · exact Or.inl e
      · exact Or.inr fun q => h (Or.inr (Or.inl ⟨by omega, q⟩))
    · by_cases e : f = 0
      · exact Or.inl e
      · exact Or.inr (Classical.not_not.mp fun q => h (Or.inr (Or.inr ⟨by omega, q⟩)))
    · exact Classical.not_not.mp fun q => h (Or.inl (Or.inr (Or.inr ⟨y, p, hy, Or.inl ⟨hp, q⟩⟩)))
    · exact Classical.not_not.mp fun q => h (Or.inl (Or.inr (Or.inr ⟨y, p, hy, Or.inr ⟨hp, q⟩⟩)))
theorem w_fsM {B : iv_F} {m0 t0 pr k f q : Nat} {G : iv_F} {T : pz_Sg} (hm : m0 < 10) (eq : B 7 m0 = nI q) (hq : q ≤ 3) (g61 : G 61 m0 = nI q) (ht : t0 ≤ 60) (hf : f ≤ 9) (hpr : pr + k < 2 ^ 30) (g49 : G 55 49 = nI t0) (g50 : G 55 50 = nI pr) (g27 : G 55 27 = nI (pr + k)) (g51 : G 55 51 = nI f) (g86 : ∀ w, w < 4 → G 86 (4 * m0 + w) = B 33 (4 * m0 + w)) (g87 : ∀ w, w < 4 → G 87 (4 * m0 + w) = B 34 (4 * m0 + w)) (g83 : G 83 m0 = B 37 m0) (g84 : G 84 m0 = B 35 m0) (g79 : ∀ j, j < 3 → G 79 j - 1 = B 54 (0 + j)) : pz_WP 169 (0, pz_en 8 [.ref 55, .int (nI m0)], []) (Ms T G) (pz_is (some (.int (pz_b (¬ (rBd B m0 0 t0 G ∨ rHb B m0 k f))))) (Ms T G)) := by
  have vm : vp_in (nI m0) 10 := vp_in_nI hm (by decide)
  have cm : (nI m0).toNatClampNeg = m0 := nI_clamp (by omega)
  have i3 : nI 4 * nI m0 + nI 3 = nI (4 * m0 + 3) := by rw [pk_mul, nI_add]
  have v3 : vp_in (nI (4 * m0 + 3)) 40 := vp_in_nI (by omega) (by decide)
  have c3 : (nI (4 * m0 + 3)).toNatClampNeg = 4 * m0 + 3 := nI_clamp (by omega)
  have qB : (B 7 m0).toNatClampNeg = q := by rw [eq]; exact nI_clamp (by omega)
  rw [pz_b_c (Iff.symm (rFs_b (B := B) (t1 := 0) (t0 := t0)))]
  -- one THING
  have L141 : ∀ x, x < 60 → ∀ {P : pz_Ps}, pz_WP 169 (102, [some (.ref 55), some (.int (nI m0)), some (.int (pz_b (rOy B m0 0 G x))), some (.int (nI (x + 1))), none, none, none, none], []) (Ms T G) P → ∀ d j v4 v5, j + d = q → (∀ p, bB v4 p ↔ rOp B m0 0 33 x p j) → (∀ p, bB v5 p ↔ rOp B m0 0 34 x p j) → pz_WP 169 (141, [some (.ref 55), some (.int (nI m0)), none, some (.int (nI x)), some (.int v4), some (.int v5), some (.int (nI j)), none], []) (Ms T G) P := by
    intro x hx P hP d
    have vx : vp_in (nI x) 60 := vp_in_nI hx (by decide)
    have cx : (nI x).toNatClampNeg = x := nI_clamp (by omega)
    induction d with
    | zero =>
      intro j v4 v5 hj h4 h5
      have : j = q := by omega
      subst this
      have k4 : (∀ p, bB (G 93 x) p → bB v4 p) ↔ ∀ p, bB (G 93 x) p → rOk B m0 0 33 x p := forall_congr' fun p => imp_congr_right fun _ => by rw [h4 p]; unfold rOp rOk; rw [qB]
      have k5 : (∀ p, bB (G 94 x) p → bB v5 p) ↔ ∀ p, bB (G 94 x) p → rOk B m0 0 34 x p := forall_congr' fun p => imp_congr_right fun _ => by rw [h5 p]; unfold rOp rOk; rw [qB]
      refine pv_169_141 _ _ _ _ _ _ _ ?_
      rw [cm, cx, Ms_r (a := 61) (by decide), g61, Ms_r (a := 93) (by decide), Ms_r (a := 94) (by decide), b_sb, b_sb, k4, k5, nI_1]
      refine ⟨vm, fun _ => ⟨vx, fun z1 => ⟨vx, fun z2 => ?_, fun z2 => ?_⟩, fun z1 => ?_⟩, fun z => absurd (Int32.le_refl _) z⟩
      · rw [pz_b_t (show rOy B m0 0 G x from ⟨z1, z2⟩)] at hP
        exact hP
      · rw [pz_b_f (fun w : rOy B m0 0 G x => z2 w.2)] at hP
        exact hP
      · rw [pz_b_f (fun w : rOy B m0 0 G x => z1 w.1)] at hP
        exact hP
    | succ d ih =>
      intro j v4 v5 hj h4 h5
      have vj : vp_in (nI j) 6 := vp_in_nI (by omega) (by decide)
      have ij : nI 4 * nI m0 + nI j = nI (4 * m0 + j) := by rw [pk_mul, nI_add]
      have wj : vp_in (nI (4 * m0 + j)) 40 := vp_in_nI (by omega) (by decide)
      have cj : (nI (4 * m0 + j)).toNatClampNeg = 4 * m0 + j := nI_clamp (by omega)
      refine pv_169_141 _ _ _ _ _ _ _ ?_
      rw [cm, Ms_r (a := 61) (by decide), g61, Ms_r (a := 79) (by decide), nI_clamp (show j < 2 ^ 31 by omega), g79 j (by omega)]
      refine ⟨vm, fun z => absurd z (nI_ge (by omega) (by omega)), fun _ => ⟨vj, fun z => ?_, fun z => ?_⟩⟩
      · refine pv_169_170 _ _ _ _ _ _ _ _ ⟨fun w => absurd w (by decide), fun _ => ?_⟩
        rw [ij, cj, Ms_r (a := 86) (by decide), g86 j (by omega)]
        refine ⟨wj, pv_169_194 _ _ _ _ _ _ _ _ _ ⟨fun w => absurd w (by decide), fun _ => ?_⟩⟩
        rw [ij, cj, Ms_r (a := 87) (by decide), g87 j (by omega), nI_1]
        refine ⟨wj, ih (j + 1) _ _ (by omega) (fun p => ?_) (fun p => ?_)⟩
        · rw [bB_o, rOp_s, h4 p]
          exact or_congr Iff.rfl ⟨fun w => ⟨z, w⟩, fun w => w.2⟩
        · rw [bB_o, rOp_s, h5 p]
          exact or_congr Iff.rfl ⟨fun w => ⟨z, w⟩, fun w => w.2⟩
      · refine pv_169_170 _ _ _ _ _ _ _ _ ⟨fun _ => pv_169_194 _ _ _ _ _ _ _ _ _ ⟨fun _ => ?_, fun w => absurd rfl w⟩, fun w => absurd rfl w⟩
        rw [nI_1]
        refine ih (j + 1) _ _ (by omega) (fun p => ?_) (fun p => ?_)
        · rw [bB_o, rOp_s, h4 p]
          exact or_congr Iff.rfl ⟨fun w => absurd w bB_n, fun w => absurd w.1 z⟩
        · rw [bB_o, rOp_s, h5 p]
          exact or_congr Iff.rfl ⟨fun w => absurd w bB_n, fun w => absurd w.1 z⟩
  have L102 : ∀ d x, x + d = t0 → ∀ C : Prop, pz_WP 169 (102, [some (.ref 55), some (.int (nI m0)), some (.int (pz_b (C ∧ ∀ y, y < x → rOy B m0 0 G y))), some (.int (nI x)), none, none, none, none], []) (Ms T G) (pz_is (some (.int (pz_b (C ∧ ∀ y, y < t0 → rOy B m0 0 G y)))) (Ms T G)) := by
    intro d
    induction d with
    | zero =>
      intro x hx C
      have : x = t0 := by omega
      subst this
      refine pv_169_102 _ _ _ _ _ ⟨fun _ => ⟨pz_b_01 _, rfl, rfl⟩, fun z => absurd (show (Ms T G).1 55 49 ≤ nI x by rw [Ms_r (by decide), g49]; exact Int32.le_refl _) z⟩
    | succ d ih =>
      intro x hx C
      refine pv_169_102 _ _ _ _ _ ⟨fun z => absurd (show nI t0 ≤ nI x by rw [← g49]; exact z) (nI_ge (by omega) (by omega)), fun _ => ⟨fun z => ⟨Or.inl z, ?_⟩, fun z => ?_⟩⟩
      · refine ⟨?_, rfl⟩
        rw [z, pz_b_f (fun w => pz_b_0.mp z ⟨w.1, fun y hy => w.2 y (by omega)⟩)]
      · have hC : C ∧ ∀ y, y < x → rOy B m0 0 G y := Classical.not_not.mp fun w => z (pz_b_0.mpr w)
        rw [i3, c3, Ms_r (a := 86) (by decide), Ms_r (a := 87) (by decide), g86 3 (by omega), g87 3 (by omega)]
        have hI := ih (x + 1) (by omega) C
        rw [pz_b_c (show (C ∧ ∀ y, y < x + 1 → rOy B m0 0 G y) ↔ rOy B m0 0 G x from ⟨fun w => w.2 x (by omega), fun w => ⟨hC.1, fun y hy => by
          by_cases e : y = x
          · rw [e]; exact w
          · exact hC.2 y (by omega)⟩⟩)] at hI
        refine ⟨v3, v3, L141 x (by omega) hI q 0 _ _ (by omega) (fun p => ?_) (fun p => ?_)⟩
        · exact ⟨Or.inl, fun w => w.elim id (fun ⟨j, hj, _⟩ => absurd hj (by omega))⟩
        · exact ⟨Or.inl, fun w => w.elim id (fun ⟨j, hj, _⟩ => absurd hj (by omega))⟩
  have fin : ∀ v : Int32, v = pz_b (rFs B m0 k f G) → pz_WP 169 (102, [some (.ref 55), some (.int (nI m0)), some (.int v), some (.int 0), none, none, none, none], []) (Ms T G) (pz_is (some (.int (pz_b (rFs B m0 k f G ∧ ∀ y, y < t0 → rOy B m0 0 G y)))) (Ms T G)) := by
    rintro v rfl
    have := L102 t0 0 (by omega) (rFs B m0 k f G)
    rw [pz_b_c (show (rFs B m0 k f G ∧ ∀ y, y < 0 → rOy B m0 0 G y) ↔ rFs B m0 k f G from ⟨fun w => w.1, fun w => ⟨w, fun y hy => absurd hy (Nat.not_lt_zero _)⟩⟩)] at this
    exact this
  have L70 : (∀ p, bB (G 55 58) p → bB (B 33 (4 * m0 + 3)) p) → (∀ p, bB (G 55 59) p → bB (B 34 (4 * m0 + 3)) p) → (k = 0 ∨ ¬ B 37 m0 = 0) → pz_WP 169 (70, [some (.ref 55), some (.int (nI m0)), none, none, none, none, none, none], []) (Ms T G) (pz_is (some (.int (pz_b (rFs B m0 k f G ∧ ∀ y, y < t0 → rOy B m0 0 G y)))) (Ms T G)) := by
    intro h1 h2 h3
    refine pv_169_70 _ _ _ ?_
    rw [Ms_r (a := 55) (by decide), g51, cm, Ms_r (a := 84) (by decide), g84]
    refine ⟨fun z => fin 1 ?_, fun z => ⟨vm, fun w => fin 1 ?_, fun w => fin 0 ?_⟩⟩
    · rw [pz_b_t ⟨h1, h2, h3, Or.inl ((nI_eq (by omega) (by decide)).mp (show nI f = nI 0 from z))⟩]
    · rw [pz_b_t ⟨h1, h2, h3, Or.inr ((b_is (by omega)).mp w)⟩]
    · rw [pz_b_f]
      rintro ⟨-, -, -, q | q⟩
      · exact z (by rw [q]; rfl)
      · exact w ((b_is (by omega)).mpr q)
  refine pv_169 _ _ _ ?_
  rw [i3, c3, Ms_r (a := 55) (by decide), Ms_r (a := 86) (by decide), Ms_r (a := 87) (by decide), g86 3 (by omega), g87 3 (by omega), b_sb, b_sb]
  have L45 : ∀ v : Int32, (¬ v = 0 → (∀ p, bB (G 55 58) p → bB (B 33 (4 * m0 + 3)) p) ∧ (∀ p, bB (G 55 59) p → bB (B 34 (4 * m0 + 3)) p)) → (v = 0 → ¬ rFs B m0 k f G) → pz_WP 169 (45, [some (.ref 55), some (.int (nI m0)), none, none, none, none, none, none], [.int v]) (Ms T G) (pz_is (some (.int (pz_b (rFs B m0 k f G ∧ ∀ y, y < t0 → rOy B m0 0 G y)))) (Ms T G)) := by
    intro v h1 h0
    refine pv_169_45 _ _ _ _ ?_
    rw [Ms_r (a := 55) (by decide), g27, g50, cm, Ms_r (a := 83) (by decide), g83]
    refine ⟨fun z => fin 0 ?_, fun z => ⟨fun w => L70 (h1 z).1 (h1 z).2 (Or.inl ?_), fun w => ⟨vm, fun y => fin 0 ?_, fun y => L70 (h1 z).1 (h1 z).2 (Or.inr y)⟩⟩⟩
    · rw [pz_b_f (h0 z)]
    · have := (nI_eq (by omega) (by omega)).mp w
      omega
    · rw [pz_b_f]
      rintro ⟨-, -, q | q, -⟩
      · exact w (by rw [q]; rfl)
      · exact q y
  exact ⟨v3, fun z1 => ⟨v3, fun z2 => L45 1 (fun _ => ⟨z1, z2⟩) (fun w => absurd w (by decide)), fun z2 => L45 0 (fun w => absurd rfl w) (fun _ w => z2 w.2.1)⟩, fun z1 => L45 0 (fun w => absurd rfl w) (fun _ w => z1 w.1)⟩
