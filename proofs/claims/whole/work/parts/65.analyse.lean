/-! ===== analyse ===== -/
theorem fk_c {F F' : iv_F} (h14 : F' 14 = F 14) (h69 : F' 69 = F 69) (h70 : F' 70 = F 70) (h71 : F' 71 = F 71) (h72 : F' 72 = F 72) : fk F' = fk F := by
  have his : ∀ m l f k, fk_is F' m l f k = fk_is F m l f k := fun m l f k => by
    unfold fk_is
    rw [h69, h70, h71]
  have go : ∀ m l f d k, fk_go F' m l f d k = fk_go F m l f d k := by
    intro m l f d
    induction d with
    | zero => intro k; rfl
    | succ d ih =>
      intro k
      by_cases h : fk_is F m l f k
      · have h' : fk_is F' m l f k := by rw [his]; exact h
        rw [show fk_go F' m l f (d + 1) k = (F' 72 (4 * m + k)).toNatClampNeg + 1 from if_pos h', show fk_go F m l f (d + 1) k = (F 72 (4 * m + k)).toNatClampNeg + 1 from if_pos h, h72]
      · have h' : ¬ fk_is F' m l f k := by rw [his]; exact h
        rw [show fk_go F' m l f (d + 1) k = fk_go F' m l f d (k + 1) from if_neg h', show fk_go F m l f (d + 1) k = fk_go F m l f d (k + 1) from if_neg h, ih]
  funext m l f
  unfold fk
  rw [h14, go]
theorem fCl_c {F F' : iv_F} (h : ∀ a, iv_pgN a = true → F' a = F a) : fCl F' = fCl F := by
  have h7 := h 7 rfl
  have h8 := h 8 rfl
  have h9 := h 9 rfl
  have hk := fk_c (h 14 rfl) (h 69 rfl) (h 70 rfl) (h 71 rfl) (h 72 rfl)
  have hCm : fCm F' = fCm F := by
    funext X m l st
    unfold fCm
    rw [h9, h8]
  have hTh : fTh F' = fTh F := by
    funext X m l f
    unfold fTh
    rw [hk, hCm]
  have hS : fS F' = fS F := by
    funext X b c st
    unfold fS
    rw [h7]
  have hPa : fPa F' = fPa F := by
    funext X m l h k p it tk a
    unfold fPa
    rw [hTh, hCm]
  have hCa : fCa F' = fCa F := by
    funext X m l b c
    unfold fCa
    rw [hTh, hCm, hS, h7, h8]
  have hRo : fRo F' = fRo F := by
    funext X m l a b c o
    unfold fRo
    rw [hTh, hCm, hPa, hCa, h8]
  have hB : fB F' = fB F := by
    funext m
    unfold fB
    rw [h7]
  funext nm X
  unfold fCl fRu
  rw [hCm, hRo, hB, h9, h 10 rfl, h 11 rfl, h 12 rfl, h 13 rfl]
noncomputable def fct (P : Nat → Prop) : Nat → Nat
  | 0 => 0
  | n + 1 => fct P n + @ite _ (P n) (Classical.propDecidable _) 1 0
theorem fct_t {P : Nat → Prop} {n : Nat} (h : P n) : fct P (n + 1) = fct P n + 1 := congrArg (fct P n + ·) (if_pos h)
theorem fct_f {P : Nat → Prop} {n : Nat} (h : ¬ P n) : fct P (n + 1) = fct P n := congrArg (fct P n + ·) (if_neg h)
theorem fct_c {P Q : Nat → Prop} : ∀ n, (∀ m, m < n → (P m ↔ Q m)) → fct P n = fct Q n
  | 0, _ => rfl
  | n + 1, h => by
    have ih := fct_c n (fun m hm => h m (by omega))
    by_cases z : P n
    · rw [fct_t z, fct_t ((h n (by omega)).mp z), ih]
    · rw [fct_f z, fct_f (fun y => z ((h n (by omega)).mpr y)), ih]
theorem w_cntC {s : pz_Sg} {nm : Nat} (bm : nm ≤ 10) (h : s.1 1 3 = nI nm) : ∀ d k, k + d = nm → pz_WP 96 (16, [some (.ref 0), some (.int (nI (fct (fun m => qz_o4 s.1 34 m = 0 ∧ s.1 37 m = 0) k))), some (.int (nI k))], []) s (pz_is (some (.int (nI (fct (fun m => qz_o4 s.1 34 m = 0 ∧ s.1 37 m = 0) nm)))) s) := by
  intro d
  induction d with
  | zero =>
    intro k hk
    have hk : k = nm := by omega
    subst hk
    refine pv_96_16 _ _ s _ ?_
    rw [h]
    exact ⟨fun _ => ⟨rfl, rfl⟩, fun z => absurd (Int32.le_refl _) z⟩
  | succ d ih =>
    intro k hk
    have nx := ih (k + 1) (by omega)
    refine pv_96_16 _ _ s _ ?_
    rw [h]
    refine ⟨fun z => absurd z (nI_ge (by omega) (by omega)), fun _ => pz_ki (w_pure (by omega)) ⟨fun z => ?_, fun z => ?_⟩⟩
    · rw [fct_f (pz_b_0.mp z)] at nx
      rw [nI_1]
      exact nx
    · rw [fct_t (Classical.not_not.mp fun q => z (pz_b_0.mpr q))] at nx
      rw [nI_1, nI_1]
      exact nx
theorem w_cntM {s : pz_Sg} {nm : Nat} (bm : nm ≤ 10) (h : s.1 55 7 = nI nm) : ∀ d k, k + d = nm → pz_WP 142 (283, [some (.ref 55), some (.int (nI (fct (fun m => qz_o4 s.1 87 m = 0 ∧ s.1 83 m = 0) k))), some (.int (nI k))], []) s (pz_is (some (.int (nI (fct (fun m => qz_o4 s.1 87 m = 0 ∧ s.1 83 m = 0) nm)))) s) := by
  intro d
  induction d with
  | zero =>
    intro k hk
    have hk : k = nm := by omega
    subst hk
    refine pv_142_283 _ _ s _ ?_
    rw [h]
    exact ⟨fun _ => ⟨rfl, rfl⟩, fun z => absurd (Int32.le_refl _) z⟩
  | succ d ih =>
    intro k hk
    have nx := ih (k + 1) (by omega)
    refine pv_142_283 _ _ s _ ?_
    rw [h]
    refine ⟨fun z => absurd z (nI_ge (by omega) (by omega)), fun _ => pz_ki (w_pureM (by omega)) ⟨fun z => ?_, fun z => ?_⟩⟩
    · rw [fct_f (pz_b_0.mp z)] at nx
      rw [show nI (fct (fun m => qz_o4 s.1 87 m = 0 ∧ s.1 83 m = 0) k) + 0 = nI (fct (fun m => qz_o4 s.1 87 m = 0 ∧ s.1 83 m = 0) k) from Int32.add_zero _, nI_1]
      exact nx
    · rw [fct_t (Classical.not_not.mp fun q => z (pz_b_0.mpr q))] at nx
      rw [nI_1, nI_1]
      exact nx
/-- all words cleared -/
theorem w_zeroM {F : iv_F} {X : fX} {σ : pz_Sg} (hF : σ.1 = F) (hf : σ.1 55 39 = 0) {P : pz_Ps} (hk0 : ∀ s, gJ F X σ.2 0 s → pz_WP 142 (74, [some (.ref 55), some (.int (nI 0)), none], []) s P) : pz_WP 142 (0, pz_en 3 [.ref 55], []) σ P := by
  subst hF
  have fr0 : ∀ {s : pz_Sg} {a j : Nat} {v : Int32}, gN a = true → a ≠ 55 → (∀ b, gN b = false ∨ b = 55 → s.1 b = σ.1 b) → ∀ b, gN b = false ∨ b = 55 → (pz_up s a j v).1 b = σ.1 b := fun {s a j v} ha h5 h b hb => by
    rw [qz_rn _ _ _ _ (fun e => by
      rcases hb with hb | hb
      · rw [e, ha] at hb; cases hb
      · exact h5 (e.symm.trans hb))]
    exact h b hb
  have l46 : ∀ d k (s : pz_Sg), k + d = 40 → (∀ b, gN b = false ∨ b = 55 → s.1 b = σ.1 b) → s.2 = σ.2 → (∀ j, j < 250 → s.1 81 j = 0) → (∀ j, j < 2000 → s.1 80 j = 0) → (∀ j, j < k → s.1 86 j = 0 ∧ s.1 87 j = 0) → pz_WP 142 (46, [some (.ref 55), some (.int (nI k)), none], []) s P := by
    intro d
    induction d with
    | zero =>
      intro k s hk h0 hq h1 h2 h3
      have hk' : k = 40 := by omega
      subst hk'
      refine pv_142_46 _ s _ ⟨fun _ => hk0 s ⟨⟨⟨fun a ha => h0 a (Or.inl ha), fun j _ => by rw [h0 55 (Or.inr rfl)]⟩, fun m hm => absurd hm (Nat.not_lt_zero _), fun m hm => absurd hm (Nat.not_lt_zero _), fun j hj => Or.inl (h1 j hj), fun m hm => absurd hm (Nat.not_lt_zero _), Or.inl (by rw [h0 55 (Or.inr rfl)]; exact hf)⟩, fun j _ hj => h1 j hj, fun j _ hj => h2 j hj, h3, fun m hm => absurd hm (Nat.not_lt_zero _), hq⟩, fun z => absurd (by decide) z⟩
    | succ d ih =>
      intro k s hk h0 hq h1 h2 h3
      have vk : vp_in (nI k) 40 := vp_in_nI (by omega) (by decide)
      refine pv_142_46 _ s _ ⟨fun z => absurd z (nI_ge (by omega) (by decide)), fun _ => ⟨vk, ?_⟩⟩
      rw [nI_clamp (by omega), nI_1]
      rintro σ1 rfl
      refine ⟨vk, ?_⟩
      rintro σ2 rfl
      refine ih (k + 1) _ (by omega) (fr0 rfl (by decide) (fr0 rfl (by decide) h0)) hq h1 h2 (fun j hj => ?_)
      by_cases e : j = k
      · subst e
        simp [qz_rd]
      · have := h3 j (by omega)
        simpa [qz_rd, e] using this
  have l24 : ∀ d k (s : pz_Sg), k + d = 2000 → (∀ b, gN b = false ∨ b = 55 → s.1 b = σ.1 b) → s.2 = σ.2 → (∀ j, j < 250 → s.1 81 j = 0) → (∀ j, j < k → s.1 80 j = 0) → pz_WP 142 (24, [some (.ref 55), some (.int (nI k)), none], []) s P := by
    intro d
    induction d with
    | zero =>
      intro k s hk h0 hq h1 h2
      have hk' : k = 2000 := by omega
      subst hk'
      exact pv_142_24 _ s _ ⟨fun _ => l46 40 0 s (by decide) h0 hq h1 h2 (fun j hj => absurd hj (Nat.not_lt_zero _)), fun z => absurd (by decide) z⟩
    | succ d ih =>
      intro k s hk h0 hq h1 h2
      refine pv_142_24 _ s _ ⟨fun z => absurd z (nI_ge (by omega) (by decide)), fun _ => ⟨vp_in_nI (by omega) (by decide), ?_⟩⟩
      rw [nI_clamp (by omega), nI_1]
      rintro σ1 rfl
      refine ih (k + 1) _ (by omega) (fr0 rfl (by decide) h0) hq h1 (fun j hj => ?_)
      by_cases e : j = k
      · subst e
        simp [qz_rd]
      · have := h2 j (by omega)
        simpa [qz_rd, e] using this
  have l2 : ∀ d k (s : pz_Sg), k + d = 250 → (∀ b, gN b = false ∨ b = 55 → s.1 b = σ.1 b) → s.2 = σ.2 → (∀ j, j < k → s.1 81 j = 0) → pz_WP 142 (2, [some (.ref 55), some (.int (nI k)), none], []) s P := by
    intro d
    induction d with
    | zero =>
      intro k s hk h0 hq h1
      have hk' : k = 250 := by omega
      subst hk'
      exact pv_142_2 _ s _ ⟨fun _ => l24 2000 0 s (by decide) h0 hq h1 (fun j hj => absurd hj (Nat.not_lt_zero _)), fun z => absurd (by decide) z⟩
    | succ d ih =>
      intro k s hk h0 hq h1
      refine pv_142_2 _ s _ ⟨fun z => absurd z (nI_ge (by omega) (by decide)), fun _ => ⟨vp_in_nI (by omega) (by decide), ?_⟩⟩
      rw [nI_clamp (by omega), nI_1]
      rintro σ1 rfl
      refine ih (k + 1) _ (by omega) (fr0 rfl (by decide) h0) hq (fun j hj => ?_)
      by_cases e : j = k
      · subst e
        simp [qz_rd]
      · have := h1 j (by omega)
        simpa [qz_rd, e] using this
  exact pv_142 σ _ (l2 250 0 σ (by decide) (fun _ _ => rfl) rfl (fun j hj => absurd hj (Nat.not_lt_zero _)))
theorem b_same {x y : Int32} (h : ∀ i, bB x i ↔ bB y i) : x = y := b_ext fun i _ => by
  have := h i
  unfold bB at this
  cases hx : bt x i <;> cases hy : bt y i <;> simp [hx, hy] at this ⊢
theorem pz_01s {x y : Int32} (hx : x = 0 ∨ x = 1) (hy : y = 0 ∨ y = 1) (h : ¬ x = 0 ↔ ¬ y = 0) : x = y := by
  rcases hx with hx | hx <;> rcases hy with hy | hy
  · rw [hx, hy]
  · exact absurd hx (h.mpr (by rw [hy]; decide))
  · exact absurd hy (h.mp (by rw [hx]; decide))
  · rw [hx, hy]
theorem op_analyse (L : Nat) (ys : Nat → Int32) : pz_O14 (iv L ys) := by
  intro n hn σ H
  obtain ⟨h0, nt, nf, ns, nm, nx, h1, h2, h3, h4, h5, h6⟩ := H
  obtain ⟨⟨⟨c1, d1, b1⟩, ⟨c2, d2, b2⟩, ⟨c3, d3, b3⟩, ⟨c4, d4, b4⟩⟩, p2, p3, p4, p5, p6, p7⟩ := id h1
  have hP : fP σ.1 nt nf ns nm := ⟨⟨b1, b2, b3, b4⟩, p5, p6, p7⟩
  have ho : ∀ m, m < nm → ∀ l, l < (σ.1 9 m).toNatClampNeg → (σ.1 10 (24 * m + l)).toNatClampNeg < 32 := fun m hm l hl => by
    obtain ⟨o, ho, e, -⟩ := fOp p6 hm hl
    rw [e, nI_clamp (by omega)]
    exact ho
  have hX := fD_cl ho
  have hX0 : ∀ {k m x i}, fD σ.1 nm k m x i → f0 σ.1 k m x i := fun z => fD_0 b1 b2 b3 b4 p6 (fP_q' hP) z
  refine pv_96 σ _ ⟨_, w_foresee hP hX hX0 (fun _ _ => rfl) c4, ?_⟩
  rintro σ1 ⟨-, I1, C1⟩ s1 e1
  have fr1 : ∀ a, fcN a = false → a ≠ 0 → s1.1 a = σ.1 a := fun a ha h => by
    rw [e1, qz_rn _ _ _ _ h]
    exact I1.1 a ha
  have g1 : ∀ a, a ≠ 0 → s1.1 a = σ1.1 a := fun a h => by rw [e1, qz_rn _ _ _ _ h]
  have e32 : s1.2 32 = σ1.2 32 := by rw [e1]; rfl
  have z00 : ∀ j, j ≠ 10 → s1.1 0 j = σ.1 0 j := fun j hj => by
    rw [e1, qz_rd, if_neg (fun z => hj z.2)]
    exact congrFun (I1.1 0 rfl) j
  have t := w_cntC (s := s1) b4 (by rw [fr1 1 rfl (by decide)]; exact c4) nm 0 (by omega)
  refine pz_conseq t ?_
  rintro v σ' ⟨rfl, rfl⟩
  refine ⟨_, rfl, ⟨fr1 1000 rfl (by decide), fr1 1001 rfl (by decide)⟩, ?_⟩
  -- the program as the reference sees it
  have pg : ∀ a, iv_pgN a = true → σ'.1 a = σ.1 a := fun a ha => fr1 a (by
    unfold fcN
    unfold iv_pgN at ha
    simp at ha ⊢
    omega) (fun e => by rw [e] at ha; cases ha)
  have pgj : ∀ a, iv_pgN a = true → ∀ j, σ'.1 a j = σ.1 a j := fun a ha j => by rw [pg a ha]
  have hP' : fP σ'.1 nt nf ns nm := ⟨⟨b1, b2, b3, b4⟩, iv_mt_c pgj p5, iv_ln_c pgj p6, iv_ca_c pgj p7⟩
  have eCl := fCl_c pg
  have eD : fD σ'.1 nm = fD σ.1 nm := by
    unfold fD
    rw [eCl]
  have hX' : fCl σ'.1 nm (fD σ.1 nm) := by rw [eCl]; exact hX
  have e55 : σ'.1 55 = σ.1 55 := fr1 55 rfl (by decide)
  have d7 : σ'.1 55 7 = nI nm := by rw [e55]; exact d4
  have e9 : σ'.1 9 = σ.1 9 := pg 9 rfl
  have e8 : σ'.1 8 = σ.1 8 := pg 8 rfl
  refine w_zeroM (F := σ'.1) (X := fD σ.1 nm) rfl (by rw [e55]; exact h6.2.2) (fun s J => w_initM hP' hX' d7 (fun s H B hB => w_rounds hP' hX' d7 _ _ (Nat.lt_succ_self _) (gI_fl H (Or.inr rfl)) (fun m hm => B m hm) (fun z => absurd ((qz_rs _ _ _ _).symm.trans z) (by decide)) hB (fun s2 H2 f0 E2 C2 hB2 => ?_)) nm 0 s (by omega) J)
  have t2 := w_cntM (s := pz_up s2 55 21 1) b4 (by
    show s2.1 55 7 = nI nm
    rw [H2.1.2 7 (by decide)]
    exact d7) nm 0 (by omega)
  refine pz_conseq t2 ?_
  rintro v σ'' ⟨rfl, rfl⟩
  rw [eCl] at C2
  -- both are the least
  have cR : ∀ k m x i, fD σ.1 nm k m x i → fCs σ1 k m x i := fun k m x i z => z _ C1
  have mR : ∀ k m x i, fD σ.1 nm k m x i → gCs σ'.1 s2 k m x i := fun k m x i z => z _ C2
  have cm : ∀ a, gN a = false → s2.1 a = σ'.1 a := H2.1.1
  -- the cells, one by one
  have k33 : ∀ m, m < nm → ∀ w, w < 4 → σ'.1 33 (4 * m + w) = s2.1 86 (4 * m + w) := fun m hm w hw => by
    rw [g1 33 (by decide)]
    exact b_same fun p => ⟨fun z => (mR 6 m w p (((I1.2.2.1 m hm).2.2.2.2 w hw p).1 z)).2, fun z => (cR 6 m w p (((H2.2.2.1 m hm).2.2.2.2.2 w hw p).1 z)).2⟩
  have k34 : ∀ m, m < nm → ∀ w, w < 4 → σ'.1 34 (4 * m + w) = s2.1 87 (4 * m + w) := fun m hm w hw => by
    rw [g1 34 (by decide)]
    exact b_same fun p => ⟨fun z => (mR 7 m w p (((I1.2.2.1 m hm).2.2.2.2 w hw p).2 z)).2, fun z => (cR 7 m w p (((H2.2.2.1 m hm).2.2.2.2.2 w hw p).2 z)).2⟩
  have k35 : ∀ m, m < nm → σ'.1 35 m = s2.1 84 m := fun m hm => by
    rw [g1 35 (by decide)]
    exact b_same fun p => ⟨fun z => mR 4 m p 0 ((I1.2.2.1 m hm).2.2.1 p z), fun z => cR 4 m p 0 ((H2.2.2.1 m hm).2.2.2.1 p z)⟩
  have k36 : ∀ m, m < nm → σ'.1 36 m = s2.1 85 m := fun m hm => by
    rw [g1 36 (by decide)]
    exact b_same fun p => ⟨fun z => (E2 m hm).2 p (mR 5 m p 0 ((I1.2.2.1 m hm).2.2.2.1 p z)), fun z => cR 5 m p 0 ((H2.2.2.1 m hm).2.2.2.2.1 p z)⟩
  have k37 : ∀ m, m < nm → σ'.1 37 m = s2.1 83 m := fun m hm => by
    rw [g1 37 (by decide)]
    exact pz_01s (I1.2.2.2.2 m (by omega)).1 (H2.2.2.2.2.1 m hm).2 ⟨fun z => mR 3 m 0 0 ((I1.2.2.1 m hm).2.1 z), fun z => cR 3 m 0 0 ((H2.2.2.1 m hm).2.2.1 z)⟩
  have k38 : ∀ m, m < nm → σ'.1 38 m = s2.1 82 m := fun m hm => by
    rw [g1 38 (by decide)]
    exact pz_01s (I1.2.2.2.2 m (by omega)).2 (H2.2.2.2.2.1 m hm).1 ⟨fun z => (E2 m hm).1 (mR 2 m 0 0 ((I1.2.2.1 m hm).1 z)), fun z => cR 2 m 0 0 ((H2.2.2.1 m hm).2.1 z)⟩
  have k85 : ∀ m, m < nm → ¬ σ.1 8 m = nI 2 → s2.1 85 m = 0 := fun m hm z => bB_0.mpr fun b hb => z (hX0 ((H2.2.2.1 m hm).2.2.2.2.1 b hb)).1
  have k80 : ∀ m, m < nm → ∀ l, l < (σ.1 9 m).toNatClampNeg → ∀ r, r < 8 → iv_my (σ1.2 32 (24 * m + l)) r = s2.1 80 (8 * (25 * m + l) + r) := fun m hm l hl r hr => by
    refine b_same fun b => ?_
    rw [my_B hr]
    constructor
    · intro z
      have := (mR 1 m l (6 * r + b) ((I1.2.1 m hm l hl).1 _ z.2)).2
      rw [show (6 * r + b) / 6 = r by have := z.1; omega, show (6 * r + b) % 6 = b by have := z.1; omega] at this
      exact this
    · intro z
      obtain ⟨b6, y⟩ := (H2.2.1 m hm l (by rw [e9]; exact hl)).1 r hr b z
      exact ⟨b6, cR 1 m l _ y⟩
  refine ⟨?_, ?_⟩
  · congr 3
    refine fct_c nm fun m hm => ?_
    have q := qz_o4_c (F := (pz_up s2 55 21 1).1) (a := 34) (b := 87) (m := m) (fun w hw => by
      show s2.1 34 (4 * m + w) = s2.1 87 (4 * m + w)
      rw [cm 34 rfl]
      exact k34 m hm w hw)
    have q2 : qz_o4 σ'.1 34 m = qz_o4 (pz_up s2 55 21 1).1 34 m := by
      unfold qz_o4
      rw [show (pz_up s2 55 21 1).1 34 = s2.1 34 from rfl, cm 34 rfl]
    show (qz_o4 (pz_up s2 55 21 1).1 87 m = 0 ∧ s2.1 83 m = 0) ↔ (qz_o4 σ'.1 34 m = 0 ∧ σ'.1 37 m = 0)
    rw [q2, q, k37 m hm]
  · -- all else is as it was
    have all : ∀ a, fcN a = false → gN a = false → a ≠ 0 → (pz_up s2 55 21 1).1 a = σ.1 a := fun a h1 h2 h3 => by
      rw [qz_rn _ _ _ _ (fun e => by rw [e] at h2; cases h2), cm a h2, fr1 a h1 h3]
    have a55 : ∀ j, j ≠ 21 → j ≠ 39 → (pz_up s2 55 21 1).1 55 j = σ.1 55 j := fun j h1 h2 => by
      rw [qz_rd, if_neg (fun z => h1 z.2), H2.1.2 j h2, e55]
    refine ⟨⟨by rw [all 1001 rfl rfl (by decide)]; exact h0.1, fun j hj => by rw [all 1000 rfl rfl (by decide)]; exact h0.2 j hj⟩, nt, nf, ns, nm, nx, iv_pg_c (F := σ.1) (fun a ha j => by
      rw [all a (by unfold fcN; unfold iv_pgN at ha; simp at ha ⊢; omega) (by unfold gN; unfold iv_pgN at ha; simp at ha ⊢; omega) (fun e => by rw [e] at ha; cases ha)]) (fun j _ => by rw [all 1 rfl rfl (by decide)]) (a55 0 (by decide) (by decide)) (a55 2 (by decide) (by decide)) (a55 5 (by decide) (by decide)) (a55 7 (by decide) (by decide)) h1, iv_wd_c (F := σ.1) (fun a ha j => by
      rw [all a (by unfold fcN; unfold iv_wdN at ha; simp at ha ⊢; omega) (by unfold gN; unfold iv_wdN at ha; simp at ha ⊢; omega) (fun e => by rw [e] at ha; cases ha)]) (by rw [all 16 rfl rfl (by decide)]) (a55 22 (by decide) (by decide)) h2, iv_pr_c (F := σ.1) (Nat.le_succ n) (by rw [all 16 rfl rfl (by decide)]) (a55 27 (by decide) (by decide)) (fun k => by rw [all 20 rfl rfl (by decide)]) (fun k => by rw [all 77 rfl rfl (by decide)]) h3, iv_ar_c (F := σ.1) (fun j => by rw [all 53 rfl rfl (by decide)]) (fun j => by rw [all 54 rfl rfl (by decide)]) (fun j => by rw [all 78 rfl rfl (by decide)]) (fun j => by rw [all 79 rfl rfl (by decide)]) h4, ?_, iv_la_c (F := σ.1) (fun j => by rw [all 52 rfl rfl (by decide)]) (fun j => by rw [all 97 rfl rfl (by decide)]) (a55 62 (by decide) (by decide)) (a55 64 (by decide) (by decide)) h6 ?_⟩
    · have q0 : (pz_up s2 55 21 1).1 0 10 = 1 := by
        show s2.1 0 10 = 1
        rw [cm 0 rfl, e1, qz_rs]
      refine ⟨by rw [q0]; exact (qz_rs _ _ _ _).symm, Or.inr q0, fun _ m hm => ?_⟩
      have q8 : (pz_up s2 55 21 1).1 8 = σ.1 8 := all 8 rfl rfl (by decide)
      have q9 : (pz_up s2 55 21 1).1 9 = σ.1 9 := all 9 rfl rfl (by decide)
      have o : ∀ a, gN a = false → (pz_up s2 55 21 1).1 a = σ'.1 a := fun a ha => by
        rw [qz_rn _ _ _ _ (fun e => by rw [e] at ha; cases ha), cm a ha]
      rw [q8, q9, o 33 rfl, o 34 rfl, o 35 rfl, o 36 rfl, o 37 rfl, o 38 rfl]
      refine ⟨fun w hw => ⟨k33 m hm w hw, k34 m hm w hw⟩, k35 m hm, k36 m hm, k85 m hm, ⟨k37 m hm, ?_⟩, ⟨k38 m hm, ?_⟩, fun l hl r hr => ?_⟩
      · rw [g1 37 (by decide)]; exact (I1.2.2.2.2 m (by omega)).1
      · rw [g1 38 (by decide)]; exact (I1.2.2.2.2 m (by omega)).2
      · show iv_my (s2.2 32 (24 * m + l)) r = s2.1 80 (8 * (25 * m + l) + r)
        rw [hB2, e32]
        exact k80 m hm l hl r hr
    · show s2.1 55 39 = σ.1 55 39
      rw [f0]; exact h6.2.2.symm
