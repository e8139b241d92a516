section
variable {nt nf ns n1 n2 o pr1 pr2 ma mb : Nat} {F0 G0 : iv_F}
/-! what was printed -/
def prE (F : iv_F) (pr1 pr2 : Nat) : Prop := pr1 = pr2 ∧ ∀ k, k < 200 → k < pr1 → F 30 k = F 20 k
theorem w_28 (D : lD nt nf ns n1 n2 o pr1 pr2 ma mb F0 G0) {σ : pz_Sg} (hF : lF F0 σ.1) : pz_WP 28 (0, pz_en 2 [.ref 46], []) σ (pz_is (some (.int (pz_b (prE F0 pr1 pr2)))) σ) := by
  obtain ⟨-, -, -, -, -, -, -, ⟨e1, -, e2, -, ⟨h1, h2⟩, -, -⟩, -⟩ := id D
  have s26 : σ.1 26 1 = nI pr1 := by rw [hF 26 (by decide) (by decide)]; exact e1
  have s16 : σ.1 16 1 = nI pr2 := by rw [hF 16 (by decide) (by decide)]; exact e2
  have s30 : σ.1 30 = F0 30 := hF 30 (by decide) (by decide)
  have s20 : σ.1 20 = F0 20 := hF 20 (by decide) (by decide)
  have L : pr1 = pr2 → ∀ d k, k + d = 200 → (∀ j, j < k → j < pr1 → F0 30 j = F0 20 j) → pz_WP 28 (21, [some (.ref 46), some (.int (nI k))], []) σ (pz_is (some (.int (pz_b (prE F0 pr1 pr2)))) σ) := by
    intro he d
    induction d with
    | zero =>
      intro k hk hj
      have : k = 200 := by omega
      subst this
      exact pv_28_21 _ σ _ ⟨fun _ => pz_yes ⟨he, fun j h1 h2 => hj j h1 h2⟩, fun z => absurd (Int32.le_refl _) z⟩
    | succ d ih =>
      intro k hk hj
      refine pv_28_21 _ σ _ ⟨fun z => absurd z (nI_ge (by omega) (by decide)), fun _ => ?_⟩
      rw [s26, s30, s20, nI_clamp (show k < 2 ^ 31 by omega), nI_1]
      by_cases hp : k < pr1
      · have vk : vp_in (nI k) 200 := vp_in_nI (by omega) (by decide)
        refine ⟨fun z => absurd z (nI_ge hp (by omega)), fun _ => ⟨vk, vk, fun z => ih (k + 1) (by omega) (fun j h1 h2 => ?_), fun z => pz_no fun q => z (q.2 k (by omega) hp)⟩⟩
        by_cases e : j = k
        · rw [e]; exact z
        · exact hj j (by omega) h2
      · exact ⟨fun _ => pz_yes ⟨he, fun j h1 h2 => hj j (by omega) h2⟩, fun z => absurd (nI_le (by omega) (by omega)) z⟩
  refine pv_28 σ _ ?_
  rw [s26, s16]
  exact ⟨fun z => L ((nI_eq (by omega) (by omega)).mp z) 200 0 (by omega) (fun j hj => absurd hj (Nat.not_lt_zero _)), fun z => pz_no fun q => z (by rw [q.1])⟩
def fE (G : iv_F) : Prop := G 98 0 = G 98 2 ∧ G 98 1 = G 98 3
abbrev W175 (ma mb o : Nat) (t : pz_Sg) (P : pz_Ps) : Prop := pz_WP 175 (0, pz_en 7 [.ref 55, .int (nI ma), .int (nI mb), .int (nI o)], []) t P
def clG (G : iv_F) : iv_F := fu (fi (fi G 100 60 (fun _ => -1)) 101 60 (fun _ => 0)) 55 70 0
/-- likeEnds as far as the statics -/
theorem r_175 (D : lD nt nf ns n1 n2 o pr1 pr2 ma mb F0 G0) {T : pz_Sg} {P : pz_Ps} (h : W151 ma mb o (pz_b (fE G0 ∧ prE F0 pr1 pr2)) 0 (Ms T (clG G0)) P) : W175 ma mb o (Ms T G0) P := by
  obtain ⟨-, -, -, -, -, -, -, ⟨e1, e1', e2, e2', ⟨h1, h2⟩, k1, k2⟩, -⟩ := id D
  have L114 : ∀ v : Int32, v = pz_b (fE G0 ∧ prE F0 pr1 pr2) → ∀ d k, k + d = 60 → pz_WP 175 (114, [some (.ref 55), some (.int (nI ma)), some (.int (nI mb)), some (.int (nI o)), some (.int v), some (.int (nI k)), none], []) (Ms T (fi (fi G0 100 k (fun _ => -1)) 101 k (fun _ => 0))) P := by
    rintro v rfl d
    induction d with
    | zero =>
      intro k hk
      have : k = 60 := by omega
      subst this
      refine pv_175_114 _ _ _ _ _ _ _ ⟨fun _ => ?_, fun z => absurd (Int32.le_refl _) z⟩
      rintro σ1 rfl
      rw [Ms_u (by decide)]
      exact h
    | succ d ih =>
      intro k hk
      have vk : vp_in (nI k) 60 := vp_in_nI (by omega) (by decide)
      refine pv_175_114 _ _ _ _ _ _ _ ?_
      rw [nI_clamp (show k < 2 ^ 31 by omega), nI_1]
      refine ⟨fun z => absurd z (nI_ge (by omega) (by decide)), fun _ => ⟨vk, ?_⟩⟩
      rintro σ2 rfl
      refine ⟨vk, ?_⟩
      rintro σ3 rfl
      have := ih (k + 1) (by omega)
      rw [← fi_2 (a := 100) (b := 101) (k := k) (by decide)] at this
      rw [Ms_u (by decide), Ms_u (by decide)]
      exact this
  have L114' : ∀ v : Int32, v = pz_b (fE G0 ∧ prE F0 pr1 pr2) → pz_WP 175 (114, [some (.ref 55), some (.int (nI ma)), some (.int (nI mb)), some (.int (nI o)), some (.int v), some (.int 0), none], []) (Ms T G0) P := fun v hv => by
    have := L114 v hv 60 0 (by omega)
    rw [fi_0, fi_0] at this
    exact this
  have L0 : ¬ (fE G0 ∧ prE F0 pr1 pr2) → ∀ k : Int32, pz_WP 175 (55, [some (.ref 55), some (.int (nI ma)), some (.int (nI mb)), some (.int (nI o)), some (.int 0), some (.int k), none], []) (Ms T G0) P := fun hn k => by
    have := L114' 0 (pz_b_f hn).symm
    exact pv_175_55 _ _ _ _ _ _ _ ⟨fun _ => this, fun _ => ⟨fun _ => this, fun _ => ⟨fun _ => this, fun z => absurd rfl z⟩⟩⟩
  have L1 : fE G0 → pr1 = pr2 → ∀ d k, k + d = 200 → (∀ j, j < k → j < pr1 → F0 30 j = F0 20 j) → pz_WP 175 (55, [some (.ref 55), some (.int (nI ma)), some (.int (nI mb)), some (.int (nI o)), some (.int 1), some (.int (nI k)), none], []) (Ms T G0) P := by
    intro fe he d
    subst he
    induction d with
    | zero =>
      intro k hk hj
      have : k = 200 := by omega
      subst this
      exact pv_175_55 _ _ _ _ _ _ _ ⟨fun _ => L114' 1 (pz_b_t (p := fE G0 ∧ prE F0 pr1 pr1) ⟨fe, rfl, fun j h1 h2 => hj j h1 h2⟩).symm, fun z => absurd (Int32.le_refl _) z⟩
    | succ d ih =>
      intro k hk hj
      refine pv_175_55 _ _ _ _ _ _ _ ⟨fun z => absurd z (nI_ge (by omega) (by decide)), fun _ => ?_⟩
      rw [nI_add, nI_clamp (show 1088 + k < 2 ^ 31 by omega), nI_clamp (show k < 2 ^ 31 by omega), nI_1, Ms_r (a := 55) (by decide), Ms_r (a := 96) (by decide), Ms_r (a := 77) (by decide), e2']
      by_cases hp : k < pr1
      · rw [← k1 k (by omega) hp, ← k2 k (by omega) hp]
        refine ⟨fun z => absurd z (nI_ge hp (by omega)), fun _ => ⟨fun z => absurd z (by decide), fun _ => ⟨vp_in_nI (by omega) (by decide), vp_in_nI (by omega) (by decide), fun z => ih (k + 1) (by omega) (fun j h1 h2 => ?_), fun z => L0 (fun q => z (q.2.2 k (by omega) hp)) _⟩⟩⟩
        by_cases e : j = k
        · rw [e]; exact z
        · exact hj j (by omega) h2
      · exact ⟨fun _ => L114' 1 (pz_b_t (p := fE G0 ∧ prE F0 pr1 pr1) ⟨fe, rfl, fun j h1 h2 => hj j (by omega) h2⟩).symm, fun z => absurd (nI_le (by omega) (by omega)) z⟩
  refine pv_175 _ _ _ _ _ ?_
  rw [nI_clamp (show 2 < 2 ^ 31 by decide), nI_clamp (show 3 < 2 ^ 31 by decide), nI_clamp (show 1289 < 2 ^ 31 by decide), Ms_r (a := 98) (by decide), Ms_r (a := 96) (by decide), Ms_r (a := 55) (by decide), e1', e2']
  refine ⟨vp_in_nI (n := 0) (by decide) (by decide), vp_in_nI (by decide) (by decide), fun z1 => ⟨vp_in_nI (n := 1) (by decide) (by decide), vp_in_nI (by decide) (by decide), fun z2 => ⟨vp_in_nI (by decide) (by decide), fun z3 => L1 ⟨z1, z2⟩ ((nI_eq (by omega) (by omega)).mp z3) 200 0 (by omega) (fun j hj => absurd hj (Nat.not_lt_zero _)), fun z3 => L0 (fun q => z3 (by rw [q.2.1])) 0⟩, fun z2 => L0 (fun q => z2 q.1.2) 0⟩, fun z1 => L0 (fun q => z1 q.1.1) 0⟩
theorem lcn_0 {f : Nat → Int32} : ∀ n, (∀ x, x < n → f x = -1) → lcn f n = 0
  | 0, _ => rfl
  | n + 1, h => by
    unfold lcn
    rw [lcn_0 n (fun x hx => h x (by omega)), if_pos (h n (by omega))]
/-- areAlike beside likeEnds -/
theorem w_like {x2 : Nat → Nat → Int64} (D : lD nt nf ns n1 n2 o pr1 pr2 ma mb F0 G0) : pz_WP 27 (0, pz_en 5 [.ref 46, .int (nI ma), .int (nI mb), .int (nI o)], []) (F0, x2) (fun v σ' => ∃ r, v = some (.int r) ∧ (r = 0 ∨ r = 1) ∧ σ'.2 = x2 ∧ lF F0 σ'.1 ∧ ∃ G', lG G0 G' ∧ ∀ T P, P (some (.int r)) (Ms T G') → W175 ma mb o (Ms T G0) P) := by
  obtain ⟨b1, b2, b3, b4⟩ := D.1.2
  have lc : lG G0 (clG G0) := ⟨fun a h1 h2 => by unfold clG; rw [fu_o h1, fi_o (by omega), fi_o (by omega)], fun j hj => by unfold clG; rw [fu_j hj, fi_o (by decide), fi_o (by decide)]⟩
  have g100 : ∀ x, x < 60 → clG G0 100 x = -1 := fun x hx => by
    unfold clG
    rw [fu_o (by decide), fi_o (by decide), fi_i hx]
  have g101 : ∀ x, x < 60 → clG G0 101 x = 0 := fun x hx => by
    unfold clG
    rw [fu_o (by decide), fi_i hx]
  have Vc : gV n1 n2 0 (clG G0) := ⟨rfl, (lcn_0 60 g100).symm, fun x hx => Or.inl (g100 x hx), fun k hk => absurd hk (Nat.not_lt_zero _)⟩
  -- the class's rows are cleared
  have main : ∀ σ1 : pz_Sg, σ1.2 = x2 → Rl F0 n1 n2 o 0 σ1.1 (clG G0) → pz_WP 27 (13, [some (.ref 46), some (.int (nI ma)), some (.int (nI mb)), some (.int (nI o)), some (.int (nI 60))], []) σ1 (fun v σ' => ∃ r, v = some (.int r) ∧ (r = 0 ∨ r = 1) ∧ σ'.2 = x2 ∧ lF F0 σ'.1 ∧ ∃ G', lG G0 G' ∧ ∀ T P, P (some (.int r)) (Ms T G') → W175 ma mb o (Ms T G0) P) := by
    intro σ1 h2 R
    have hF := R.2.1
    refine pv_27_13 _ _ _ _ σ1 _ ⟨fun _ => pz_ki (w_28 D hF) ⟨fun z => ?_, fun z => ?_⟩, fun z => absurd (Int32.le_refl _) z⟩
    · refine ⟨0, rfl, Or.inl rfl, h2, hF, clG G0, lc, fun T P hP => r_175 D ?_⟩
      rw [pz_b_f fun q => pz_b_0.mp z q.2]
      exact z_151 hP
    · have pe : prE F0 pr1 pr2 := Classical.not_not.mp fun q => z (pz_b_0.mpr q)
      -- whatever is found not alike: both say so
      have fin0 : ∀ (t : pz_Sg), t.2 = x2 → lF F0 t.1 → (fE G0 → ∃ G', lG G0 G' ∧ ∀ T P, P (some (.int 0)) (Ms T G') → W175 ma mb o (Ms T G0) P) → ∃ r, (some (.int 0) : Option Value) = some (.int r) ∧ (r = 0 ∨ r = 1) ∧ t.2 = x2 ∧ lF F0 t.1 ∧ ∃ G', lG G0 G' ∧ ∀ T P, P (some (.int r)) (Ms T G') → W175 ma mb o (Ms T G0) P := fun t ht lt h => by
        refine ⟨0, rfl, Or.inl rfl, ht, lt, ?_⟩
        by_cases fe : fE G0
        · exact h fe
        · refine ⟨clG G0, lc, fun T P hP => r_175 D ?_⟩
          rw [pz_b_f fun q => fe q.1]
          exact z_151 hP
      have st : fE G0 → ∀ T P, W151 ma mb o 1 0 (Ms T (clG G0)) P → W175 ma mb o (Ms T G0) P := fun fe T P hP => r_175 D (by rw [pz_b_t ⟨fe, pe⟩]; exact hP)
      refine ⟨_, pv_29 σ1 _ (p_151 D ns 0 0 σ1 (clG G0) (by omega) R lc), ?_⟩
      rintro r t ⟨r', er, h01, q3, hO⟩
      cases er
      rcases hO with ⟨rfl, c1, G1, hW1, R1, M1, L1⟩ | ⟨rfl, lF1, rr, c1, G1, hW1, V1, M1, L1, hz⟩
      · refine ⟨fun z => absurd z (by decide), fun _ => ?_⟩
        refine p_238 D (x2 := x2) (W := fun T P => fE G0 → W175 ma mb o (Ms T G0) P) ?_ ?_ o 0 c1 t G1 (by omega) (q3.trans h2) R1 (lG_t lc L1) (fun T P hP fe => st fe T P (hW1 T P hP))
        · intro c2 σ2 G2 s2 R2 L2 hW2
          refine pv_27_61 _ _ _ _ σ2 _ ⟨fun _ => ⟨_, p_30 (w := 0) D (by decide) R2 L2, ?_⟩, fun z => absurd (Int32.le_refl _) z⟩
          rintro r t3 ⟨r', er, h01, s3, hO⟩
          cases er
          rcases hO with ⟨fa, ⟨rfl, c3, G3, hW3, R3, M3, L3⟩ | ⟨rfl, lF3, rr, c3, G3, hW3, V3, M3, L3, hz⟩⟩ | ⟨fa, rfl, lF3⟩
          · refine ⟨fun z => absurd z (by decide), fun _ => ⟨_, p_30 (w := 1) D (by decide) R3 (lG_t L2 L3), ?_⟩⟩
            rintro r t4 ⟨r', er, h01, s4, hO⟩
            cases er
            rcases hO with ⟨fb, ⟨rfl, c4, G4, hW4, R4, M4, L4⟩ | ⟨rfl, lF4, rr, c4, G4, hW4, V4, M4, L4, hz⟩⟩ | ⟨fb, rfl, lF4⟩
            · refine ⟨fun z => absurd z (by decide), fun _ => ⟨_, pv_31 t4 _ (p_31 D 60 0 c4 t4 G4 (by omega) R4 (lG_t (lG_t L2 L3) L4)), ?_⟩⟩
              rintro r t5 ⟨r', er, h01, s5, lF5, G5, L5, hW5⟩
              cases er
              have reach : ∀ T P, P (some (.int r)) (Ms T G5) → W175 ma mb o (Ms T G0) P := fun T P hP => hW2 T P (hW3 T P (hW4 T P (pv_175_269 _ _ _ _ _ _ _ ⟨fun _ => hW5 T P hP, fun z => absurd (Int32.le_refl _) z⟩))) ⟨fa, fb⟩
              rcases h01 with rfl | rfl
              · exact ⟨fun _ => ⟨0, rfl, Or.inl rfl, s5.trans (s4.trans (s3.trans s2)), lF5, G5, lG_t (lG_t (lG_t L2 L3) L4) L5, reach⟩, fun z => absurd rfl z⟩
              · exact ⟨fun z => absurd z (by decide), fun _ => ⟨1, rfl, Or.inr rfl, s5.trans (s4.trans (s3.trans s2)), lF5, G5, lG_t (lG_t (lG_t L2 L3) L4) L5, reach⟩⟩
            · refine ⟨fun _ => fin0 t4 (s4.trans (s3.trans s2)) lF4 (fun fe => ?_), fun z => absurd rfl z⟩
              obtain ⟨G', L', hW'⟩ := y_269 D fe 0 2 c4 G4 rr (by omega) V4 (lG_t (lG_t L2 L3) L4) (hz.imp id (fun ⟨h1, h⟩ => ⟨h1, dm_j (Nat.zero_le _) h⟩))
              exact ⟨G', lG_t (lG_t (lG_t L2 L3) L4) L', fun T P hP => hW2 T P (hW3 T P (hW4 T P (hW' T P hP))) fe⟩
            · exact ⟨fun _ => fin0 t4 (s4.trans (s3.trans s2)) lF4 (fun fe => absurd fe.2 fb), fun z => absurd rfl z⟩
          · refine ⟨fun _ => fin0 t3 (s3.trans s2) lF3 (fun fe => ?_), fun z => absurd rfl z⟩
            obtain ⟨G', L', hW'⟩ := y_269 D fe 1 1 c3 G3 rr (by omega) V3 (lG_t L2 L3) (hz.imp id (fun ⟨h1, h⟩ => ⟨h1, dm_j (Nat.zero_le _) h⟩))
            exact ⟨G', lG_t (lG_t L2 L3) L', fun T P hP => hW2 T P (hW3 T P (hW' T P hP)) fe⟩
          · exact ⟨fun _ => fin0 t3 (s3.trans s2) lF3 (fun fe => absurd fe.1 fa), fun z => absurd rfl z⟩
        · intro σ2 rr c2 G2 s2 lF2 V2 L2 hW2 hz
          refine fin0 σ2 s2 lF2 (fun fe => ?_)
          obtain ⟨G', L', hW'⟩ := y_269 D fe 2 0 c2 G2 rr (by omega) V2 L2 hz
          exact ⟨G', lG_t L2 L', fun T P hP => hW2 T P (hW' T P hP) fe⟩
      · refine ⟨fun _ => fin0 t (q3.trans h2) lF1 (fun fe => ?_), fun z => absurd rfl z⟩
        obtain ⟨G', L', hW'⟩ := y_238 D fe V1 (lG_t lc L1) (hz.imp id (fun ⟨h1, h⟩ => ⟨h1, dm_j (Nat.zero_le _) h⟩))
        exact ⟨G', lG_t (lG_t lc L1) L', fun T P hP => st fe T P (hW1 T P (hW' T P hP))⟩
  have loop : ∀ d k, k + d = 60 → pz_WP 27 (13, [some (.ref 46), some (.int (nI ma)), some (.int (nI mb)), some (.int (nI o)), some (.int (nI k))], []) (fi (fi (fu (fu F0 46 9 (nI o)) 46 8 0) 49 k (fun _ => -1)) 50 k (fun _ => -1), x2) (fun v σ' => ∃ r, v = some (.int r) ∧ (r = 0 ∨ r = 1) ∧ σ'.2 = x2 ∧ lF F0 σ'.1 ∧ ∃ G', lG G0 G' ∧ ∀ T P, P (some (.int r)) (Ms T G') → W175 ma mb o (Ms T G0) P) := by
    intro d
    induction d with
    | zero =>
      intro k hk
      have : k = 60 := by omega
      subst this
      refine main _ rfl ⟨Vc, fun a h1 h2 => ?_, ⟨rfl, rfl⟩, fun x hx => ?_, fun y hy => ?_, fun k hk => absurd hk (Nat.not_lt_zero _), fun k x y hk => absurd hk (Nat.not_lt_zero _)⟩
      · show fi (fi (fu (fu F0 46 9 (nI o)) 46 8 0) 49 60 (fun _ => -1)) 50 60 (fun _ => -1) a = F0 a
        rw [fi_o (by omega), fi_o (by omega), fu_o h1, fu_o h1]
      · show fi (fi (fu (fu F0 46 9 (nI o)) 46 8 0) 49 60 (fun _ => -1)) 50 60 (fun _ => -1) 49 x = _
        rw [g100 x hx, fi_o (by decide), fi_i hx]
      · show fi (fi (fu (fu F0 46 9 (nI o)) 46 8 0) 49 60 (fun _ => -1)) 50 60 (fun _ => -1) 50 y = -1 ↔ _
        rw [g101 y hy, fi_i hy]
        exact ⟨fun _ => rfl, fun _ => rfl⟩
    | succ d ih =>
      intro k hk
      have vk : vp_in (nI k) 60 := vp_in_nI (by omega) (by decide)
      refine pv_27_13 _ _ _ _ _ _ ?_
      rw [nI_clamp (show k < 2 ^ 31 by omega), nI_1]
      refine ⟨fun z => absurd z (nI_ge (by omega) (by decide)), fun _ => ⟨vk, ?_⟩⟩
      rintro σ3 rfl
      refine ⟨vk, ?_⟩
      rintro σ4 rfl
      have := ih (k + 1) (by omega)
      rw [← fi_2 (a := 49) (b := 50) (k := k) (by decide)] at this
      exact this
  refine pv_27 _ _ _ _ _ ?_
  rintro σ1 rfl σ2 rfl
  have := loop 60 0 (by omega)
  rw [fi_0, fi_0] at this
  exact this
end
