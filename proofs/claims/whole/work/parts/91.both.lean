section
variable {nt nf ns n1 n2 o pr1 pr2 ma mb : Nat} {F0 G0 : iv_F}
abbrev W151 (ma mb o : Nat) (v : Int32) (s : Nat) (t : pz_Sg) (P : pz_Ps) : Prop := pz_WP 175 (151, [some (.ref 55), some (.int (nI ma)), some (.int (nI mb)), some (.int (nI o)), some (.int v), some (.int (nI s)), none], []) t P
abbrev W238 (ma mb o : Nat) (v : Int32) (s : Nat) (t : pz_Sg) (P : pz_Ps) : Prop := pz_WP 175 (238, [some (.ref 55), some (.int (nI ma)), some (.int (nI mb)), some (.int (nI o)), some (.int v), some (.int (nI s)), none], []) t P
abbrev W269 (ma mb o : Nat) (v : Int32) (s : Nat) (t : pz_Sg) (P : pz_Ps) : Prop := pz_WP 175 (269, [some (.ref 55), some (.int (nI ma)), some (.int (nI mb)), some (.int (nI o)), some (.int v), some (.int (nI s)), none], []) t P
abbrev W390 (o : Nat) (v : Int32) (s : Nat) (t : pz_Sg) (P : pz_Ps) : Prop := pz_WP 175 (390, [some (.ref 55), none, none, some (.int (nI o)), some (.int v), some (.int (nI s)), none], []) t P
/-! once it is not alike, it ends -/
theorem z_390 {k : Nat} {s : pz_Sg} {P : pz_Ps} (h : P (some (.int 0)) s) : W390 o 0 k s P := pv_175_390 _ _ _ _ _ ⟨fun _ => ⟨Or.inl rfl, h⟩, fun _ => ⟨fun _ => ⟨Or.inl rfl, h⟩, fun z => absurd rfl z⟩⟩
theorem z_269 {w : Nat} {s : pz_Sg} {P : pz_Ps} (h : P (some (.int 0)) s) : W269 ma mb o 0 w s P := pv_175_269 _ _ _ _ _ _ _ ⟨fun _ => z_390 (k := 0) h, fun _ => ⟨fun _ => z_390 (k := 0) h, fun z => absurd rfl z⟩⟩
theorem z_238 {x : Nat} {s : pz_Sg} {P : pz_Ps} (h : P (some (.int 0)) s) : W238 ma mb o 0 x s P := pv_175_238 _ _ _ _ _ _ _ ⟨fun _ => z_269 (w := 0) h, fun _ => ⟨fun _ => z_269 (w := 0) h, fun z => absurd rfl z⟩⟩
theorem z_151 {x : Nat} {s : pz_Sg} {P : pz_Ps} (h : P (some (.int 0)) s) : W151 ma mb o 0 x s P := pv_175_151 _ _ _ _ _ _ _ ⟨fun _ => z_238 (x := 0) h, fun _ => ⟨fun _ => z_238 (x := 0) h, fun z => absurd rfl z⟩⟩
/-! statics -/
theorem t_151 (D : lD nt nf ns n1 n2 o pr1 pr2 ma mb F0 G0) {G : iv_F} (hG : lG G0 G) {s : Nat} (hs : s < ns) {T : pz_Sg} {P : pz_Ps} (hB : F0 5 s = 0 → W151 ma mb o (pz_b (F0 29 s = F0 19 s)) (s + 1) (Ms T G) P) (hC : ¬ F0 5 s = 0 → ∃ Q : pz_Ps, pz_WP 173 (0, pz_en 4 [.ref 55, .int (F0 29 s), .int (F0 19 s), .int (nI o)], []) (Ms T G) Q ∧ ∀ r t, Q (some (.int r)) t → W151 ma mb o r (s + 1) t P) : W151 ma mb o 1 s (Ms T G) P := by
  obtain ⟨⟨⟨bt, bf, bs⟩, -⟩, ⟨-, -, -, e5⟩, ⟨-, -, H4⟩, ⟨-, -, -, e59⟩, -, ⟨W1, W2⟩, -⟩ := id D
  have v1 : F0 29 s = G0 96 (1080 + s) := W1.2.2.2.1 s (by omega)
  have v2 : F0 19 s = G0 76 s := W2.2.2.2.1 s (by omega)
  have vs : vp_in (nI s) 8 := vp_in_nI (by omega) (by decide)
  refine pv_175_151 _ _ _ _ _ _ _ ?_
  rw [nI_add, nI_clamp (show 1080 + s < 2 ^ 31 by omega), nI_clamp (show s < 2 ^ 31 by omega), nI_1, Ms_r (a := 55) (by decide), Ms_r (a := 59) (by decide), Ms_r (a := 96) (by decide), Ms_r (a := 76) (by decide), hG.2 5 (by decide), hG.1 59 (by decide) (by decide), hG.1 96 (by decide) (by decide), hG.1 76 (by decide) (by decide), e5, e59, ← v1, ← v2, ← (H4.2.2 s (by omega)).1]
  refine ⟨fun z => absurd z (nI_ge hs (by omega)), fun _ => ⟨fun z => absurd z (by decide), fun _ => ⟨vs, fun z => ⟨vp_in_nI (by omega) (by decide), vs, fun w => ?_, fun w => ?_⟩, fun z => ⟨vp_in_nI (by omega) (by decide), vs, hC z⟩⟩⟩⟩
  · have := hB z
    rw [pz_b_t w] at this
    exact this
  · have := hB z
    rw [pz_b_f w] at this
    exact this
theorem e_151 (D : lD nt nf ns n1 n2 o pr1 pr2 ma mb F0 G0) {G : iv_F} (hG : lG G0 G) {T : pz_Sg} {P : pz_Ps} {v : Int32} (h : W238 ma mb o v 0 (Ms T G) P) : W151 ma mb o v ns (Ms T G) P := by
  refine pv_175_151 _ _ _ _ _ _ _ ⟨fun _ => h, fun z => absurd ?_ z⟩
  rw [Ms_r (by decide), hG.2 5 (by decide), D.2.1.2.2.2]
  exact Int32.le_refl _
theorem ld_st (D : lD nt nf ns n1 n2 o pr1 pr2 ma mb F0 G0) {s : Nat} (hs : s < ns) (h : ¬ F0 5 s = 0) : iv_rv n1 (F0 29 s) ∧ iv_rv n2 (F0 19 s) := by
  obtain ⟨⟨⟨bt, bf, bs⟩, -⟩, -, ⟨-, -, H4⟩, -, -, ⟨W1, W2⟩, -⟩ := D
  have e : F0 5 s = 1 := (H4.2.2 s (by omega)).2.resolve_left h
  exact ⟨W1.2.2.2.2.2 s hs e, W2.2.2.2.2.2 s hs e⟩
theorem s_151 (D : lD nt nf ns n1 n2 o pr1 pr2 ma mb F0 G0) : ∀ d s c (G : iv_F), s + d = ns → gV n1 n2 c G → lG G0 G → ∃ r c' G', (∀ T P, W238 ma mb o r 0 (Ms T G') P → W151 ma mb o 1 s (Ms T G) P) ∧ (r = 0 ∨ r = 1) ∧ gV n1 n2 c' G' ∧ gM c G c' G' ∧ lG G G' := by
  obtain ⟨b1, b2, b3, b4⟩ := D.1.2
  intro d
  induction d with
  | zero =>
    intro s c G hd V hG
    have : s = ns := by omega
    subst this
    exact ⟨1, c, G, fun T P hP => e_151 D hG hP, Or.inr rfl, V, gM_r, lG_r⟩
  | succ d ih =>
    intro s c G hd V hG
    have z : ∀ {c1 : Nat} {G1 : iv_F}, lG G0 G1 → ∀ T P, W238 ma mb o 0 0 (Ms T G1) P → W151 ma mb o 0 (s + 1) (Ms T G1) P := fun h1 T P hP => pv_175_151 _ _ _ _ _ _ _ ⟨fun _ => hP, fun _ => ⟨fun _ => hP, fun z => absurd rfl z⟩⟩
    by_cases h5 : F0 5 s = 0
    · by_cases he : F0 29 s = F0 19 s
      · obtain ⟨r2, c2, G2, hW2, h01, V2, M2, L2⟩ := ih (s + 1) c G (by omega) V hG
        exact ⟨r2, c2, G2, fun T P hP => t_151 D hG (by omega) (fun _ => by rw [pz_b_t he]; exact hW2 T P hP) (fun q => absurd h5 q), h01, V2, M2, L2⟩
      · exact ⟨0, c, G, fun T P hP => t_151 D hG (by omega) (fun _ => by rw [pz_b_f he]; exact z (c1 := c) hG T P hP) (fun q => absurd h5 q), Or.inl rfl, V, gM_r, lG_r⟩
    · obtain ⟨q1, q2⟩ := ld_st D (by omega) h5
      obtain ⟨r, c1, G1, hW, hr01, V1, M1, L1⟩ := s_lr (o := o) b1 b2 (by omega) q1 q2 V
      rcases hr01 with rfl | rfl
      · exact ⟨0, c1, G1, fun T P hP => t_151 D hG (by omega) (fun q => absurd q h5) (fun _ => pz_ki (hW T) (z (c1 := c) (lG_t hG L1) T P hP)), Or.inl rfl, V1, M1, L1⟩
      · obtain ⟨r2, c2, G2, hW2, h01, V2, M2, L2⟩ := ih (s + 1) c1 G1 (by omega) V1 (lG_t hG L1)
        exact ⟨r2, c2, G2, fun T P hP => t_151 D hG (by omega) (fun q => absurd q h5) (fun _ => pz_ki (hW T) (hW2 T P hP)), h01, V2, gM_t M1 M2, lG_t L1 L2⟩
/-- staticsAlike -/
theorem p_151 (D : lD nt nf ns n1 n2 o pr1 pr2 ma mb F0 G0) : ∀ d s c (σ : pz_Sg) (G : iv_F), s + d = ns → Rl F0 n1 n2 o c σ.1 G → lG G0 G → pz_WP 29 (2, [some (.ref 46), some (.int (nI s))], []) σ (fun v σ' => ∃ r, v = some (.int r) ∧ (r = 0 ∨ r = 1) ∧ σ'.2 = σ.2 ∧ lO F0 n1 n2 o c G r σ'.1 (fun rr G' => ∀ T P, W238 ma mb o rr 0 (Ms T G') P → W151 ma mb o 1 s (Ms T G) P)) := by
  obtain ⟨b1, b2, b3, b4⟩ := D.1.2
  obtain ⟨⟨⟨bt, bf, bs⟩, -⟩, ⟨-, e12, -, -⟩, -⟩ := id D
  intro d
  induction d with
  | zero =>
    intro s c σ G hd R hG
    have : s = ns := by omega
    subst this
    refine pv_29_2 _ σ _ ⟨fun _ => ⟨1, rfl, Or.inr rfl, rfl, Or.inl ⟨rfl, c, G, fun T P hP => e_151 D hG hP, R, gM_r, lG_r⟩⟩, fun z => absurd ?_ z⟩
    rw [R.2.1 1 (by decide) (by decide), e12]
    exact Int32.le_refl _
  | succ d ih =>
    intro s c σ G hd R hG
    have hF := R.2.1
    have hs : s < ns := by omega
    have next : ∀ c1 (σ1 : pz_Sg) (G1 : iv_F), σ1.2 = σ.2 → Rl F0 n1 n2 o c1 σ1.1 G1 → gM c G c1 G1 → lG G G1 → (∀ T P, W151 ma mb o 1 (s + 1) (Ms T G1) P → W151 ma mb o 1 s (Ms T G) P) → pz_WP 29 (2, [some (.ref 46), some (.int (nI (s + 1)))], []) σ1 (fun v σ' => ∃ r, v = some (.int r) ∧ (r = 0 ∨ r = 1) ∧ σ'.2 = σ.2 ∧ lO F0 n1 n2 o c G r σ'.1 (fun rr G' => ∀ T P, W238 ma mb o rr 0 (Ms T G') P → W151 ma mb o 1 s (Ms T G) P)) := fun c1 σ1 G1 h2 R1 M1 L1 hW => by
      refine pz_conseq (ih (s + 1) c1 σ1 G1 (by omega) R1 (lG_t hG L1)) ?_
      rintro v σ' ⟨r, rfl, h01, q2, hO⟩
      refine ⟨r, rfl, h01, q2.trans h2, ?_⟩
      rcases hO with ⟨rfl, c2, G2, hW2, R2, M2, L2⟩ | ⟨rfl, lF2, rr, c2, G2, hW2, V2, M2, L2, hz⟩
      · exact Or.inl ⟨rfl, c2, G2, fun T P hP => hW T P (hW2 T P hP), R2, gM_t M1 M2, lG_t L1 L2⟩
      · exact Or.inr ⟨rfl, lF2, rr, c2, G2, fun T P hP => hW T P (hW2 T P hP), V2, gM_t M1 M2, lG_t L1 L2, hz.imp id (fun ⟨h1, h⟩ => ⟨h1, dm_j M1.1 h⟩)⟩
    have vs : vp_in (nI s) 8 := vp_in_nI (by omega) (by decide)
    have z : ∀ {G1 : iv_F} T P, W238 ma mb o 0 0 (Ms T G1) P → W151 ma mb o 0 (s + 1) (Ms T G1) P := fun T P hP => pv_175_151 _ _ _ _ _ _ _ ⟨fun _ => hP, fun _ => ⟨fun _ => hP, fun z => absurd rfl z⟩⟩
    refine pv_29_2 _ σ _ ?_
    rw [hF 1 (by decide) (by decide), e12, nI_clamp (show s < 2 ^ 31 by omega), hF 5 (by decide) (by decide), hF 29 (by decide) (by decide), hF 19 (by decide) (by decide), nI_1]
    refine ⟨fun z => absurd z (nI_ge hs (by omega)), fun _ => ⟨vs, vs, vs, ?_⟩⟩
    by_cases h5 : F0 5 s = 0
    · rw [h5]
      refine pz_ki w_va0 ⟨fun q => ?_, fun q => ?_⟩
      · have he := pz_b_0.mp q
        exact ⟨0, rfl, Or.inl rfl, rfl, Or.inr ⟨rfl, hF, 0, c, G, fun T P hP => t_151 D hG hs (fun _ => by rw [pz_b_f he]; exact z T P hP) (fun q => absurd h5 q), R.1, gM_r, lG_r, Or.inl rfl⟩⟩
      · have he : F0 29 s = F0 19 s := Classical.not_not.mp fun w => q (pz_b_0.mpr w)
        exact next c σ G rfl R gM_r lG_r (fun T P hP => t_151 D hG hs (fun _ => by rw [pz_b_t he]; exact hP) (fun q => absurd h5 q))
    · obtain ⟨q1, q2⟩ := ld_st D hs h5
      refine ⟨_, p_lr b1 b2 (by omega) h5 q1 q2 R, ?_⟩
      rintro r t ⟨r', er, h01, q3, hO⟩
      cases er
      rcases hO with ⟨rfl, c1, G1, hW, R1, M1, L1⟩ | ⟨rfl, lF1, rr, c1, G1, hW, V1, M1, L1, hz⟩
      · exact ⟨fun z => absurd z (by decide), fun _ => next c1 t G1 q3 R1 M1 L1 (fun T P hP => t_151 D hG hs (fun q => absurd q h5) (fun _ => pz_ki (hW T) hP))⟩
      · refine ⟨fun _ => ⟨0, rfl, Or.inl rfl, q3, Or.inr ⟨rfl, lF1, ?_⟩⟩, fun z => absurd rfl z⟩
        rcases hz with rfl | ⟨rfl, hd1⟩
        · exact ⟨0, c1, G1, fun T P hP => t_151 D hG hs (fun q => absurd q h5) (fun _ => pz_ki (hW T) (z T P hP)), V1, M1, L1, Or.inl rfl⟩
        · obtain ⟨r2, c2, G2, hW2, h012, V2, M2, L2⟩ := s_151 D d (s + 1) c1 G1 (by omega) V1 (lG_t hG L1)
          exact ⟨r2, c2, G2, fun T P hP => t_151 D hG hs (fun q => absurd q h5) (fun _ => pz_ki (hW T) (hW2 T P hP)), V2, gM_t M1 M2, lG_t L1 L2, h012.imp id (fun e => ⟨e, dm_m b1 b2 M2 hd1⟩)⟩
/-! what was there before -/
theorem t_238 {G : iv_F} {x : Nat} (hx : x < o) (ho : o ≤ 60) {T : pz_Sg} {P : pz_Ps} (h : ∃ Q : pz_Ps, W174 o x x (Ms T G) Q ∧ ∀ r t, Q (some (.int r)) t → W238 ma mb o r (x + 1) t P) : W238 ma mb o 1 x (Ms T G) P := by
  refine pv_175_238 _ _ _ _ _ _ _ ?_
  rw [nI_1]
  exact ⟨fun z => absurd z (nI_ge hx (by omega)), fun _ => ⟨fun z => absurd z (by decide), fun _ => h⟩⟩
theorem s_238 (D : lD nt nf ns n1 n2 o pr1 pr2 ma mb F0 G0) : ∀ d x c (G : iv_F), x + d = o → gV n1 n2 c G → lG G0 G → ∃ r c' G', (∀ T P, W269 ma mb o r 0 (Ms T G') P → W238 ma mb o 1 x (Ms T G) P) ∧ (r = 0 ∨ r = 1) ∧ gV n1 n2 c' G' ∧ gM c G c' G' ∧ lG G G' := by
  obtain ⟨b1, b2, b3, b4⟩ := D.1.2
  intro d
  induction d with
  | zero =>
    intro x c G hd V hG
    have : x = o := by omega
    subst this
    exact ⟨1, c, G, fun T P hP => pv_175_238 _ _ _ _ _ _ _ ⟨fun _ => hP, fun z => absurd (Int32.le_refl _) z⟩, Or.inr rfl, V, gM_r, lG_r⟩
  | succ d ih =>
    intro x c G hd V hG
    obtain ⟨r, c1, G1, hW, h01, -, V1, M1, L1⟩ := s_174 (x := x) (y := x) D (by omega) (by omega) V hG
    rcases h01 with rfl | rfl
    · exact ⟨0, c1, G1, fun T P hP => t_238 (by omega) (by omega) ⟨_, hW T (pz_is (some (.int 0)) (Ms T G1)) ⟨rfl, rfl⟩, fun r t ⟨er, et⟩ => by cases er; subst et; exact pv_175_238 _ _ _ _ _ _ _ ⟨fun _ => hP, fun _ => ⟨fun _ => hP, fun z => absurd rfl z⟩⟩⟩, Or.inl rfl, V1, M1, L1⟩
    · obtain ⟨r2, c2, G2, hW2, h01, V2, M2, L2⟩ := ih (x + 1) c1 G1 (by omega) V1 (lG_t hG L1)
      exact ⟨r2, c2, G2, fun T P hP => t_238 (by omega) (by omega) ⟨_, hW T (pz_is (some (.int 1)) (Ms T G1)) ⟨rfl, rfl⟩, fun r t ⟨er, et⟩ => by cases er; subst et; exact hW2 T P hP⟩, h01, V2, gM_t M1 M2, lG_t L1 L2⟩
/-- areAlike's loop over what was there before -/
theorem p_238 (D : lD nt nf ns n1 n2 o pr1 pr2 ma mb F0 G0) {x2 : Nat → Nat → Int64} {Post : pz_Ps} {W : pz_Sg → pz_Ps → Prop}
    (hOn : ∀ c (σ1 : pz_Sg) (G1 : iv_F), σ1.2 = x2 → Rl F0 n1 n2 o c σ1.1 G1 → lG G0 G1 → (∀ T P, W269 ma mb o 1 0 (Ms T G1) P → W T P) → pz_WP 27 (61, [some (.ref 46), some (.int (nI ma)), some (.int (nI mb)), some (.int (nI o)), some (.int (nI o))], []) σ1 Post)
    (hNo : ∀ (σ1 : pz_Sg) rr c (G1 : iv_F), σ1.2 = x2 → lF F0 σ1.1 → gV n1 n2 c G1 → lG G0 G1 → (∀ T P, W269 ma mb o rr 0 (Ms T G1) P → W T P) → (rr = 0 ∨ (rr = 1 ∧ dm F0 n1 n2 c G1 0)) → Post (some (.int 0)) σ1) :
    ∀ d x c (σ : pz_Sg) (G : iv_F), x + d = o → σ.2 = x2 → Rl F0 n1 n2 o c σ.1 G → lG G0 G → (∀ T P, W238 ma mb o 1 x (Ms T G) P → W T P) → pz_WP 27 (61, [some (.ref 46), some (.int (nI ma)), some (.int (nI mb)), some (.int (nI o)), some (.int (nI x))], []) σ Post := by
  obtain ⟨b1, b2, b3, b4⟩ := D.1.2
  intro d
  induction d with
  | zero =>
    intro x c σ G hd h2 R hG hW
    have : x = o := by omega
    subst this
    exact hOn c σ G h2 R hG (fun T P hP => hW T P (pv_175_238 _ _ _ _ _ _ _ ⟨fun _ => hP, fun z => absurd (Int32.le_refl _) z⟩))
  | succ d ih =>
    intro x c σ G hd h2 R hG hW
    refine pv_27_61 _ _ _ _ σ _ ⟨fun z => absurd z (nI_ge (by omega) (by omega)), fun _ => ⟨_, p_174 (x := x) (y := x) D (by omega) (by omega) (D.2.2.2.2.2.2.1 x (by omega)) R hG, ?_⟩⟩
    rintro r t ⟨r', er, h01, q3, hO⟩
    cases er
    rw [nI_1]
    rcases hO with ⟨rfl, c1, G1, hW1, R1, M1, L1⟩ | ⟨rfl, lF1, rr, c1, G1, hW1, V1, M1, L1, hz⟩
    · exact ⟨fun z => absurd z (by decide), fun _ => ih (x + 1) c1 t G1 (by omega) (q3.trans h2) R1 (lG_t hG L1) (fun T P hP => hW T P (t_238 (by omega) (by omega) ⟨_, hW1 T (pz_is (some (.int 1)) (Ms T G1)) ⟨rfl, rfl⟩, fun r t ⟨er, et⟩ => by cases er; subst et; exact hP⟩))⟩
    · refine ⟨fun _ => ?_, fun z => absurd rfl z⟩
      rcases hz with rfl | ⟨rfl, hd1⟩
      · exact hNo t 0 c1 G1 (q3.trans h2) lF1 V1 (lG_t hG L1) (fun T P hP => hW T P (t_238 (by omega) (by omega) ⟨_, hW1 T (pz_is (some (.int 0)) (Ms T G1)) ⟨rfl, rfl⟩, fun r t ⟨er, et⟩ => by cases er; subst et; exact pv_175_238 _ _ _ _ _ _ _ ⟨fun _ => hP, fun _ => ⟨fun _ => hP, fun z => absurd rfl z⟩⟩⟩)) (Or.inl rfl)
      · obtain ⟨r2, c2, G2, hW2, h012, V2, M2, L2⟩ := s_238 D d (x + 1) c1 G1 (by omega) V1 (lG_t hG L1)
        exact hNo t r2 c2 G2 (q3.trans h2) lF1 V2 (lG_t (lG_t hG L1) L2) (fun T P hP => hW T P (t_238 (by omega) (by omega) ⟨_, hW1 T (pz_is (some (.int 1)) (Ms T G1)) ⟨rfl, rfl⟩, fun r t ⟨er, et⟩ => by cases er; subst et; exact hW2 T P hP⟩)) (h012.imp id (fun e => ⟨e, dm_j (Nat.zero_le _) (dm_m b1 b2 M2 hd1)⟩))
end
