section
variable {nt nf ns n1 n2 o pr1 pr2 ma mb : Nat} {F0 G0 : iv_F}
theorem ld_pf {c : Nat} {k : Int32} (H3 : iv_fl F0 nt nf) (hc : c < 16) (P : -(nI 10) < k ∧ qz_hs F0 nt nf k c) : ∃ t, t < nt ∧ k = nI t ∧ iv_bt (F0 3 t) c := by
  rcases P.2 with ⟨n, hn, ek, -⟩ | ⟨t, ht, ek, h1, h2⟩
  · exact absurd (by rw [← ek]; exact P.1) (qz_k10 n (by omega)).2.2.2
  · exact ⟨t, ht, ek, (H3.2 t ht c hc).mpr ⟨h1, h2⟩⟩
theorem ld_k1 (D : lD nt nf ns n1 n2 o pr1 pr2 ma mb F0 G0) {x : Nat} (hx : x < n1) : qz_kd nt (F0 27 x) (G0 96 (2 * x)) (G0 96 (2 * x + 1)) := D.2.2.2.2.2.1.1.2.1 x hx
theorem ld_k2 (D : lD nt nf ns n1 n2 o pr1 pr2 ma mb F0 G0) {y : Nat} (hy : y < n2) : qz_kd nt (F0 17 y) (G0 73 y) (G0 74 y) := D.2.2.2.2.2.1.2.2.1 y hy
theorem kd_eq {c k i c' k' i' : Int32} (bt : nt ≤ 8) (h : qz_kd nt c k i) (h' : qz_kd nt c' k' i') : (k = k' ∧ i = i') ↔ c = c' := by
  rcases h with ⟨t, ht, rfl, rfl, rfl⟩ | ⟨n, hn, rfl, rfl, rfl⟩ <;> rcases h' with ⟨t', ht', rfl, rfl, rfl⟩ | ⟨n', hn', rfl, rfl, rfl⟩
  · exact ⟨fun z => z.1, fun z => ⟨z, rfl⟩⟩
  · exact ⟨fun z => absurd z.1 (nI_ne1 (by omega)), fun z => absurd (by rw [z]; exact (qz_k10 n' (by omega)).2.1) (nI_pos (n := t) (by omega))⟩
  · exact ⟨fun z => absurd z.1.symm (nI_ne1 (by omega)), fun z => absurd (by rw [← z]; exact (qz_k10 n (by omega)).2.1) (nI_pos (n := t') (by omega))⟩
  · refine ⟨fun z => by rw [z.2], fun z => ⟨rfl, ?_⟩⟩
    rw [← (qz_k10 n (by omega)).2.2.1, z, (qz_k10 n' (by omega)).2.2.1]
/-- a reference of each of two that are alike -/
theorem ld_ref (D : lD nt nf ns n1 n2 o pr1 pr2 ma mb F0 G0) {x y k : Nat} (hx : x < n1) (hy : y < n2) (hk : F0 27 x = F0 17 y) (k16 : k < 16) (hs : qz_hs F0 nt nf (F0 17 y) k) (hp : -(nI 10) < F0 17 y) (h4 : ¬ F0 4 k = 0) : iv_rv n1 (F0 28 (16 * x + k)) ∧ iv_rv n2 (F0 18 (16 * y + k)) := by
  obtain ⟨-, -, ⟨-, H3, H4⟩, -, -, ⟨W1, W2⟩, -⟩ := D
  have e4 : F0 4 k = 1 := (H4.1 k k16).2.resolve_left h4
  obtain ⟨t, ht, et, bt⟩ := ld_pf H3 k16 ⟨hp, hs⟩
  exact ⟨W1.2.2.2.2.1 x hx t ht (hk.trans et) k k16 e4 bt, W2.2.2.2.2.1 y hy t ht et k k16 e4 bt⟩
theorem ld_v (D : lD nt nf ns n1 n2 o pr1 pr2 ma mb F0 G0) {x y k : Nat} (hx : x < n1) (hy : y < n2) (k16 : k < 16) : F0 28 (16 * x + k) = G0 96 (120 + (16 * x + k)) ∧ F0 18 (16 * y + k) = G0 75 (16 * y + k) :=
  ⟨D.2.2.2.2.2.1.1.2.2.1 (16 * x + k) (by omega), D.2.2.2.2.2.1.2.2.2.1 (16 * y + k) (by omega)⟩
theorem w_hsM (D : lD nt nf ns n1 n2 o pr1 pr2 ma mb F0 G0) {G : iv_F} (hG : lG G0 G) {y k : Nat} (hy : y < n2) (k16 : k < 16) {T : pz_Sg} : pz_WP 126 (0, pz_en 3 [.ref 55, .int (nI y), .int (nI k)], []) (Ms T G) (pz_is (some (.int (pz_b (qz_hs F0 nt nf (F0 17 y) k)))) (Ms T G)) := by
  obtain ⟨⟨⟨bt, bf, bs⟩, ⟨b1, b2, -, -⟩⟩, ⟨-, -, e2, -⟩, ⟨H2, H3, H4⟩, ⟨e56, e57, -⟩, -⟩ := id D
  have s56 : (Ms T G).1 56 = F0 56 := by rw [Ms_r (by decide), hG.1 56 (by decide) (by decide), e56]
  have s57 : (Ms T G).1 57 = F0 57 := by rw [Ms_r (by decide), hG.1 57 (by decide) (by decide), e57]
  have hi := w_hasIt (σ := Ms T G) (nt := nt) (nf := nf) (x := y) (c := F0 17 y) (by omega) bt bf (by
    rw [Ms_r (by decide), Ms_r (by decide), hG.1 73 (by decide) (by decide), hG.1 74 (by decide) (by decide)]
    exact ld_k2 D hy) (by rw [Ms_r (by decide), hG.2 2 (by decide)]; exact e2) (fun t ht => by rw [s56]; exact (H2 t ht).1) (fun f hf => by rw [s57]; exact H3.1 f hf) (nI k)
  rw [pz_b_c (show (∃ p, nI k = nI p ∧ p < 16 ∧ qz_hs (Ms T G).1 nt nf (F0 17 y) p) ↔ qz_hs F0 nt nf (F0 17 y) k from ⟨fun ⟨p, ep, hp, hh⟩ => by
    have : k = p := (nI_eq (by omega) (by omega)).mp ep
    subst this
    exact (qz_hs_e s56 s57).mp hh, fun hh => ⟨k, rfl, k16, (qz_hs_e s56 s57).mpr hh⟩⟩)] at hi
  exact hi
theorem w_hsC (D : lD nt nf ns n1 n2 o pr1 pr2 ma mb F0 G0) {σ : pz_Sg} (hF : lF F0 σ.1) {x k : Nat} (hx : x < n1) (k16 : k < 16) : pz_WP 78 (0, pz_en 4 [.ref 26, .ref 1, .int (nI x), .int (nI k)], []) σ (pz_is (some (.int (pz_b (qz_hs F0 nt nf (F0 27 x) k)))) σ) := by
  obtain ⟨⟨⟨bt, bf, bs⟩, ⟨b1, b2, -, -⟩⟩, ⟨e1, -, -, -⟩, ⟨H2, H3, H4⟩, -, -, ⟨W1, -⟩, -⟩ := id D
  have s56 : σ.1 56 = F0 56 := hF 56 (by decide) (by decide)
  have s57 : σ.1 57 = F0 57 := hF 57 (by decide) (by decide)
  have s27 : σ.1 27 = F0 27 := hF 27 (by decide) (by decide)
  have hi := w_holds26 (σ := σ) (nt := nt) (nf := nf) (nx := n1) b1 bt bf (by rw [hF 26 (by decide) (by decide)]; exact W1.1.1) (by rw [hF 1 (by decide) (by decide)]; exact e1) (fun x hx => ⟨_, _, by rw [s27]; exact ld_k1 D hx⟩) (iv_fl_e (hF 3 (by decide) (by decide)) s56 s57 H3) (nI x) (nI k)
  rw [pz_b_c (show (∃ x' p, x' < n1 ∧ nI x = nI x' ∧ nI k = nI p ∧ p < 16 ∧ qz_hs σ.1 nt nf (σ.1 27 x') p) ↔ qz_hs F0 nt nf (F0 27 x) k from ⟨fun ⟨x', p, hx', ex, ep, hp, hh⟩ => by
    have : k = p := (nI_eq (by omega) (by omega)).mp ep
    subst this
    have : x = x' := (nI_eq (by omega) (by omega)).mp ex
    subst this
    rw [← s27]
    exact (qz_hs_e s56 s57).mp hh, fun hh => ⟨x, k, hx, rfl, rfl, k16, by rw [s27]; exact (qz_hs_e s56 s57).mpr hh⟩⟩)] at hi
  exact hi
/-! one field of a pair: the reference -/
abbrev W44 (o x y : Nat) (v : Int32) (k : Nat) (s : pz_Sg) (P : pz_Ps) : Prop := pz_WP 174 (44, [some (.ref 55), some (.int (nI x)), some (.int (nI y)), some (.int (nI o)), some (.int v), some (.int (nI k)), none, none], []) s P
theorem z_44 {x y k : Nat} {s : pz_Sg} {P : pz_Ps} (h : P (some (.int 0)) s) : W44 o x y 0 k s P := pv_174_44 _ _ _ _ _ _ _ ⟨fun _ => ⟨Or.inl rfl, h⟩, fun _ => ⟨fun _ => ⟨Or.inl rfl, h⟩, fun z => absurd rfl z⟩⟩
theorem t_44 (D : lD nt nf ns n1 n2 o pr1 pr2 ma mb F0 G0) {G : iv_F} (hG : lG G0 G) {x y k : Nat} (hx : x < n1) (hy : y < n2) (k16 : k < 16) {T : pz_Sg} {P : pz_Ps} (hA : ¬ qz_hs F0 nt nf (F0 17 y) k → W44 o x y 1 (k + 1) (Ms T G) P) (hB : qz_hs F0 nt nf (F0 17 y) k → ¬ (-(nI 10) < F0 17 y ∧ ¬ F0 4 k = 0) → W44 o x y (pz_b (F0 28 (16 * x + k) = F0 18 (16 * y + k))) (k + 1) (Ms T G) P) (hC : qz_hs F0 nt nf (F0 17 y) k → (-(nI 10) < F0 17 y ∧ ¬ F0 4 k = 0) → ∃ Q : pz_Ps, pz_WP 173 (0, pz_en 4 [.ref 55, .int (F0 28 (16 * x + k)), .int (F0 18 (16 * y + k)), .int (nI o)], []) (Ms T G) Q ∧ ∀ r s, Q (some (.int r)) s → W44 o x y r (k + 1) s P) : W44 o x y 1 k (Ms T G) P := by
  obtain ⟨⟨⟨bt, bf, bs⟩, ⟨b1, b2, -, -⟩⟩, -, ⟨-, -, H4⟩, ⟨-, -, e58, -⟩, -⟩ := id D
  obtain ⟨ev1, ev2⟩ := ld_v D hx hy k16
  have i96 : nI 120 + nI 16 * nI x + nI k = nI (120 + (16 * x + k)) := by rw [pk_mul, nI_add, nI_add, Nat.add_assoc]
  obtain ⟨-, i2, i3, i4⟩ := qz_i16 (x := y) (p := k) (by omega) k16
  have vy : vp_in (nI y) 60 := vp_in_nI (by omega) (by decide)
  have vk : vp_in (nI k) 16 := vp_in_nI k16 (by decide)
  refine pv_174_44 _ _ _ _ _ _ _ ⟨fun z => absurd z (nI_ge k16 (by decide)), fun _ => ⟨fun z => absurd z (by decide), fun _ => pz_ki (w_hsM D hG hy k16) ⟨fun z => ?_, fun z => ?_⟩⟩⟩
  · rw [nI_1]
    exact hA (pz_b_0.mp z)
  · have hs : qz_hs F0 nt nf (F0 17 y) k := Classical.not_not.mp fun q => z (pz_b_0.mpr q)
    rw [i96, i2, i3, nI_clamp (show 120 + (16 * x + k) < 2 ^ 31 by omega), nI_clamp (show y < 2 ^ 31 by omega), nI_clamp (show k < 2 ^ 31 by omega), Ms_r (a := 96) (by decide), Ms_r (a := 75) (by decide), Ms_r (a := 73) (by decide), Ms_r (a := 58) (by decide), hG.1 96 (by decide) (by decide), hG.1 75 (by decide) (by decide), hG.1 73 (by decide) (by decide), hG.1 58 (by decide) (by decide), e58, ← ev1, ← ev2, ← (H4.1 k k16).1, nI_1]
    have L128 : ¬ (-(nI 10) < F0 17 y ∧ ¬ F0 4 k = 0) → pz_WP 174 (128, [some (.ref 55), some (.int (nI x)), some (.int (nI y)), some (.int (nI o)), none, some (.int (nI k)), some (.int (F0 28 (16 * x + k))), some (.int (F0 18 (16 * y + k)))], []) (Ms T G) P := fun q => by
      have hB' := hB hs q
      refine pv_174_128 _ _ _ _ _ _ _ _ ⟨fun w => ?_, fun w => ?_⟩
      · rw [nI_1]
        rw [pz_b_t w] at hB'
        exact hB'
      · rw [nI_1]
        rw [pz_b_f w] at hB'
        exact hB'
    have ob := qz_kd_o bt (ld_k2 D hy)
    refine ⟨vp_in_nI (by omega) (by decide), i4, vy, fun w => L128 fun q => ob.mp (Int32.not_le.mpr q.1) w, fun w => ⟨vk, fun u => L128 fun q => q.2 u, fun u => hC hs ⟨Int32.not_le.mp (ob.mpr w), u⟩⟩⟩
/-- likeThings alone, from field k on -/
theorem s_44 (D : lD nt nf ns n1 n2 o pr1 pr2 ma mb F0 G0) {x y : Nat} (hx : x < n1) (hy : y < n2) (hk : F0 27 x = F0 17 y) : ∀ d k c (G : iv_F), k + d = 16 → gV n1 n2 c G → lG G0 G → ∃ r c' G', (∀ T P, P (some (.int r)) (Ms T G') → W44 o x y 1 k (Ms T G) P) ∧ (r = 0 ∨ r = 1) ∧ gV n1 n2 c' G' ∧ gM c G c' G' ∧ lG G G' := by
  obtain ⟨b1, b2, b3, b4⟩ := D.1.2
  intro d
  induction d with
  | zero =>
    intro k c G hd V hG
    have : k = 16 := by omega
    subst this
    exact ⟨1, c, G, fun T P hP => pv_174_44 _ _ _ _ _ _ _ ⟨fun _ => ⟨Or.inr rfl, hP⟩, fun z => absurd (Int32.le_refl _) z⟩, Or.inr rfl, V, gM_r, lG_r⟩
  | succ d ih =>
    intro k c G hd V hG
    have k16 : k < 16 := by omega
    by_cases hs : qz_hs F0 nt nf (F0 17 y) k
    · by_cases hr : -(nI 10) < F0 17 y ∧ ¬ F0 4 k = 0
      · obtain ⟨q1, q2⟩ := ld_ref D hx hy hk k16 hs hr.1 hr.2
        obtain ⟨r, c1, G1, hW, hr01, V1, M1, L1⟩ := s_lr (o := o) b1 b2 (by omega) q1 q2 V
        rcases hr01 with rfl | rfl
        · exact ⟨0, c1, G1, fun T P hP => t_44 D hG hx hy k16 (fun z => absurd hs z) (fun _ z => absurd hr z) (fun _ _ => pz_ki (hW T) (z_44 hP)), Or.inl rfl, V1, M1, L1⟩
        · obtain ⟨r2, c2, G2, hW2, h01, V2, M2, L2⟩ := ih (k + 1) c1 G1 (by omega) V1 (lG_t hG L1)
          exact ⟨r2, c2, G2, fun T P hP => t_44 D hG hx hy k16 (fun z => absurd hs z) (fun _ z => absurd hr z) (fun _ _ => pz_ki (hW T) (hW2 T P hP)), h01, V2, gM_t M1 M2, lG_t L1 L2⟩
      · by_cases he : F0 28 (16 * x + k) = F0 18 (16 * y + k)
        · obtain ⟨r2, c2, G2, hW2, h01, V2, M2, L2⟩ := ih (k + 1) c G (by omega) V hG
          exact ⟨r2, c2, G2, fun T P hP => t_44 D hG hx hy k16 (fun z => absurd hs z) (fun _ _ => by rw [pz_b_t he]; exact hW2 T P hP) (fun _ z => absurd z hr), h01, V2, M2, L2⟩
        · exact ⟨0, c, G, fun T P hP => t_44 D hG hx hy k16 (fun z => absurd hs z) (fun _ _ => by rw [pz_b_f he]; exact z_44 hP) (fun _ z => absurd z hr), Or.inl rfl, V, gM_r, lG_r⟩
    · obtain ⟨r2, c2, G2, hW2, h01, V2, M2, L2⟩ := ih (k + 1) c G (by omega) V hG
      exact ⟨r2, c2, G2, fun T P hP => t_44 D hG hx hy k16 (fun _ => hW2 T P hP) (fun z => absurd z hs) (fun z => absurd z hs), h01, V2, M2, L2⟩
/-- one field of a pair: the class -/
abbrev W32 (x y k : Nat) (s : pz_Sg) (P : pz_Ps) : Prop := pz_WP 32 (2, [some (.ref 46), some (.int (nI x)), some (.int (nI y)), some (.int (nI k)), none], []) s P
theorem t_32 (D : lD nt nf ns n1 n2 o pr1 pr2 ma mb F0 G0) {σ : pz_Sg} (hF : lF F0 σ.1) {x y k : Nat} (hx : x < n1) (hy : y < n2) (hk : F0 27 x = F0 17 y) (k16 : k < 16) {P : pz_Ps} (hA : ¬ qz_hs F0 nt nf (F0 17 y) k → W32 x y (k + 1) σ P) (hB : qz_hs F0 nt nf (F0 17 y) k → ∀ rf : Int32, (¬ rf = 0 ↔ (-(nI 10) < F0 17 y ∧ ¬ F0 4 k = 0)) → ∃ Q : pz_Ps, pz_WP 33 (0, pz_en 4 [.ref 46, .int rf, .int (F0 28 (16 * x + k)), .int (F0 18 (16 * y + k))], []) σ Q ∧ ∀ r s, Q (some (.int r)) s → (r = 0 → P (some (.int 0)) s) ∧ (¬ r = 0 → W32 x y (k + 1) s P)) : W32 x y k σ P := by
  obtain ⟨⟨⟨bt, bf, bs⟩, ⟨b1, b2, -, -⟩⟩, -⟩ := id D
  obtain ⟨i1, -, i3, i4⟩ := qz_i16 (x := x) (p := k) (by omega) k16
  obtain ⟨j1, -, j3, j4⟩ := qz_i16 (x := y) (p := k) (by omega) k16
  have h1 := w_hsC D hF hx k16
  rw [hk] at h1
  refine pv_32_2 _ _ _ σ _ ⟨fun z => absurd z (nI_ge k16 (by decide)), fun _ => pz_ki h1 ⟨fun z => ?_, fun z => ?_⟩⟩
  · rw [nI_1]
    exact hA (pz_b_0.mp z)
  · have hs : qz_hs F0 nt nf (F0 17 y) k := Classical.not_not.mp fun q => z (pz_b_0.mpr q)
    refine pz_ki (w_refersAt26 (by omega) k16) ?_
    rw [i1, i3, j1, j3, nI_1, hF 28 (by decide) (by decide), hF 18 (by decide) (by decide), hF 27 (by decide) (by decide), hF 4 (by decide) (by decide), hk]
    exact ⟨i4, j4, hB hs _ ⟨fun q => Classical.not_not.mp fun w => q (pz_b_0.mpr w), fun q w => pz_b_0.mp w q⟩⟩
/-- heldAlike beside likeThings -/
theorem p_44 (D : lD nt nf ns n1 n2 o pr1 pr2 ma mb F0 G0) {x y : Nat} (hx : x < n1) (hy : y < n2) (hk : F0 27 x = F0 17 y) : ∀ d k c (σ : pz_Sg) (G : iv_F), k + d = 16 → Rl F0 n1 n2 o c σ.1 G → lG G0 G → W32 x y k σ (fun v σ' => ∃ r, v = some (.int r) ∧ (r = 0 ∨ r = 1) ∧ σ'.2 = σ.2 ∧ lO F0 n1 n2 o c G r σ'.1 (fun rr G' => ∀ T P, P (some (.int rr)) (Ms T G') → W44 o x y 1 k (Ms T G) P)) := by
  obtain ⟨b1, b2, b3, b4⟩ := D.1.2
  intro d
  induction d with
  | zero =>
    intro k c σ G hd R hG
    have : k = 16 := by omega
    subst this
    exact pv_32_2 _ _ _ σ _ ⟨fun _ => ⟨1, rfl, Or.inr rfl, rfl, Or.inl ⟨rfl, c, G, fun T P hP => pv_174_44 _ _ _ _ _ _ _ ⟨fun _ => ⟨Or.inr rfl, hP⟩, fun z => absurd (Int32.le_refl _) z⟩, R, gM_r, lG_r⟩⟩, fun z => absurd (Int32.le_refl _) z⟩
  | succ d ih =>
    intro k c σ G hd R hG
    have k16 : k < 16 := by omega
    -- on to the next field, with what the reference did at this one
    have next : ∀ c1 (σ1 : pz_Sg) (G1 : iv_F), σ1.2 = σ.2 → Rl F0 n1 n2 o c1 σ1.1 G1 → gM c G c1 G1 → lG G G1 → (∀ T P, W44 o x y 1 (k + 1) (Ms T G1) P → W44 o x y 1 k (Ms T G) P) → W32 x y (k + 1) σ1 (fun v σ' => ∃ r, v = some (.int r) ∧ (r = 0 ∨ r = 1) ∧ σ'.2 = σ.2 ∧ lO F0 n1 n2 o c G r σ'.1 (fun rr G' => ∀ T P, P (some (.int rr)) (Ms T G') → W44 o x y 1 k (Ms T G) P)) := fun c1 σ1 G1 h2 R1 M1 L1 hW => by
      refine pz_conseq (ih (k + 1) c1 σ1 G1 (by omega) R1 (lG_t hG L1)) ?_
      rintro v σ' ⟨r, rfl, h01, q2, hO⟩
      refine ⟨r, rfl, h01, q2.trans h2, ?_⟩
      rcases hO with ⟨rfl, c2, G2, hW2, R2, M2, L2⟩ | ⟨rfl, lF2, rr, c2, G2, hW2, V2, M2, L2, hz⟩
      · exact Or.inl ⟨rfl, c2, G2, fun T P hP => hW T P (hW2 T P hP), R2, gM_t M1 M2, lG_t L1 L2⟩
      · exact Or.inr ⟨rfl, lF2, rr, c2, G2, fun T P hP => hW T P (hW2 T P hP), V2, gM_t M1 M2, lG_t L1 L2, hz.imp id (fun ⟨h1, h⟩ => ⟨h1, dm_j M1.1 h⟩)⟩
    have hF := R.2.1
    by_cases hs : qz_hs F0 nt nf (F0 17 y) k
    · refine t_32 D hF hx hy hk k16 (fun z => absurd hs z) (fun _ rf hrf => ?_)
      by_cases hr : -(nI 10) < F0 17 y ∧ ¬ F0 4 k = 0
      · obtain ⟨q1, q2⟩ := ld_ref D hx hy hk k16 hs hr.1 hr.2
        refine ⟨_, p_lr b1 b2 (by omega) (hrf.mpr hr) q1 q2 R, ?_⟩
        rintro r s ⟨r', er, h01, q3, hO⟩
        cases er
        rcases hO with ⟨rfl, c1, G1, hW, R1, M1, L1⟩ | ⟨rfl, lF1, rr, c1, G1, hW, V1, M1, L1, hz⟩
        · exact ⟨fun z => absurd z (by decide), fun _ => next c1 s G1 q3 R1 M1 L1 (fun T P hP => t_44 D hG hx hy k16 (fun z => absurd hs z) (fun _ z => absurd hr z) (fun _ _ => pz_ki (hW T) hP))⟩
        · refine ⟨fun _ => ⟨0, rfl, Or.inl rfl, q3, Or.inr ⟨rfl, lF1, ?_⟩⟩, fun z => absurd rfl z⟩
          rcases hz with rfl | ⟨rfl, hd1⟩
          · exact ⟨0, c1, G1, fun T P hP => t_44 D hG hx hy k16 (fun z => absurd hs z) (fun _ z => absurd hr z) (fun _ _ => pz_ki (hW T) (z_44 hP)), V1, M1, L1, Or.inl rfl⟩
          · obtain ⟨r2, c2, G2, hW2, h012, V2, M2, L2⟩ := s_44 D hx hy hk d (k + 1) c1 G1 (by omega) V1 (lG_t hG L1)
            refine ⟨r2, c2, G2, fun T P hP => t_44 D hG hx hy k16 (fun z => absurd hs z) (fun _ z => absurd hr z) (fun _ _ => pz_ki (hW T) (hW2 T P hP)), V2, gM_t M1 M2, lG_t L1 L2, h012.imp id (fun e => ⟨e, dm_m b1 b2 M2 hd1⟩)⟩
      · have z0 : rf = 0 := Classical.not_not.mp fun q => hr (hrf.mp q)
        subst z0
        refine pz_ki w_va0 ⟨fun z => ?_, fun z => ?_⟩
        · have he := pz_b_0.mp z
          exact ⟨0, rfl, Or.inl rfl, rfl, Or.inr ⟨rfl, hF, 0, c, G, fun T P hP => t_44 D hG hx hy k16 (fun z => absurd hs z) (fun _ _ => by rw [pz_b_f he]; exact z_44 hP) (fun _ z => absurd z hr), R.1, gM_r, lG_r, Or.inl rfl⟩⟩
        · have he : F0 28 (16 * x + k) = F0 18 (16 * y + k) := Classical.not_not.mp fun q => z (pz_b_0.mpr q)
          exact next c σ G rfl R gM_r lG_r (fun T P hP => t_44 D hG hx hy k16 (fun z => absurd hs z) (fun _ _ => by rw [pz_b_t he]; exact hP) (fun _ z => absurd z hr))
    · exact t_32 D hF hx hy hk k16 (fun _ => next c σ G rfl R gM_r lG_r (fun T P hP => t_44 D hG hx hy k16 (fun _ => hP) (fun z => absurd z hs) (fun z => absurd z hs))) (fun z => absurd z hs)
/-! likeThings from its beginning -/
abbrev W174 (o x y : Nat) (s : pz_Sg) (P : pz_Ps) : Prop := pz_WP 174 (0, pz_en 8 [.ref 55, .int (nI x), .int (nI y), .int (nI o)], []) s P
theorem t_174 (D : lD nt nf ns n1 n2 o pr1 pr2 ma mb F0 G0) {G : iv_F} (hG : lG G0 G) {x y : Nat} (hx : x < n1) (hy : y < n2) {T : pz_Sg} {P : pz_Ps} (hn : ¬ F0 27 x = F0 17 y → P (some (.int 0)) (Ms T G)) (hk : F0 27 x = F0 17 y → W44 o x y 1 0 (Ms T G) P) : W174 o x y (Ms T G) P := by
  obtain ⟨⟨⟨bt, bf, bs⟩, ⟨b1, b2, -, -⟩⟩, -⟩ := id D
  have e := kd_eq bt (ld_k1 D hx) (ld_k2 D hy)
  have vy : vp_in (nI y) 60 := vp_in_nI (by omega) (by decide)
  refine pv_174 _ _ _ _ _ ?_
  rw [pk_mul, nI_1, nI_clamp (show 2 * x < 2 ^ 31 by omega), nI_clamp (show 2 * x + 1 < 2 ^ 31 by omega), nI_clamp (show y < 2 ^ 31 by omega), Ms_r (a := 96) (by decide), Ms_r (a := 73) (by decide), Ms_r (a := 74) (by decide), hG.1 96 (by decide) (by decide), hG.1 73 (by decide) (by decide), hG.1 74 (by decide) (by decide)]
  exact ⟨vp_in_nI (by omega) (by decide), vy, fun z1 => ⟨vp_in_nI (by omega) (by decide), vy, fun z2 => hk (e.mp ⟨z1, z2⟩), fun z2 => hn fun q => z2 (e.mpr q).2⟩, fun z1 => hn fun q => z1 (e.mpr q).1⟩
theorem s_174 (D : lD nt nf ns n1 n2 o pr1 pr2 ma mb F0 G0) {x y c : Nat} {G : iv_F} (hx : x < n1) (hy : y < n2) (V : gV n1 n2 c G) (hG : lG G0 G) : ∃ r c' G', (∀ T P, P (some (.int r)) (Ms T G') → W174 o x y (Ms T G) P) ∧ (r = 0 ∨ r = 1) ∧ (¬ F0 27 x = F0 17 y → r = 0) ∧ gV n1 n2 c' G' ∧ gM c G c' G' ∧ lG G G' := by
  by_cases hk : F0 27 x = F0 17 y
  · obtain ⟨r, c', G', hW, h01, V', M', L'⟩ := s_44 D hx hy hk 16 0 c G (by omega) V hG
    exact ⟨r, c', G', fun T P hP => t_174 D hG hx hy (fun z => absurd hk z) (fun _ => hW T P hP), h01, fun z => absurd hk z, V', M', L'⟩
  · exact ⟨0, c, G, fun T P hP => t_174 D hG hx hy (fun _ => hP) (fun z => absurd z hk), Or.inl rfl, fun _ => rfl, V, gM_r, lG_r⟩
theorem p_174 (D : lD nt nf ns n1 n2 o pr1 pr2 ma mb F0 G0) {x y c : Nat} (hx : x < n1) (hy : y < n2) (hk : F0 27 x = F0 17 y) {σ : pz_Sg} {G : iv_F} (R : Rl F0 n1 n2 o c σ.1 G) (hG : lG G0 G) : pz_WP 32 (0, pz_en 5 [.ref 46, .int (nI x), .int (nI y)], []) σ (fun v σ' => ∃ r, v = some (.int r) ∧ (r = 0 ∨ r = 1) ∧ σ'.2 = σ.2 ∧ lO F0 n1 n2 o c G r σ'.1 (fun rr G' => ∀ T P, P (some (.int rr)) (Ms T G') → W174 o x y (Ms T G) P)) := by
  refine pv_32 _ _ σ _ (pz_conseq (p_44 D hx hy hk 16 0 c σ G (by omega) R hG) ?_)
  rintro v σ' ⟨r, rfl, h01, q2, hO⟩
  refine ⟨r, rfl, h01, q2, ?_⟩
  rcases hO with ⟨rfl, c2, G2, hW2, R2, M2, L2⟩ | ⟨rfl, lF2, rr, c2, G2, hW2, V2, M2, L2, hz⟩
  · exact Or.inl ⟨rfl, c2, G2, fun T P hP => t_174 D hG hx hy (fun z => absurd hk z) (fun _ => hW2 T P hP), R2, M2, L2⟩
  · exact Or.inr ⟨rfl, lF2, rr, c2, G2, fun T P hP => t_174 D hG hx hy (fun z => absurd hk z) (fun _ => hW2 T P hP), V2, M2, L2, hz⟩
end
