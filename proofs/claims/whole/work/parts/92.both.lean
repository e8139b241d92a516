section
variable {nt nf ns n1 n2 o pr1 pr2 ma mb : Nat} {F0 G0 : iv_F}
/-! how the two ended -/
def mw (ma mb w : Nat) : Nat := if w = 0 then ma else mb
theorem ld_E (D : lD nt nf ns n1 n2 o pr1 pr2 ma mb F0 G0) {w : Nat} (hw : w < 2) : lE n1 n2 (mw ma mb w) w F0 G0 ∧ mw ma mb w < 10 ∧ G0 62 (mw ma mb w) = F0 8 (mw ma mb w) := by
  obtain ⟨-, -, -, -, ⟨m1, m2, e1, e2⟩, -, -, -, l1, l2⟩ := D
  rcases (show w = 0 ∨ w = 1 by omega) with rfl | rfl
  · exact ⟨l1, m1, e1⟩
  · exact ⟨l2, m2, e2⟩
theorem t_269 (D : lD nt nf ns n1 n2 o pr1 pr2 ma mb F0 G0) {G : iv_F} (hG : lG G0 G) {w : Nat} (hw : w < 2) {f1 : Nat} (hf : f1 ≤ 9) (e98 : G0 98 w = nI f1) {T : pz_Sg} {P : pz_Ps} (hB : ¬ (F0 8 (mw ma mb w) = nI 2 ∧ f1 = 0) → (0 < f1 → W269 ma mb o 1 (w + 1) (Ms T G) P) ∧ (f1 = 0 → W269 ma mb o (pz_b (G0 99 w = G0 99 (2 + w))) (w + 1) (Ms T G) P)) (hC : (F0 8 (mw ma mb w) = nI 2 ∧ f1 = 0) → ∃ Q : pz_Ps, pz_WP 173 (0, pz_en 4 [.ref 55, .int (G0 99 w), .int (G0 99 (2 + w)), .int (nI o)], []) (Ms T G) Q ∧ ∀ r t, Q (some (.int r)) t → W269 ma mb o r (w + 1) t P) : W269 ma mb o 1 w (Ms T G) P := by
  obtain ⟨-, m10, e62⟩ := ld_E D hw
  have vw : vp_in (nI w) 4 := vp_in_nI (by omega) (by decide)
  have vm : vp_in (nI (mw ma mb w)) 10 := vp_in_nI m10 (by decide)
  have f0 : nI f1 = 0 ↔ f1 = 0 := nI_eq (b := 0) (by omega) (by decide)
  have L0 : ¬ (F0 8 (mw ma mb w) = nI 2 ∧ f1 = 0) → pz_WP 175 (314, [some (.ref 55), some (.int (nI ma)), some (.int (nI mb)), some (.int (nI o)), none, some (.int (nI w)), none], [.int 0]) (Ms T G) P := fun hn => by
    obtain ⟨q1, q2⟩ := hB hn
    refine pv_175_314 _ _ _ _ _ _ _ ⟨fun _ => ?_, fun z => absurd rfl z⟩
    rw [nI_add, nI_clamp (show w < 2 ^ 31 by omega), nI_clamp (show 2 + w < 2 ^ 31 by omega), nI_1, Ms_r (a := 98) (by decide), Ms_r (a := 99) (by decide), hG.1 98 (by decide) (by decide), hG.1 99 (by decide) (by decide), e98]
    refine ⟨vw, fun z => q1 (Nat.pos_of_ne_zero fun e => absurd z (by rw [e]; decide)), fun z => ⟨vw, vp_in_nI (by omega) (by decide), fun y => ?_, fun y => ?_⟩⟩
    · have := q2 (Classical.byContradiction fun e => z (nI_lt (a := 0) (Nat.pos_of_ne_zero e) (by omega)))
      rw [pz_b_t y] at this
      exact this
    · have := q2 (Classical.byContradiction fun e => z (nI_lt (a := 0) (Nat.pos_of_ne_zero e) (by omega)))
      rw [pz_b_f y] at this
      exact this
  have L1 : (F0 8 (mw ma mb w) = nI 2 ∧ f1 = 0) → pz_WP 175 (314, [some (.ref 55), some (.int (nI ma)), some (.int (nI mb)), some (.int (nI o)), none, some (.int (nI w)), none], [.int 1]) (Ms T G) P := fun hy => by
    refine pv_175_314 _ _ _ _ _ _ _ ⟨fun z => absurd z (by decide), fun _ => ?_⟩
    rw [nI_add, nI_clamp (show w < 2 ^ 31 by omega), nI_clamp (show 2 + w < 2 ^ 31 by omega), nI_1, Ms_r (a := 99) (by decide), hG.1 99 (by decide) (by decide)]
    exact ⟨vw, vp_in_nI (by omega) (by decide), hC hy⟩
  have L294 : pz_WP 175 (294, [some (.ref 55), some (.int (nI ma)), some (.int (nI mb)), some (.int (nI o)), none, some (.int (nI w)), none], [.int (nI (mw ma mb w)), .ref 62]) (Ms T G) P := by
    refine pv_175_294 _ _ _ _ _ _ _ ?_
    rw [nI_clamp (show w < 2 ^ 31 by omega), nI_clamp (show mw ma mb w < 2 ^ 31 by omega), Ms_r (a := 62) (by decide), Ms_r (a := 98) (by decide), hG.1 62 (by decide) (by decide), hG.1 98 (by decide) (by decide), e98, e62, f0]
    exact ⟨vm, fun z => ⟨vw, fun y => L1 ⟨z, y⟩, fun y => L0 fun q => y q.2⟩, fun z => L0 fun q => z q.1⟩
  refine pv_175_269 _ _ _ _ _ _ _ ⟨fun z => absurd z (nI_ge hw (by decide)), fun _ => ⟨fun z => absurd z (by decide), fun _ => ⟨fun z => ?_, fun z => ?_⟩⟩⟩
  · have w0 : w = 0 := (nI_eq (b := 0) (by omega) (by decide)).mp z
    subst w0
    exact L294
  · have w1 : w = 1 := by
      have : ¬ w = 0 := fun e => z (by rw [e]; rfl)
      omega
    subst w1
    exact L294
theorem s_269 (D : lD nt nf ns n1 n2 o pr1 pr2 ma mb F0 G0) {w c : Nat} (hw : w < 2) (fe : G0 98 w = G0 98 (2 + w)) {G : iv_F} (V : gV n1 n2 c G) (hG : lG G0 G) : ∃ r c' G', (∀ T P, W269 ma mb o r (w + 1) (Ms T G') P → W269 ma mb o 1 w (Ms T G) P) ∧ (r = 0 ∨ r = 1) ∧ gV n1 n2 c' G' ∧ gM c G c' G' ∧ lG G G' := by
  obtain ⟨b1, b2, b3, b4⟩ := D.1.2
  obtain ⟨⟨f1, f2, ⟨hf1, hf2⟩, ⟨e1, e1'⟩, ⟨e2, e2'⟩, ⟨e3, e4⟩, -, r1, r2⟩, -⟩ := ld_E D hw
  have ff : f1 = f2 := (nI_eq (by omega) (by omega)).mp (e1'.symm.trans (fe.trans e2'))
  subst ff
  by_cases hr : F0 8 (mw ma mb w) = nI 2 ∧ f1 = 0
  · have q1 := r1 hr.2 hr.1
    have q2 := r2 hr.2 hr.1
    rw [e3] at q1
    rw [e4] at q2
    obtain ⟨r, c1, G1, hW, h01, V1, M1, L1⟩ := s_lr (o := o) b1 b2 (by omega) q1 q2 V
    exact ⟨r, c1, G1, fun T P hP => t_269 D hG hw hf1 e1' (fun z => absurd hr z) (fun _ => pz_ki (hW T) hP), h01, V1, M1, L1⟩
  · by_cases h0 : f1 = 0
    · exact ⟨_, c, G, fun T P hP => t_269 D hG hw hf1 e1' (fun _ => ⟨fun z => absurd z (by omega), fun _ => hP⟩) (fun z => absurd z hr), pz_b_01 _, V, gM_r, lG_r⟩
    · exact ⟨1, c, G, fun T P hP => t_269 D hG hw hf1 e1' (fun _ => ⟨fun _ => hP, fun z => absurd z h0⟩) (fun z => absurd z hr), Or.inr rfl, V, gM_r, lG_r⟩
/-- endedAlike -/
theorem p_30 (D : lD nt nf ns n1 n2 o pr1 pr2 ma mb F0 G0) {w c : Nat} (hw : w < 2) {σ : pz_Sg} {G : iv_F} (R : Rl F0 n1 n2 o c σ.1 G) (hG : lG G0 G) : pz_WP 30 (0, pz_en 5 [.ref 46, .int (nI (mw ma mb w)), .int (nI w)], []) σ (fun v σ' => ∃ r, v = some (.int r) ∧ (r = 0 ∨ r = 1) ∧ σ'.2 = σ.2 ∧ ((G0 98 w = G0 98 (2 + w) ∧ lO F0 n1 n2 o c G r σ'.1 (fun rr G' => ∀ T P, W269 ma mb o rr (w + 1) (Ms T G') P → W269 ma mb o 1 w (Ms T G) P)) ∨ (¬ G0 98 w = G0 98 (2 + w) ∧ r = 0 ∧ lF F0 σ'.1))) := by
  obtain ⟨b1, b2, b3, b4⟩ := D.1.2
  obtain ⟨⟨f1, f2, ⟨hf1, hf2⟩, ⟨e1, e1'⟩, ⟨e2, e2'⟩, ⟨e3, e4⟩, ⟨z1, z2⟩, r1, r2⟩, m10, -⟩ := ld_E D hw
  have hF := R.2.1
  have vm : vp_in (nI (mw ma mb w)) 10 := vp_in_nI m10 (by decide)
  have v4 : vp_in (nI (2 * w)) 4 := vp_in_nI (by omega) (by decide)
  have v4' : vp_in (nI (2 * w + 1)) 4 := vp_in_nI (by omega) (by decide)
  have iw : nI w * nI 2 = nI (2 * w) := by rw [pk_mul, Nat.mul_comm]
  have f0 : nI f1 = 0 ↔ f1 = 0 := nI_eq (b := 0) (by omega) (by decide)
  have L0 : f1 = f2 → ¬ (F0 8 (mw ma mb w) = nI 2 ∧ f1 = 0) → pz_WP 30 (45, [some (.ref 46), none, some (.int (nI w)), none, none], [.int 0]) σ (fun v σ' => ∃ r, v = some (.int r) ∧ (r = 0 ∨ r = 1) ∧ σ'.2 = σ.2 ∧ ((G0 98 w = G0 98 (2 + w) ∧ lO F0 n1 n2 o c G r σ'.1 (fun rr G' => ∀ T P, W269 ma mb o rr (w + 1) (Ms T G') P → W269 ma mb o 1 w (Ms T G) P)) ∨ (¬ G0 98 w = G0 98 (2 + w) ∧ r = 0 ∧ lF F0 σ'.1))) := fun ff hn => by
    subst ff
    refine pv_30_45 _ _ σ _ ?_
    rw [iw, nI_1, nI_clamp (show 2 * w + 1 < 2 ^ 31 by omega), hF 47 (by decide) (by decide), hF 48 (by decide) (by decide)]
    refine ⟨v4', v4', pz_ki w_va0 ⟨pz_b_01 _, _, rfl, pz_b_01 _, rfl, Or.inl ⟨e1'.trans e2'.symm, ?_⟩⟩⟩
    by_cases he : F0 47 (2 * w + 1) = F0 48 (2 * w + 1)
    · rw [pz_b_t he]
      refine Or.inl ⟨rfl, c, G, fun T P hP => t_269 D hG hw hf1 e1' (fun _ => ⟨fun _ => hP, fun _ => ?_⟩) (fun z => absurd z hn), R, gM_r, lG_r⟩
      rw [pz_b_t (show G0 99 w = G0 99 (2 + w) by rw [← e3, ← e4]; exact he)]
      exact hP
    · rw [pz_b_f he]
      have h0 : f1 = 0 := Classical.byContradiction fun q => he ((z1.resolve_left q).trans (z2.resolve_left q).symm)
      refine Or.inr ⟨rfl, hF, 0, c, G, fun T P hP => t_269 D hG hw hf1 e1' (fun _ => ⟨fun z => absurd z (by omega), fun _ => ?_⟩) (fun z => absurd z hn), R.1, gM_r, lG_r, Or.inl rfl⟩
      rw [pz_b_f (show ¬ G0 99 w = G0 99 (2 + w) by rw [← e3, ← e4]; exact he)]
      exact hP
  refine pv_30 _ _ σ _ ?_
  rw [iw, nI_clamp (show 2 * w < 2 ^ 31 by omega), nI_clamp (show mw ma mb w < 2 ^ 31 by omega), hF 47 (by decide) (by decide), hF 48 (by decide) (by decide), hF 8 (by decide) (by decide), e1, e2, f0]
  refine ⟨v4, v4, fun z => ?_, fun z => ⟨0, rfl, Or.inl rfl, rfl, Or.inr ⟨by rw [e1', e2']; exact z, rfl, hF⟩⟩⟩
  have ff : f1 = f2 := (nI_eq (by omega) (by omega)).mp z
  refine ⟨fun h0 => ⟨vm, fun h2 => ?_, fun h2 => L0 ff fun q => h2 q.1⟩, fun h0 => L0 ff fun q => h0 q.2⟩
  subst ff
  have q1 := r1 h0 h2
  have q2 := r2 h0 h2
  refine pv_30_45 _ _ σ _ ?_
  rw [iw, nI_1, nI_clamp (show 2 * w + 1 < 2 ^ 31 by omega), hF 47 (by decide) (by decide), hF 48 (by decide) (by decide)]
  refine ⟨v4', v4', _, p_lr b1 b2 (by omega) (by decide) q1 q2 R, ?_⟩
  rintro r t ⟨r', er, h01, q3, hO⟩
  cases er
  refine ⟨h01, _, rfl, h01, q3, Or.inl ⟨e1'.trans e2'.symm, ?_⟩⟩
  rcases hO with ⟨rfl, c1, G1, hW, R1, M1, L1⟩ | ⟨rfl, lF1, rr, c1, G1, hW, V1, M1, L1, hz⟩
  · rw [e3, e4] at hW
    exact Or.inl ⟨rfl, c1, G1, fun T P hP => t_269 D hG hw hf1 e1' (fun z => absurd ⟨h2, h0⟩ z) (fun _ => pz_ki (hW T) hP), R1, M1, L1⟩
  · rw [e3, e4] at hW
    exact Or.inr ⟨rfl, lF1, rr, c1, G1, fun T P hP => t_269 D hG hw hf1 e1' (fun z => absurd ⟨h2, h0⟩ z) (fun _ => pz_ki (hW T) hP), V1, M1, L1, hz⟩
/-! the pairs that were met -/
theorem t_390 (b1 : n1 ≤ 60) {G : iv_F} {c k x y : Nat} (V : gV n1 n2 c G) (hk : k < c) (hx : x < n1) (ex : G 102 k = nI x) (ey : G 100 x = nI y) {T : pz_Sg} {P : pz_Ps} (h : ∃ Q : pz_Ps, W174 o x y (Ms T G) Q ∧ ∀ r t, Q (some (.int r)) t → W390 o r (k + 1) t P) : W390 o 1 k (Ms T G) P := by
  have c60 : c ≤ 60 := by rw [V.2.1]; exact lcn_le 60
  have vk : vp_in (nI k) 60 := vp_in_nI (by omega) (by decide)
  refine pv_175_390 _ _ _ _ _ ?_
  rw [nI_clamp (show k < 2 ^ 31 by omega), Ms_r (a := 55) (by decide), Ms_r (a := 102) (by decide), Ms_r (a := 100) (by decide), V.1, ex, nI_clamp (show x < 2 ^ 31 by omega), ey, nI_1]
  exact ⟨fun z => absurd z (nI_ge hk (by omega)), fun _ => ⟨fun z => absurd z (by decide), fun _ => ⟨vk, vk, vp_in_nI (by omega) (by decide), h⟩⟩⟩
theorem e_390 {G : iv_F} {c k : Nat} (V : gV n1 n2 c G) (hk : c ≤ k) (k60 : k ≤ 60) {T : pz_Sg} {P : pz_Ps} (h : P (some (.int 1)) (Ms T G)) : W390 o 1 k (Ms T G) P := by
  refine pv_175_390 _ _ _ _ _ ⟨fun _ => ⟨Or.inr rfl, h⟩, fun z => absurd ?_ z⟩
  rw [Ms_r (by decide), V.1]
  exact nI_le hk (by omega)
theorem gV_at {G : iv_F} {c k : Nat} (b1 : n1 ≤ 60) (V : gV n1 n2 c G) (hk : k < c) : ∃ x y, x < n1 ∧ y < n2 ∧ G 102 k = nI x ∧ G 100 x = nI y := by
  obtain ⟨x, hx, ex, nx⟩ := V.2.2.2 k hk
  obtain ⟨y, hy, ey⟩ := (V.2.2.1 x (by omega)).resolve_left nx
  exact ⟨x, y, hx, hy, ex, ey⟩
theorem s_390 (D : lD nt nf ns n1 n2 o pr1 pr2 ma mb F0 G0) : ∀ N k c (G : iv_F), k + N = 60 → gV n1 n2 c G → lG G0 G → ∃ r c' G', (∀ T P, P (some (.int r)) (Ms T G') → W390 o 1 k (Ms T G) P) ∧ (r = 0 ∨ r = 1) ∧ (dm F0 n1 n2 c G k → r = 0) ∧ gV n1 n2 c' G' ∧ lG G G' := by
  obtain ⟨b1, b2, b3, b4⟩ := D.1.2
  intro N
  induction N with
  | zero =>
    intro k c G hN V hG
    have c60 : c ≤ 60 := by rw [V.2.1]; exact lcn_le 60
    exact ⟨1, c, G, fun T P hP => e_390 V (by omega) (by omega) hP, Or.inr rfl, fun ⟨k', x, y, q, _⟩ => absurd q.2 (by omega), V, lG_r⟩
  | succ N ih =>
    intro k c G hN V hG
    by_cases hk : k < c
    · obtain ⟨x, y, hx, hy, ex, ey⟩ := gV_at b1 V hk
      obtain ⟨r, c1, G1, hW, h01, hd, V1, M1, L1⟩ := s_174 D hx hy V hG
      rcases h01 with rfl | rfl
      · exact ⟨0, c1, G1, fun T P hP => t_390 b1 V hk hx ex ey ⟨_, hW T (pz_is (some (.int 0)) (Ms T G1)) ⟨rfl, rfl⟩, fun r t ⟨er, et⟩ => by cases er; subst et; exact z_390 hP⟩, Or.inl rfl, fun _ => rfl, V1, L1⟩
      · obtain ⟨r2, c2, G2, hW2, h01, hd2, V2, L2⟩ := ih (k + 1) c1 G1 (by omega) V1 (lG_t hG L1)
        refine ⟨r2, c2, G2, fun T P hP => t_390 b1 V hk hx ex ey ⟨_, hW T (pz_is (some (.int 1)) (Ms T G1)) ⟨rfl, rfl⟩, fun r t ⟨er, et⟩ => by cases er; subst et; exact hW2 T P hP⟩, h01, fun q => hd2 ?_, V2, lG_t L1 L2⟩
        obtain ⟨k', x', y', ⟨k1, k2⟩, ⟨x1, y1⟩, ⟨u1, u2⟩, ne⟩ := id q
        by_cases e : k' = k
        · subst e
          have : x = x' := (nI_eq (by omega) (by omega)).mp (ex.symm.trans u1)
          subst this
          have : y = y' := (nI_eq (by omega) (by omega)).mp (ey.symm.trans u2)
          subst this
          exact absurd (hd ne) (by decide)
        · exact dm_m b1 b2 M1 ⟨k', x', y', ⟨by omega, k2⟩, ⟨x1, y1⟩, ⟨u1, u2⟩, ne⟩
    · exact ⟨1, c, G, fun T P hP => e_390 V (by omega) (by omega) hP, Or.inr rfl, fun ⟨k', x, y, q, _⟩ => absurd q.2 (by omega), V, lG_r⟩
/-- metAlike -/
theorem p_31 (D : lD nt nf ns n1 n2 o pr1 pr2 ma mb F0 G0) : ∀ N k c (σ : pz_Sg) (G : iv_F), k + N = 60 → Rl F0 n1 n2 o c σ.1 G → lG G0 G → pz_WP 31 (2, [some (.ref 46), some (.int (nI k))], []) σ (fun v σ' => ∃ r, v = some (.int r) ∧ (r = 0 ∨ r = 1) ∧ σ'.2 = σ.2 ∧ lF F0 σ'.1 ∧ ∃ G', lG G G' ∧ ∀ T P, P (some (.int r)) (Ms T G') → W390 o 1 k (Ms T G) P) := by
  obtain ⟨b1, b2, b3, b4⟩ := D.1.2
  intro N
  induction N with
  | zero =>
    intro k c σ G hN R hG
    have : k = 60 := by omega
    subst this
    have c60 : c ≤ 60 := by rw [R.1.2.1]; exact lcn_le 60
    exact pv_31_2 _ σ _ ⟨fun _ => ⟨1, rfl, Or.inr rfl, rfl, R.2.1, G, lG_r, fun T P hP => e_390 R.1 (by omega) (by omega) hP⟩, fun z => absurd (Int32.le_refl _) z⟩
  | succ N ih =>
    intro k c σ G hN R hG
    obtain ⟨V, hF, ⟨e8, e9⟩, e49, e50, e51, hK⟩ := id R
    have c60 : c ≤ 60 := by rw [V.2.1]; exact lcn_le 60
    refine pv_31_2 _ σ _ ⟨fun z => absurd z (nI_ge (by omega) (by decide)), fun _ => ?_⟩
    rw [e8]
    by_cases hk : k < c
    · obtain ⟨x, y, hx, hy, ex, ey⟩ := gV_at b1 V hk
      have vk : vp_in (nI k) 60 := vp_in_nI (by omega) (by decide)
      rw [nI_clamp (show k < 2 ^ 31 by omega), e51 k hk, ex, nI_clamp (show x < 2 ^ 31 by omega), e49 x (by omega), ey, nI_1]
      refine ⟨fun z => absurd z (nI_ge hk (by omega)), fun _ => ⟨vk, vk, vp_in_nI (by omega) (by decide), _, p_174 D hx hy (hK k x y hk hx hy ex ey) R hG, ?_⟩⟩
      rintro r t ⟨r', er, h01, q3, hO⟩
      cases er
      rcases hO with ⟨rfl, c1, G1, hW, R1, M1, L1⟩ | ⟨rfl, lF1, rr, c1, G1, hW, V1, M1, L1, hz⟩
      · refine ⟨fun z => absurd z (by decide), fun _ => pz_conseq (ih (k + 1) c1 t G1 (by omega) R1 (lG_t hG L1)) ?_⟩
        rintro v σ' ⟨r, rfl, h01, q2, lF2, G2, L2, hW2⟩
        exact ⟨r, rfl, h01, q2.trans q3, lF2, G2, lG_t L1 L2, fun T P hP => t_390 b1 V hk hx ex ey ⟨_, hW T (pz_is (some (.int 1)) (Ms T G1)) ⟨rfl, rfl⟩, fun r t ⟨er, et⟩ => by cases er; subst et; exact hW2 T P hP⟩⟩
      · refine ⟨fun _ => ⟨0, rfl, Or.inl rfl, q3, lF1, ?_⟩, fun z => absurd rfl z⟩
        rcases hz with rfl | ⟨rfl, hd1⟩
        · exact ⟨G1, L1, fun T P hP => t_390 b1 V hk hx ex ey ⟨_, hW T (pz_is (some (.int 0)) (Ms T G1)) ⟨rfl, rfl⟩, fun r t ⟨er, et⟩ => by cases er; subst et; exact z_390 hP⟩⟩
        · obtain ⟨r2, c2, G2, hW2, h012, hd2, V2, L2⟩ := s_390 D N (k + 1) c1 G1 (by omega) V1 (lG_t hG L1)
          have r0 := hd2 (dm_j (by omega) hd1)
          subst r0
          exact ⟨G2, lG_t L1 L2, fun T P hP => t_390 b1 V hk hx ex ey ⟨_, hW T (pz_is (some (.int 1)) (Ms T G1)) ⟨rfl, rfl⟩, fun r t ⟨er, et⟩ => by cases er; subst et; exact hW2 T P hP⟩⟩
    · exact ⟨fun _ => ⟨1, rfl, Or.inr rfl, rfl, hF, G, lG_r, fun T P hP => e_390 V (by omega) (by omega) hP⟩, fun z => absurd (nI_le (by omega) (by omega)) z⟩
/-! a pair is not alike, or it was found so: it ends with false -/
theorem y_390 (D : lD nt nf ns n1 n2 o pr1 pr2 ma mb F0 G0) {c : Nat} {G : iv_F} {rr : Int32} (V : gV n1 n2 c G) (hG : lG G0 G) (h : rr = 0 ∨ (rr = 1 ∧ dm F0 n1 n2 c G 0)) : ∃ G', lG G G' ∧ ∀ T P, P (some (.int 0)) (Ms T G') → W390 o rr 0 (Ms T G) P := by
  rcases h with rfl | ⟨rfl, hd⟩
  · exact ⟨G, lG_r, fun T P hP => z_390 hP⟩
  · obtain ⟨r, c', G', hW, -, hd', V', L'⟩ := s_390 D 60 0 c G (by omega) V hG
    have := hd' hd
    subst this
    exact ⟨G', L', hW⟩
theorem y_269 (D : lD nt nf ns n1 n2 o pr1 pr2 ma mb F0 G0) (fe : G0 98 0 = G0 98 2 ∧ G0 98 1 = G0 98 3) : ∀ d w c (G : iv_F) (rr : Int32), w + d = 2 → gV n1 n2 c G → lG G0 G → (rr = 0 ∨ (rr = 1 ∧ dm F0 n1 n2 c G 0)) → ∃ G', lG G G' ∧ ∀ T P, P (some (.int 0)) (Ms T G') → W269 ma mb o rr w (Ms T G) P := by
  obtain ⟨b1, b2, b3, b4⟩ := D.1.2
  intro d
  induction d with
  | zero =>
    intro w c G rr hd V hG h
    have : w = 2 := by omega
    subst this
    obtain ⟨G', L', hW⟩ := y_390 D V hG h
    exact ⟨G', L', fun T P hP => pv_175_269 _ _ _ _ _ _ _ ⟨fun _ => hW T P hP, fun z => absurd (Int32.le_refl _) z⟩⟩
  | succ d ih =>
    intro w c G rr hd V hG h
    rcases h with rfl | ⟨rfl, hdm⟩
    · exact ⟨G, lG_r, fun T P hP => z_269 hP⟩
    · have few : G0 98 w = G0 98 (2 + w) := by
        rcases (show w = 0 ∨ w = 1 by omega) with rfl | rfl
        · exact fe.1
        · exact fe.2
      obtain ⟨r, c1, G1, hW, h01, V1, M1, L1⟩ := s_269 D (by omega) few V hG
      obtain ⟨G', L', hW'⟩ := ih (w + 1) c1 G1 r (by omega) V1 (lG_t hG L1) (h01.imp id (fun e => ⟨e, dm_m b1 b2 M1 hdm⟩))
      exact ⟨G', lG_t L1 L', fun T P hP => hW T P (hW' T P hP)⟩
theorem y_238 (D : lD nt nf ns n1 n2 o pr1 pr2 ma mb F0 G0) (fe : G0 98 0 = G0 98 2 ∧ G0 98 1 = G0 98 3) {c : Nat} {G : iv_F} {rr : Int32} (V : gV n1 n2 c G) (hG : lG G0 G) (h : rr = 0 ∨ (rr = 1 ∧ dm F0 n1 n2 c G 0)) : ∃ G', lG G G' ∧ ∀ T P, P (some (.int 0)) (Ms T G') → W238 ma mb o rr 0 (Ms T G) P := by
  obtain ⟨b1, b2, b3, b4⟩ := D.1.2
  rcases h with rfl | ⟨rfl, hdm⟩
  · exact ⟨G, lG_r, fun T P hP => z_238 hP⟩
  · obtain ⟨r, c1, G1, hW, h01, V1, M1, L1⟩ := s_238 D o 0 c G (by omega) V hG
    obtain ⟨G', L', hW'⟩ := y_269 D fe 2 0 c1 G1 r (by omega) V1 (lG_t hG L1) (h01.imp id (fun e => ⟨e, dm_m b1 b2 M1 hdm⟩))
    exact ⟨G', lG_t L1 L', fun T P hP => hW T P (hW' T P hP)⟩
end
