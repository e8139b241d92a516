/-! ===== leave and close, comeToCatch and thrown ===== -/
/-- the result of a RUN -/
theorem rr_res {B : iv_F} {nt ns nm m0 t1 t0 pb : Nat} {wv : Int32} {nx dn fl pr : Nat} {F G : iv_F} (H : RR B nt ns nm m0 t1 t0 pb wv 0 nx dn fl pr F G) (h6 : F 40 6 = 0) (v w : Int32) : RR B nt ns nm m0 t1 t0 pb wv 0 nx dn fl pr (fu F 40 5 v) (fu (fu G 55 52 v) 55 53 w) := by
  obtain ⟨a1, a2, a3, a4, a5, a6, a7, ⟨h1, h2, h3, h4⟩, a9, a10⟩ := H
  exact ⟨rFr_5 (rFr_5 (rFr_f a1 rfl) rfl) rfl, rWd_c (fun a h _ => fu_o (fun e => by rw [e] at h; cases h)) (fun a h _ => by rw [fu_o (fun e => by rw [e] at h; cases h), fu_o (fun e => by rw [e] at h; cases h)]) rfl rfl a2, a3, rSt_c rfl rfl rfl rfl rfl rfl rfl rfl rfl rfl a4, a5, a6, a7, ⟨h1, rfl, fun z => absurd z (Nat.lt_irrefl _), 0, by decide, h6, Or.inl rfl⟩, rSu_c rfl rfl rfl rfl rfl rfl rfl rfl a9, a10⟩
/-- the fault of a RUN -/
theorem rr_flt {B : iv_F} {nt ns nm m0 t1 t0 pb : Nat} {wv : Int32} {nx dn fl pr f : Nat} {F G : iv_F} (H : RR B nt ns nm m0 t1 t0 pb wv 0 nx dn fl pr F G) (h5 : F 40 5 = 0) (hf : f ≤ 9) : RR B nt ns nm m0 t1 t0 pb wv 0 nx dn fl pr (fu F 40 6 (nI f)) (fu G 55 51 (nI f)) := by
  obtain ⟨a1, a2, a3, a4, a5, a6, a7, ⟨h1, h2, h3, h4⟩, a9, a10⟩ := H
  exact ⟨rFr_5 (rFr_f a1 rfl) rfl, rWd_c (fun a h _ => fu_o (fun e => by rw [e] at h; cases h)) (fun a h _ => fu_o (fun e => by rw [e] at h; cases h)) rfl rfl a2, a3, rSt_c rfl rfl rfl rfl rfl rfl rfl rfl rfl rfl a4, a5, a6, a7, ⟨rfl, h2, fun z => absurd z (Nat.lt_irrefl _), f, hf, rfl, Or.inr h5⟩, rSu_c rfl rfl rfl rfl rfl rfl rfl rfl a9, a10⟩
/-- a LINE that calls: its operands -/
theorem rQ_21 {B : iv_F} {nt nf ns nm m l : Nat} (hP : fP B nt nf ns nm) (hm : m < nm) (hl : l < (B 9 m).toNatClampNeg) (h21 : B 10 (24 * m + l) = nI 21) : ∃ a b c, (B 11 (24 * m + l) = nI a ∧ a < 8) ∧ (B 12 (24 * m + l) = nI b ∧ b < nm) ∧ (B 13 (24 * m + l) = nI c ∧ c < 8) ∧ ∃ p q, (p ≤ 3 ∧ B 6 b = nI p ∧ a + p ≤ 8) ∧ (q ≤ 3 ∧ B 7 b = nI q ∧ c + q ≤ 8) := by
  have bm := hP.1.2.2.2
  obtain ⟨o, ho, e10, u1, u2, u3, u21⟩ := fOp hP.2.2.1 hm hl
  have o21 : o = 21 := (nI_eq (by omega) (by decide)).mp (e10.symm.trans h21)
  subst o21
  obtain ⟨-, -, -, -, k11⟩ := qz_Wg3 21 (by decide)
  have hA := qz_s1 u1 (k11 rfl).1
  have hB := qz_s7 bm u2 (k11 rfl).2.1
  have hC := qz_s1 u3 (k11 rfl).2.2
  obtain ⟨⟨-, p, hp, e6⟩, ⟨-, q, hq, e7⟩, -⟩ := hP.2.1.1 _ hB.2
  obtain ⟨v1, v2⟩ := u21 rfl
  rw [e6, hA.1, nI_add, nI_leI (by have := hA.2; omega) (by decide)] at v1
  rw [e7, hC.1, nI_add, nI_leI (by have := hC.2; omega) (by decide)] at v2
  exact ⟨_, _, _, hA, hB, hC, p, q, ⟨hp, e6, v1⟩, ⟨hq, e7, v2⟩⟩
theorem w_leave {B : iv_F} {nt nf ns nm m0 t1 t0 pb : Nat} {wv : Int32} {e nx dn fl pr : Nat} (hQ : rQ B nt nf ns nm m0 t1) {σ : pz_Sg} {G : iv_F} (H : RR B nt ns nm m0 t1 t0 pb wv (e + 1) nx dn fl pr σ.1 G) {m : Nat} (h41 : σ.1 41 e = nI m) (hm : m < nm) {v : Int32} (hv2 : B 8 m = nI 2 → iv_rv nx v) (hv0 : B 8 m = 0 → v = 0) : pz_WP 37 (0, pz_en 4 [.ref 39, .int v], []) σ (fun r σ' => r = none ∧ ∃ G', (∀ T, pz_WP 151 (0, pz_en 5 [.ref 55, .int v], []) (Ms T G) (pz_is none (Ms T G'))) ∧ RR B nt ns nm m0 t1 t0 pb wv e nx dn fl pr σ'.1 G' ∧ σ'.2 = σ.2 ∧ (e = 0 → rFn B m0 nx σ'.1)) := by
  have bm := hQ.1.1.2.2.2
  obtain ⟨a1, -, -, ⟨⟨s1, s1', s1''⟩, s2, s3⟩, -⟩ := id H
  have R1 := rr_pop H
  have g41 : G 89 e = nI m := by
    obtain ⟨m', l, l', ⟨h1, ⟨h2, h2'⟩, -⟩, -⟩ := s3 e (by omega)
    have : m' = m := (nI_eq (by omega) (by omega)).mp (h2.symm.trans h41)
    rw [← this]
    exact h2'
  have ve : vp_in (nI e) 12 := vp_in_nI (by omega) (by decide)
  have vm : vp_in (nI m) 10 := vp_in_nI (by omega) (by decide)
  have f8 : σ.1 8 = B 8 := rKn a1 8 (by decide) rfl
  have g62 : G 62 m = B 8 m := by rw [rKg a1 62 (by decide) rfl]; exact ((hQ.1.2.1.1 m hm).2.2.1.1).symm
  refine pv_37 _ σ _ ?_
  rw [s1, qz_m1, nI_clamp (show e < 2 ^ 31 by omega), h41, nI_clamp (show m < 2 ^ 31 by omega), f8]
  refine ⟨ve, vm, ?_⟩
  rintro σ1 rfl
  cases e with
  | zero =>
    have e0 : (pz_up σ 39 8 (nI 0)).1 39 8 = 0 := rfl
    rw [e0]
    have fin : ∀ x : Int32, x = v → ∀ σ10 : pz_Sg, σ10 = pz_up (pz_up σ 39 8 (nI 0)) 40 5 x → (none : Option Value) = none ∧ ∃ G', (∀ T, pz_WP 151 (0, pz_en 5 [.ref 55, .int v], []) (Ms T G) (pz_is none (Ms T G'))) ∧ RR B nt ns nm m0 t1 t0 pb wv 0 nx dn fl pr σ10.1 G' ∧ σ10.2 = σ.2 ∧ ((0 : Nat) = 0 → rFn B m0 nx σ10.1) := by
      have h6 : σ.1 40 6 = 0 := (H.2.2.2.2.2.2.2.1.2.2.1 (by omega)).1
      have em : m = m0 := (nI_eq (by omega) (by have := hQ.2.2.2.2.2.1; omega)).mp (h41.symm.trans H.2.2.2.2.2.2.2.2.1.2.2.1)
      rintro x rfl σ10 rfl
      by_cases k2 : B 8 m = nI 2
      · refine ⟨rfl, fu (fu (fu G 55 41 (nI 0)) 55 52 x) 55 53 1, fun T => ?_, rr_res R1 h6 x 1, rfl, fun _ _ k => hv2 (by rw [em]; exact k)⟩
        refine pv_151 _ _ _ ?_
        rw [Ms_r (by decide), Ms_r (by decide), s1', qz_m1, nI_clamp (by decide), g41, nI_clamp (show m < 2 ^ 31 by omega)]
        refine ⟨ve, ?_⟩
        rintro σ1 rfl
        rw [Ms_u (by decide), Ms_r (by decide)]
        refine ⟨fun _ => ?_, fun z => absurd fu_s z⟩
        rintro σ7 rfl
        rw [Ms_u (by decide), Ms_r (by decide), show fu (fu G 55 41 (nI 0)) 55 52 x 62 m = B 8 m from g62]
        refine ⟨vm, fun _ => ?_, fun z => absurd k2 z⟩
        rintro σ9 rfl
        exact ⟨rfl, Ms_u (by decide)⟩
      · refine ⟨rfl, fu (fu (fu G 55 41 (nI 0)) 55 52 x) 55 53 0, fun T => ?_, rr_res R1 h6 x 0, rfl, fun _ _ k => hv2 (by rw [em]; exact k)⟩
        refine pv_151 _ _ _ ?_
        rw [Ms_r (by decide), Ms_r (by decide), s1', qz_m1, nI_clamp (by decide), g41, nI_clamp (show m < 2 ^ 31 by omega)]
        refine ⟨ve, ?_⟩
        rintro σ1 rfl
        rw [Ms_u (by decide), Ms_r (by decide)]
        refine ⟨fun _ => ?_, fun z => absurd fu_s z⟩
        rintro σ7 rfl
        rw [Ms_u (by decide), Ms_r (by decide), show fu (fu G 55 41 (nI 0)) 55 52 x 62 m = B 8 m from g62]
        refine ⟨vm, fun z => absurd z k2, fun _ => ?_⟩
        rintro σ9 rfl
        exact ⟨rfl, Ms_u (by decide)⟩
    exact ⟨fun _ => ⟨fun z => fin 0 (hv0 z).symm, fun _ => fin v rfl⟩, fun z => absurd rfl z⟩
  | succ c =>
    have e1 : (pz_up σ 39 8 (nI (c + 1))).1 39 8 = nI (c + 1) := qz_rs _ _ _ _
    have n0 : ¬ nI (c + 1) = 0 := fun z => absurd ((nI_eq (by omega) (by decide)).mp (show nI (c + 1) = nI 0 from z)) (by omega)
    obtain ⟨mc, lc, lc', ⟨k1, ⟨k2, k2'⟩, ⟨k3, k3'⟩, ⟨k4, -⟩, -⟩, k5⟩ := s3 c (by omega)
    obtain ⟨rfl, k6, k7, k8⟩ := k5 (by omega)
    have bl := fP_L' hQ.1 mc k1
    obtain ⟨ca, cb, cc, hA, hB, hC, pq⟩ := rQ_21 hQ.1 k1 k6 k7
    have vc : vp_in (nI c) 12 := vp_in_nI (by omega) (by decide)
    obtain ⟨ix, cx, vx⟩ := fix24 (m := mc) (l := lc) (by omega) (by omega)
    have ix' : nI 24 * nI mc + nI lc = nI (24 * mc + lc) := by rw [pk_mul, nI_add]
    have f11 : σ.1 11 = B 11 := rKn a1 11 (by decide) rfl
    have f13 : σ.1 13 = B 13 := rKn a1 13 (by decide) rfl
    obtain ⟨⟨q10, q11, q12, q13⟩, -⟩ := hQ.1.2.2.1 mc k1 lc k6
    have g65 : G 65 (24 * mc + lc) = nI ca := by rw [rKg a1 65 (by decide) rfl, ← q11]; exact hA.1
    have g67 : G 67 (24 * mc + lc) = nI cc := by rw [rKg a1 67 (by decide) rfl, ← q13]; exact hC.1
    -- the reference, up to what it does with the result
    have clo : ∀ (T : pz_Sg) {P : pz_Ps}, ((B 8 m = 1 → P none (Ms T (fu (fu (fu G 55 41 (nI (c + 1))) 91 (8 * c + ca) v) 90 c (nI (lc + 1))))) ∧ (¬ B 8 m = 1 → (B 8 m = nI 2 → P none (Ms T (fu (fu (fu G 55 41 (nI (c + 1))) 92 (8 * c + cc) v) 90 c (nI (lc + 1))))) ∧ (¬ B 8 m = nI 2 → P none (Ms T (fu (fu G 55 41 (nI (c + 1))) 90 c (nI (lc + 1))))))) → pz_WP 151 (0, pz_en 5 [.ref 55, .int v], []) (Ms T G) P := by
      intro T P h
      refine pv_151 _ _ _ ?_
      rw [Ms_r (by decide), Ms_r (by decide), s1', qz_m1, nI_clamp (show c + 1 < 2 ^ 31 by omega), g41, nI_clamp (show m < 2 ^ 31 by omega)]
      refine ⟨ve, ?_⟩
      rintro σ1 rfl
      rw [Ms_u (by decide), Ms_r (by decide), show fu G 55 41 (nI (c + 1)) 55 41 = nI (c + 1) from fu_s, qz_m1, nI_clamp (show c < 2 ^ 31 by omega), Ms_r (by decide), Ms_r (by decide), Ms_r (by decide), Ms_r (by decide), Ms_r (by decide), show fu G 55 41 (nI (c + 1)) 62 m = B 8 m from g62, show fu G 55 41 (nI (c + 1)) 89 c = nI mc from k2', show fu G 55 41 (nI (c + 1)) 90 c = nI lc from k3', ix', cx, show fu G 55 41 (nI (c + 1)) 65 (24 * mc + lc) = nI ca from g65, show fu G 55 41 (nI (c + 1)) 67 (24 * mc + lc) = nI cc from g67, pk_mul, nI_add, nI_add, nI_clamp (show 8 * c + ca < 2 ^ 31 by omega), nI_clamp (show 8 * c + cc < 2 ^ 31 by omega)]
      refine ⟨fun z => absurd z n0, fun _ => ⟨vc, vc, vm, fun z => ⟨vx, vp_in_nI (by omega) (by decide), ?_⟩, fun z => ⟨vm, fun z2 => ⟨vx, vp_in_nI (by omega) (by decide), ?_⟩, fun z2 => ⟨vc, vc, ?_⟩⟩⟩⟩
      · rintro σ5 rfl
        refine ⟨vc, vc, ?_⟩
        rintro σ6 rfl
        rw [Ms_u (by decide), Ms_r (by decide), show fu (fu G 55 41 (nI (c + 1))) 91 (8 * c + ca) v 90 c = nI lc from k3', nI_1, Ms_u (by decide)]
        exact h.1 z
      · rintro σ5 rfl
        refine ⟨vc, vc, ?_⟩
        rintro σ6 rfl
        rw [Ms_u (by decide), Ms_r (by decide), show fu (fu G 55 41 (nI (c + 1))) 92 (8 * c + cc) v 90 c = nI lc from k3', nI_1, Ms_u (by decide)]
        exact (h.2 z).1 z2
      · rintro σ6 rfl
        rw [nI_1, Ms_u (by decide)]
        exact (h.2 z).2 z2
    rw [e1, qz_m1, nI_clamp (show c < 2 ^ 31 by omega)]
    refine ⟨fun z => absurd z n0, fun _ => ⟨vc, vc, fun z => ?_, fun z => ⟨fun z2 => ?_, fun z2 => ?_⟩⟩⟩
    · refine pz_ki (w_locals (σ := pz_up σ 39 8 (nI (c + 1))) e1) ?_
      rw [show (pz_up σ 39 8 (nI (c + 1))).1 41 c = nI mc from k2, show (pz_up σ 39 8 (nI (c + 1))).1 42 c = nI lc from k3, ix, cx, show (pz_up σ 39 8 (nI (c + 1))).1 11 (24 * mc + lc) = nI ca by show σ.1 11 _ = _; rw [f11]; exact hA.1, nI_add, nI_clamp (show 8 * c + ca < 2 ^ 31 by omega)]
      refine ⟨vx, vp_in_nI (by omega) (by decide), ?_⟩
      rintro σ7 rfl
      refine pz_ki (w_goOn (σ := pz_up (pz_up σ 39 8 (nI (c + 1))) 43 (8 * c + ca) v) (e := c) (l := lc) e1 (by omega) k3) ⟨rfl, fu (fu (fu G 55 41 (nI (c + 1))) 91 (8 * c + ca) v) 90 c (nI (lc + 1)), fun T => clo T ⟨fun _ => ⟨rfl, rfl⟩, fun y => absurd z y⟩, rr_line (rr_num R1 _ v) (m := mc) k2 k1 bm ⟨by omega, by omega⟩ (Or.inl rfl), rfl, fun z => absurd z (by omega)⟩
    · refine pz_ki (w_locals (σ := pz_up σ 39 8 (nI (c + 1))) e1) ?_
      rw [show (pz_up σ 39 8 (nI (c + 1))).1 41 c = nI mc from k2, show (pz_up σ 39 8 (nI (c + 1))).1 42 c = nI lc from k3, ix, cx, show (pz_up σ 39 8 (nI (c + 1))).1 13 (24 * mc + lc) = nI cc by show σ.1 13 _ = _; rw [f13]; exact hC.1, nI_add, nI_clamp (show 8 * c + cc < 2 ^ 31 by omega)]
      refine ⟨vx, vp_in_nI (by omega) (by decide), ?_⟩
      rintro σ7 rfl
      refine pz_ki (w_goOn (σ := pz_up (pz_up σ 39 8 (nI (c + 1))) 44 (8 * c + cc) v) (e := c) (l := lc) e1 (by omega) k3) ⟨rfl, fu (fu (fu G 55 41 (nI (c + 1))) 92 (8 * c + cc) v) 90 c (nI (lc + 1)), fun T => clo T ⟨fun y => absurd y z, fun _ => ⟨fun _ => ⟨rfl, rfl⟩, fun y => absurd z2 y⟩⟩, rr_line (rr_ref R1 _ (hv2 z2)) (m := mc) k2 k1 bm ⟨by omega, by omega⟩ (Or.inl rfl), rfl, fun z => absurd z (by omega)⟩
    · refine pz_ki (w_goOn (σ := pz_up σ 39 8 (nI (c + 1))) (e := c) (l := lc) e1 (by omega) k3) ⟨rfl, fu (fu G 55 41 (nI (c + 1))) 90 c (nI (lc + 1)), fun T => clo T ⟨fun y => absurd y z, fun _ => ⟨fun y => absurd y z2, fun _ => ⟨rfl, rfl⟩⟩⟩, rr_line R1 (m := mc) k2 k1 bm ⟨by omega, by omega⟩ (Or.inl rfl), rfl, fun z => absurd z (by omega)⟩
/-- a fault looks for its catch -/
theorem w_throw {B : iv_F} {nt nf ns nm m0 t1 t0 pb : Nat} {wv : Int32} {nx dn pr f : Nat} (hQ : rQ B nt nf ns nm m0 t1) (hf : 1 ≤ f ∧ f ≤ 9) : ∀ d lv fl (σ : pz_Sg) (G : iv_F), lv + d ≤ 12 → RR B nt ns nm m0 t1 t0 pb wv d nx dn fl pr σ.1 G → (0 < d → ∃ m l, rFm B nm σ.1 G (d - 1) m l l ∧ l < (B 9 m).toNatClampNeg) → σ.1 40 5 = 0 → pz_WP 38 (2, [some (.ref 39), some (.int (nI f)), some (.int (nI lv)), none], []) σ (fun v σ' => σ'.2 = σ.2 ∧ ∃ r, v = some (.int r) ∧ ∃ G', (∀ T, pz_WP 152 (0, [some (.ref 55), some (.int (nI f)), none, none], []) (Ms T G) (pz_is none (Ms T G'))) ∧ ((r = 0 ∧ ∃ d' fl', d' ≤ d ∧ RR B nt ns nm m0 t1 t0 pb wv d' nx dn fl' pr σ'.1 G' ∧ (d' = 0 → rFn B m0 nx σ'.1)) ∨ (r = -(nI 4) ∧ rFr B σ'.1 G' ∧ ¬ G' 55 46 = 0 ∧ ¬ σ'.1 39 8 ≤ 0))) := by
  have bm := hQ.1.1.2.2.2
  intro d
  induction d with
  | zero =>
    intro lv fl σ G hlv H _ h5
    obtain ⟨a1, -, -, ⟨⟨s1, s1', s1''⟩, -, -⟩, -⟩ := id H
    have e0 : σ.1 39 8 ≤ 0 := by rw [s1]; decide
    have fin : ∀ σ1 : pz_Sg, σ1 = pz_up σ 40 6 (nI f) → σ1.2 = σ.2 ∧ ∃ r, (some (.int 0) : Option Value) = some (.int r) ∧ ∃ G', (∀ T, pz_WP 152 (0, [some (.ref 55), some (.int (nI f)), none, none], []) (Ms T G) (pz_is none (Ms T G'))) ∧ ((r = 0 ∧ ∃ d' fl', d' ≤ 0 ∧ RR B nt ns nm m0 t1 t0 pb wv d' nx dn fl' pr σ1.1 G' ∧ (d' = 0 → rFn B m0 nx σ1.1)) ∨ (r = -(nI 4) ∧ rFr B σ1.1 G' ∧ ¬ G' 55 46 = 0 ∧ ¬ σ1.1 39 8 ≤ 0)) := by
      rintro σ1 rfl
      refine ⟨rfl, 0, rfl, fu G 55 51 (nI f), fun T => ?_, Or.inl ⟨rfl, 0, fl, Nat.le_refl _, rr_flt H h5 hf.2, fun _ k => absurd k (nI_ne0 (by omega) (by omega))⟩⟩
      refine pv_152_0 _ _ _ ?_
      rw [Ms_r (by decide), s1']
      refine ⟨fun _ => ?_, fun z => absurd (by decide) z⟩
      rintro σ1 rfl
      exact ⟨rfl, Ms_u (by decide)⟩
    exact pv_38_2 _ _ σ _ ⟨fun _ => fin, fun _ => ⟨fun _ => fin, fun z => absurd e0 z⟩⟩
  | succ e ih =>
    intro lv fl σ G hlv H htop h5
    obtain ⟨a1, -, -, ⟨⟨s1, s1', s1''⟩, s2, s3⟩, ⟨-, ⟨c1, c2, c3⟩⟩, -⟩ := id H
    obtain ⟨m, l, ⟨h1, ⟨h2, h2'⟩, ⟨h3, h3'⟩, h4, -⟩, hl⟩ := htop (by omega)
    rw [show e + 1 - 1 = e by omega] at h2 h2' h3 h3'
    have n0 : ¬ nI (e + 1) ≤ 0 := fun z => absurd ((nI_leI (by omega) (by decide)).mp (show nI (e + 1) ≤ nI 0 from z)) (by omega)
    have ve : vp_in (nI e) 12 := vp_in_nI (by omega) (by decide)
    refine pv_38_2 _ _ σ _ ⟨fun z => absurd ((nI_leI (by decide) (by omega)).mp z) (by omega), fun _ => ⟨fun z => absurd (by rw [s1] at z; exact z) n0, fun _ => ?_⟩⟩
    rintro σ3 rfl
    rw [c1, nI_1, show (pz_up σ 39 9 (nI (fl + 1))).1 39 9 = nI (fl + 1) from qz_rs _ _ _ _]
    by_cases h40 : fl + 1 ≤ 40
    · have R1 := rr_fl H (by omega)
      refine ⟨fun _ => ?_, fun z => absurd ((nI_leI (by omega) (by decide)).mpr h40) z⟩
      rw [show (pz_up σ 39 9 (nI (fl + 1))).1 39 8 = nI (e + 1) from s1, qz_m1, nI_clamp (show e < 2 ^ 31 by omega), show (pz_up σ 39 9 (nI (fl + 1))).1 41 e = nI m from h2, show (pz_up σ 39 9 (nI (fl + 1))).1 42 e = nI l from h3]
      refine ⟨ve, ve, pz_ki (w_catch (F := B) (nm := nm) (m := m) (l := l) (f := f) (σ := pz_up σ 39 9 (nI (fl + 1))) bm (rKn a1 14 (by decide) rfl) (rKn a1 15 (by decide) rfl) hQ.1.2.2.2 (fP_4 hQ.1) h1) ⟨fun z => ?_, fun z => ?_⟩⟩
      · have k0 : fk B m l f = 0 := by
          unfold fkv at z
          split at z
          · assumption
          · exact absurd z (nI_ne1 (by have := fk_le (l := l) (f := f) hQ.1.2.2.2 h1 (B 14 m).toNatClampNeg 0 (by omega); unfold fk; omega))
        rintro σ5 rfl
        rw [show (pz_up σ 39 9 (nI (fl + 1))).1 39 8 = nI (e + 1) from s1, qz_m1, nI_1]
        have R2 := rr_pop R1
        refine pz_conseq (ih (lv + 1) (fl + 1) (pz_up (pz_up σ 39 9 (nI (fl + 1))) 39 8 (nI e)) (fu (fu G 55 48 (nI (fl + 1))) 55 41 (nI e)) (by omega) R2 (fun he => ?_) h5) ?_
        · obtain ⟨m', k, k', k1, k2⟩ := s3 (e - 1) (by omega)
          obtain ⟨rfl, k6, -⟩ := k2 (by omega)
          exact ⟨m', k, k1, k6⟩
        · rintro v σ' ⟨q2, r, rfl, G', hG, hR⟩
          refine ⟨q2, r, rfl, G', fun T => ?_, hR.imp (fun ⟨r0, d', fl', hd, h⟩ => ⟨r0, d', fl', by omega, h⟩) id⟩
          refine pv_152_0 _ _ _ ?_
          rw [Ms_r (by decide), s1']
          refine ⟨fun z => absurd z n0, fun _ => ?_⟩
          rintro σ2 rfl
          rw [c2, nI_1, Ms_u (by decide), Ms_r (by decide), show fu G 55 48 (nI (fl + 1)) 55 48 = nI (fl + 1) from fu_s]
          refine ⟨fun _ => ?_, fun z => absurd ((nI_leI (by omega) (by decide)).mpr h40) z⟩
          rw [show fu G 55 48 (nI (fl + 1)) 55 41 = nI (e + 1) from s1', qz_m1, nI_clamp (show e < 2 ^ 31 by omega), Ms_r (by decide), Ms_r (by decide), show fu G 55 48 (nI (fl + 1)) 89 e = nI m from h2', show fu G 55 48 (nI (fl + 1)) 90 e = nI l from h3']
          have cM := w_catchM (σ := Ms T (fu G 55 48 (nI (fl + 1)))) hQ.1 (l := l) (f := f) (rKg a1 68 (by decide) rfl) (rKg a1 69 (by decide) rfl) (rKg a1 70 (by decide) rfl) (rKg a1 71 (by decide) rfl) (rKg a1 72 (by decide) rfl) (rKg a1 63 (by decide) rfl) h1
          rw [if_pos k0] at cM
          refine ⟨ve, ve, pz_ki cM ⟨fun _ => ?_, fun y => absurd (by decide) y⟩⟩
          rintro σ4 rfl
          rw [Ms_r (by decide), show fu G 55 48 (nI (fl + 1)) 55 41 = nI (e + 1) from s1', qz_m1, Ms_u (by decide)]
          exact hG T
      · have k0 : ¬ fk B m l f = 0 := fun q => z (by unfold fkv; rw [if_pos q])
        have kb : fk B m l f ≤ 25 := fk_le hQ.1.2.2.2 h1 _ 0 (by omega)
        have gl := gms_le (F := B) (m := m) (l := fk B m l f - 1)
        have bl := fP_L' hQ.1 m h1
        rw [show fkv (fk B m l f) = nI (fk B m l f - 1) from if_neg k0]
        refine pz_ki (w_goOnAt (σ := pz_up σ 39 9 (nI (fl + 1))) (e := e) s1 (by omega)) ?_
        refine ⟨rfl, 0, rfl, fu (fu G 55 48 (nI (fl + 1))) 90 e (nI (gms B m (fk B m l f - 1))), fun T => ?_, Or.inl ⟨rfl, e + 1, fl + 1, Nat.le_refl _, rr_line R1 (m := m) h2 h1 bm ⟨by omega, by omega⟩ ?_, fun z => absurd z (by omega)⟩⟩
        · refine pv_152_0 _ _ _ ?_
          rw [Ms_r (by decide), s1']
          refine ⟨fun z => absurd z n0, fun _ => ?_⟩
          rintro σ2 rfl
          rw [c2, nI_1, Ms_u (by decide), Ms_r (by decide), show fu G 55 48 (nI (fl + 1)) 55 48 = nI (fl + 1) from fu_s]
          refine ⟨fun _ => ?_, fun z => absurd ((nI_leI (by omega) (by decide)).mpr h40) z⟩
          rw [show fu G 55 48 (nI (fl + 1)) 55 41 = nI (e + 1) from s1', qz_m1, nI_clamp (show e < 2 ^ 31 by omega), Ms_r (by decide), Ms_r (by decide), show fu G 55 48 (nI (fl + 1)) 89 e = nI m from h2', show fu G 55 48 (nI (fl + 1)) 90 e = nI l from h3']
          have cM := w_catchM (σ := Ms T (fu G 55 48 (nI (fl + 1)))) hQ.1 (l := l) (f := f) (rKg a1 68 (by decide) rfl) (rKg a1 69 (by decide) rfl) (rKg a1 70 (by decide) rfl) (rKg a1 71 (by decide) rfl) (rKg a1 72 (by decide) rfl) (rKg a1 63 (by decide) rfl) h1
          rw [if_neg k0] at cM
          refine ⟨ve, ve, pz_ki cM ⟨fun y => absurd y (nI_pos (by omega)), fun _ => ⟨ve, ?_⟩⟩⟩
          rintro σ5 rfl
          exact ⟨rfl, Ms_u (by decide)⟩
        · unfold gms
          split
          · exact Or.inl rfl
          · exact Or.inr ⟨by omega, Nat.le_refl _⟩
    · refine ⟨fun z => absurd ((nI_leI (by omega) (by decide)).mp z) h40, fun _ => ⟨rfl, -(nI 4), rfl, fu (fu G 55 48 (nI (fl + 1))) 55 46 1, fun T => ?_, Or.inr ⟨rfl, rFr_5 (rFr_5 (rFr_f a1 rfl) rfl) rfl, by rw [fu_s]; decide, by show ¬ σ.1 39 8 ≤ 0; rw [s1]; exact n0⟩⟩⟩
      refine pv_152_0 _ _ _ ?_
      rw [Ms_r (by decide), s1']
      refine ⟨fun z => absurd z n0, fun _ => ?_⟩
      rintro σ2 rfl
      rw [c2, nI_1, Ms_u (by decide), Ms_r (by decide), show fu G 55 48 (nI (fl + 1)) 55 48 = nI (fl + 1) from fu_s]
      refine ⟨fun z => absurd ((nI_leI (by omega) (by decide)).mp z) h40, fun _ => ?_⟩
      rintro σ6 rfl
      exact ⟨rfl, Ms_u (by decide)⟩
