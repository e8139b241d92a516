section
variable {B : iv_F} {nt nf ns nm m0 t1 t0 pb : Nat} {wv : Int32} {e nx dn fl pr m l : Nat}
theorem rl_th {F G : iv_F} (h : rL B nt nf ns nm m0 t1 t0 pb wv e nx dn fl pr m l F G) {y : Nat} (hy : y < nx) : qz_kd nt (F 17 y) (G 73 y) (G 74 y) := h.2.1.2.1.2.1 y hy
theorem w_hf {σ : pz_Sg} {G : iv_F} (h : rL B nt nf ns nm m0 t1 t0 pb wv e nx dn fl pr m l σ.1 G) {y c : Nat} (hy : y < nx) (hc : c < 16) : pz_WP 76 (0, pz_en 4 [.ref 16, .ref 1, .int (nI y), .int (nI c)], []) σ (pz_is (some (.int (pz_b (-(nI 10) < σ.1 17 y ∧ qz_hs B nt nf (σ.1 17 y) c)))) σ) := by
  have b60 := (rl h).2.2.2.2.2.2
  have a1 := h.2.1.1
  have q := w_hasField (σ := σ) (nt := nt) (nf := nf) (x := y) (by omega) h.1.1.1.1 (rl_th h hy) (iv_fl_e (rKn a1 3 (by decide) rfl) (rKn a1 56 (by decide) rfl) (rKn a1 57 (by decide) rfl) h.1.2.2.1) hc
  rw [show qz_hs σ.1 nt nf (σ.1 17 y) c = qz_hs B nt nf (σ.1 17 y) c from propext (qz_hs_e (rKn a1 56 (by decide) rfl) (rKn a1 57 (by decide) rfl))] at q
  exact q
theorem w_mtF {F G : iv_F} (h : rL B nt nf ns nm m0 t1 t0 pb wv e nx dn fl pr m l F G) {y c o : Nat} (hy : y < nx) (hc : c < 16) (ho : ¬ nI o = nI 14 ∧ ¬ nI o = nI 15 ∧ ¬ nI o = nI 20) (T : pz_Sg) : (-(nI 10) < F 17 y ∧ qz_hs B nt nf (F 17 y) c → pz_WP 156 (0, pz_en 6 [.ref 55, .int (nI y), .int (nI o), .int (nI c), .int 0], []) (Ms T G) (pz_is (some (.int 0)) (Ms T G))) ∧ (¬ (-(nI 10) < F 17 y ∧ qz_hs B nt nf (F 17 y) c) → pz_WP 156 (0, pz_en 6 [.ref 55, .int (nI y), .int (nI o), .int (nI c), .int 0], []) (Ms T G) (pz_is (some (.int (nI 5))) (Ms T G))) := by
  have b60 := (rl h).2.2.2.2.2.2
  have a1 := h.2.1.1
  have kd := rl_th h hy
  have ob := qz_kd_o h.1.1.1.1 kd
  have vy : vp_in (nI y) 60 := vp_in_nI (by omega) (by decide)
  have hi := w_hasIt (σ := Ms T G) (nt := nt) (nf := nf) (x := y) (c := F 17 y) (by omega) h.1.1.1.1 h.1.1.1.2.1 kd (show G 55 2 = nI nf by rw [a1.2.2 2 rfl]; exact h.1.2.2.2.2.1.2) (fun t ht => by rw [show (Ms T G).1 56 = B 56 from rKg a1 56 (by decide) rfl]; exact (h.1.2.1 t ht).1) (fun f hf => by rw [show (Ms T G).1 57 = B 57 from rKg a1 57 (by decide) rfl]; exact h.1.2.2.1.1 f hf) (nI c)
  have hs : (∃ p, nI c = nI p ∧ p < 16 ∧ qz_hs (Ms T G).1 nt nf (F 17 y) p) ↔ qz_hs B nt nf (F 17 y) c := by
    constructor
    · rintro ⟨p, ep, hp, hh⟩
      have : c = p := (nI_eq (by omega) (by omega)).mp ep
      subst this
      exact (qz_hs_e (F := (Ms T G).1) (rKg a1 56 (by decide) rfl) (rKg a1 57 (by decide) rfl)).mp hh
    · exact fun hh => ⟨c, rfl, hc, (qz_hs_e (F := (Ms T G).1) (rKg a1 56 (by decide) rfl) (rKg a1 57 (by decide) rfl)).mpr hh⟩
  rw [propext hs] at hi
  have c73 : (Ms T G).1 73 (nI y).toNatClampNeg = G 73 y := by rw [nI_clamp (by omega)]; rfl
  constructor
  · intro P
    refine pv_156 _ _ _ _ _ _ ⟨fun _ => ⟨fun z => absurd z ho.1, fun _ => ⟨fun z => absurd z ho.2.1, fun _ => ⟨fun z => absurd z ho.2.2, fun _ => pv_156_29 _ _ _ _ _ _ _ ⟨fun _ => ⟨vy, fun z => absurd (by rw [← c73]; exact z) (ob.mp (Int32.not_le.mpr P.1)), fun _ => pz_ki hi ⟨fun z => absurd P.2 (pz_b_0.mp z), fun _ => pv_156_68 _ _ _ _ _ _ ⟨fun _ => ⟨rfl, rfl⟩, fun z => absurd rfl z⟩⟩⟩, fun z => absurd rfl z⟩⟩⟩⟩, fun z => absurd (nI_pos' (by omega)) z⟩
  · intro P
    refine pv_156 _ _ _ _ _ _ ⟨fun _ => ⟨fun z => absurd z ho.1, fun _ => ⟨fun z => absurd z ho.2.1, fun _ => ⟨fun z => absurd z ho.2.2, fun _ => pv_156_29 _ _ _ _ _ _ _ ⟨fun _ => ⟨vy, fun _ => ⟨rfl, rfl⟩, fun z73 => pz_ki hi ⟨fun _ => ⟨rfl, rfl⟩, fun z => absurd (pz_b_0.mpr fun hh => P ⟨Int32.not_le.mp (ob.mpr (by rw [← c73]; exact z73)), hh⟩) z⟩⟩, fun z => absurd rfl z⟩⟩⟩⟩, fun z => absurd (nI_pos' (by omega)) z⟩
theorem w_mt3 {G : iv_F} {T : pz_Sg} {o c i : Int32} : pz_WP 156 (0, pz_en 6 [.ref 55, .int (-1), .int o, .int c, .int i], []) (Ms T G) (pz_is (some (.int (nI 3))) (Ms T G)) := pv_156 _ _ _ _ _ _ ⟨fun z => absurd z (by decide), fun _ => ⟨rfl, rfl⟩⟩
theorem rl_pf {c : Nat} {k : Int32} (hQ : rQ B nt nf ns nm m0 t1) (hc : c < 16) (P : -(nI 10) < k ∧ qz_hs B nt nf k c) : ∃ t, t < nt ∧ k = nI t ∧ iv_bt (B 3 t) c := by
  rcases P.2 with ⟨n, hn, ek, -⟩ | ⟨t, ht, ek, h1, h2⟩
  · exact absurd (by rw [← ek]; exact P.1) (qz_k10 n (by omega)).2.2.2
  · exact ⟨t, ht, ek, (hQ.2.2.1.2 t ht c hc).mpr ⟨h1, h2⟩⟩
theorem w_op10 {σ : pz_Sg} {G : iv_F} (h : rL B nt nf ns nm m0 t1 t0 pb wv e nx dn fl pr m l σ.1 G) (h10 : B 10 (24 * m + l) = nI 10) : pz_WP 45 (0, pz_en 9 [.ref 39, .int (nI (24 * m + l)), .int (nI 10)], []) σ (rP B nt ns nm m0 t1 t0 pb wv e nx dn fl pr (W158 e (24 * m + l)) σ G) := by
  obtain ⟨⟨f1, f2, f3⟩, ⟨f4, f5, f6⟩, ⟨f7, f8, f9, f10⟩, ⟨p0, p1, p2, p3⟩, ⟨g0, g1, g2, g3⟩, floc, b60⟩ := rl h
  obtain ⟨u1, u2, u3⟩ := rl_op h (by decide) h10
  have vs : vp_in (nI (24 * m + l)) 240 := vp_in_nI f6 (by decide)
  have ve : vp_in (nI e) 12 := vp_in_nI f3 (by decide)
  have cs : (nI (24 * m + l)).toNatClampNeg = 24 * m + l := nI_clamp (by omega)
  have ce : (nI e).toNatClampNeg = e := nI_clamp (by omega)
  obtain ⟨a, ha, ea⟩ := vp_in_of (show vp_in (B 11 (24 * m + l)) 8 from u1) (by decide)
  obtain ⟨b, hb, eb⟩ := vp_in_of (show vp_in (B 12 (24 * m + l)) 8 from u2) (by decide)
  have bf := h.1.1.1.2.1
  obtain ⟨u3, u4⟩ := (show vp_in (B 13 (24 * m + l)) nf ∧ B 4 (B 13 (24 * m + l)).toNatClampNeg = 0 from u3)
  obtain ⟨c, hc, ec⟩ := vp_in_of u3 (by omega)
  rw [ec, nI_clamp (by omega)] at u4
  have c16 : c < 16 := by omega
  obtain ⟨-, H, -⟩ := id h
  obtain ⟨a1, ⟨-, -, w3, -, w5, -⟩, -, -, -, ⟨⟨-, g49, g49'⟩, -⟩, -⟩ := id H
  have va : vp_in (nI (8 * e + a)) 96 := vp_in_nI (by omega) (by decide)
  have ca : (nI (8 * e + a)).toNatClampNeg = 8 * e + a := nI_clamp (by omega)
  have vb : vp_in (nI (8 * e + b)) 96 := vp_in_nI (by omega) (by decide)
  have cb : (nI (8 * e + b)).toNatClampNeg = 8 * e + b := nI_clamp (by omega)
  have pre : ∀ T s, pz_WP 158 (131, [some (.ref 55), some (.int (nI e)), none, some (.int (nI 10)), some (.int (nI (8 * e + a))), some (.int (nI (8 * e + b))), some (.int (nI c)), none, some (.int (G 92 (8 * e + b))), none, none], [.int 0]) (Ms T G) (pz_is none s) → W158 e (24 * m + l) (Ms T G) (pz_is none s) := fun T s hs => by
    refine pv_158 _ _ _ _ ?_
    rw [cs, Ms_r (a := 64) (by decide), Ms_r (a := 65) (by decide), Ms_r (a := 66) (by decide), Ms_r (a := 67) (by decide), g0, g1, g2, g3, h10, ea, eb, ec, pk_mul, nI_add, nI_add]
    refine ⟨vs, vs, vs, vs, ⟨fun z => absurd z (by decide), fun _ => ⟨fun z => absurd z (by decide), fun _ => ⟨fun z => absurd z (by decide), fun _ => ?_⟩⟩⟩⟩
    refine pv_158_64 _ _ _ _ _ _ _ _ ?_
    rw [ca, cb, Ms_r (a := 92) (by decide)]
    refine ⟨fun _ => ⟨vb, ?_⟩, fun z => absurd rfl z⟩
    exact pv_158_88 _ _ _ _ _ _ _ _ ⟨fun z => absurd z (by decide), fun _ => ⟨fun z => absurd z (by decide), fun _ => hs⟩⟩
  refine pv_45 _ _ σ _ ⟨fun z => absurd z (by decide), fun _ => ⟨fun z => absurd z (by decide), fun _ => ?_⟩⟩
  refine pv_45_17 _ _ _ σ _ (pz_ki (w_locals f1) ?_)
  rw [p1, cs, ea, nI_add]
  refine ⟨vs, pz_ki (w_locals f1) ?_⟩
  rw [p2, p3, eb, ec, nI_add]
  refine ⟨vs, vs, fun _ => ?_, fun z => absurd rfl z⟩
  refine pv_45_76 _ _ _ _ _ _ σ _ ?_
  rw [ca, cb]
  refine ⟨vb, fun z => ?_, fun z => ?_⟩
  · refine rl_ft (f := 3) (by decide) (fun T s hs => pre T s ?_)
    rw [← (floc b hb).2.1, z]
    exact pv_158_131 _ _ _ _ _ _ _ _ _ (pz_ki w_mt3 ⟨fun z => absurd z (by decide), fun _ => pz_kn hs⟩)
  · obtain ⟨y, hy, ey⟩ := (floc b hb).2.2.resolve_left z
    obtain ⟨i1, i2, i3, i4⟩ := qz_i16 (x := y) (p := c) (by omega) c16
    rw [← (floc b hb).2.1, ey] at pre
    rw [ey, i1, i3]
    refine pz_ki (w_hf h hy c16) ⟨fun z5 => rl_ft (f := 5) (by decide) (fun T s hs => pre T s (pv_158_131 _ _ _ _ _ _ _ _ _ (pz_ki ((w_mtF h hy c16 (by decide) T).2 (pz_b_0.mp z5)) ⟨fun z => absurd z (by decide), fun _ => pz_kn hs⟩))), fun z5 => ?_⟩
    have P : -(nI 10) < σ.1 17 y ∧ qz_hs B nt nf (σ.1 17 y) c := Classical.not_not.mp fun q => z5 (pz_b_0.mpr q)
    have k18 : σ.1 18 (16 * y + c) = G 75 (16 * y + c) := w3 _ (by omega)
    refine ⟨fun z => absurd z (by decide), fun _ => ⟨i4, va, ?_⟩, fun z => absurd z (by decide), fun z => absurd z (by decide), trivial⟩
    rintro σ5 rfl
    obtain ⟨F', hF, R, hk⟩ := n_th33 h.1 (σ := pz_up σ 43 (8 * e + a) (σ.1 18 (16 * y + c))) (G := fu G 91 (8 * e + a) (σ.1 18 (16 * y + c))) (rr_num H (8 * e + a) _) (x := y) (p := c) hy (by omega)
    refine pz_kv hF ?_
    refine pz_kq (rl_go (σ1 := (F', σ.2)) h rfl R (congrFun (hk 41 (by decide)) e) (congrFun (hk 42 (by decide)) e) (by rw [nt33_o (by decide) (by decide)]; rfl) (by omega) (fun T => pre T _ (pv_158_131 _ _ _ _ _ _ _ _ _ (pz_ki ((w_mtF h hy c16 (by decide) T).1 P) ?_))))
    rw [i2, i3, ca, cb, ce]
    refine ⟨fun _ => ⟨fun z => absurd z (by decide), fun _ => pz_kv (w_nt33 g49 (by omega) (by omega) _) ⟨i4, va, ?_⟩, fun z => absurd z (by decide), fun z => absurd z (by decide), fun z => absurd z (by decide), fun z => absurd z (by decide), fun z => absurd z (by decide), trivial⟩, fun z => absurd (by decide) z⟩
    rintro σ6 rfl
    refine ⟨ve, ve, ?_⟩
    rintro σ7 rfl
    refine ⟨rfl, ?_⟩
    rw [Ms_r (a := 75) (by decide), nt33_o (y := 75) (by decide) (by decide), ← k18, Ms_u (by decide), Ms_u (by decide), nt33_cm (a := 91) (by decide) (by decide)]
    rfl
theorem w_op11 {σ : pz_Sg} {G : iv_F} (h : rL B nt nf ns nm m0 t1 t0 pb wv e nx dn fl pr m l σ.1 G) (h10 : B 10 (24 * m + l) = nI 11) : pz_WP 45 (0, pz_en 9 [.ref 39, .int (nI (24 * m + l)), .int (nI 11)], []) σ (rP B nt ns nm m0 t1 t0 pb wv e nx dn fl pr (W158 e (24 * m + l)) σ G) := by
  obtain ⟨⟨f1, f2, f3⟩, ⟨f4, f5, f6⟩, ⟨f7, f8, f9, f10⟩, ⟨p0, p1, p2, p3⟩, ⟨g0, g1, g2, g3⟩, floc, b60⟩ := rl h
  obtain ⟨u1, u2, u3⟩ := rl_op h (by decide) h10
  have vs : vp_in (nI (24 * m + l)) 240 := vp_in_nI f6 (by decide)
  have ve : vp_in (nI e) 12 := vp_in_nI f3 (by decide)
  have cs : (nI (24 * m + l)).toNatClampNeg = 24 * m + l := nI_clamp (by omega)
  have ce : (nI e).toNatClampNeg = e := nI_clamp (by omega)
  obtain ⟨a, ha, ea⟩ := vp_in_of (show vp_in (B 11 (24 * m + l)) 8 from u1) (by decide)
  obtain ⟨b, hb, eb⟩ := vp_in_of (show vp_in (B 12 (24 * m + l)) 8 from u2) (by decide)
  have bf := h.1.1.1.2.1
  obtain ⟨u3, u4⟩ := (show vp_in (B 13 (24 * m + l)) nf ∧ B 4 (B 13 (24 * m + l)).toNatClampNeg = 0 from u3)
  obtain ⟨c, hc, ec⟩ := vp_in_of u3 (by omega)
  rw [ec, nI_clamp (by omega)] at u4
  have c16 : c < 16 := by omega
  obtain ⟨-, H, -⟩ := id h
  obtain ⟨a1, ⟨-, -, w3, -, w5, -⟩, -, -, -, ⟨⟨-, g49, g49'⟩, -⟩, -⟩ := id H
  have va : vp_in (nI (8 * e + a)) 96 := vp_in_nI (by omega) (by decide)
  have ca : (nI (8 * e + a)).toNatClampNeg = 8 * e + a := nI_clamp (by omega)
  have vb : vp_in (nI (8 * e + b)) 96 := vp_in_nI (by omega) (by decide)
  have cb : (nI (8 * e + b)).toNatClampNeg = 8 * e + b := nI_clamp (by omega)
  have pre : ∀ T s, pz_WP 158 (131, [some (.ref 55), some (.int (nI e)), none, some (.int (nI 11)), some (.int (nI (8 * e + a))), some (.int (nI (8 * e + b))), some (.int (nI c)), none, some (.int (G 92 (8 * e + a))), none, none], [.int 0]) (Ms T G) (pz_is none s) → W158 e (24 * m + l) (Ms T G) (pz_is none s) := fun T s hs => by
    refine pv_158 _ _ _ _ ?_
    rw [cs, Ms_r (a := 64) (by decide), Ms_r (a := 65) (by decide), Ms_r (a := 66) (by decide), Ms_r (a := 67) (by decide), g0, g1, g2, g3, h10, ea, eb, ec, pk_mul, nI_add, nI_add]
    refine ⟨vs, vs, vs, vs, ⟨fun _ => ?_, fun z => absurd rfl z⟩⟩
    refine pv_158_64 _ _ _ _ _ _ _ _ ?_
    rw [ca, cb, Ms_r (a := 92) (by decide)]
    refine ⟨fun z => absurd z (by decide), fun _ => ⟨va, ?_⟩⟩
    exact pv_158_88 _ _ _ _ _ _ _ _ ⟨fun z => absurd z (by decide), fun _ => ⟨fun z => absurd z (by decide), fun _ => hs⟩⟩
  refine pv_45 _ _ σ _ ⟨fun _ => ?_, fun z => absurd rfl z⟩
  refine pv_45_17 _ _ _ σ _ (pz_ki (w_locals f1) ?_)
  rw [p1, cs, ea, nI_add]
  refine ⟨vs, pz_ki (w_locals f1) ?_⟩
  rw [p2, p3, eb, ec, nI_add]
  refine ⟨vs, vs, fun z => absurd z (by decide), fun _ => ?_⟩
  refine pv_45_76 _ _ _ _ _ _ σ _ ?_
  rw [ca, cb]
  refine ⟨va, fun z => ?_, fun z => ?_⟩
  · refine rl_ft (f := 3) (by decide) (fun T s hs => pre T s ?_)
    rw [← (floc a ha).2.1, z]
    exact pv_158_131 _ _ _ _ _ _ _ _ _ (pz_ki w_mt3 ⟨fun z => absurd z (by decide), fun _ => pz_kn hs⟩)
  · obtain ⟨y, hy, ey⟩ := (floc a ha).2.2.resolve_left z
    obtain ⟨i1, i2, i3, i4⟩ := qz_i16 (x := y) (p := c) (by omega) c16
    rw [← (floc a ha).2.1, ey] at pre
    rw [ey, i1, i3]
    refine pz_ki (w_hf h hy c16) ⟨fun z5 => rl_ft (f := 5) (by decide) (fun T s hs => pre T s (pv_158_131 _ _ _ _ _ _ _ _ _ (pz_ki ((w_mtF h hy c16 (by decide) T).2 (pz_b_0.mp z5)) ⟨fun z => absurd z (by decide), fun _ => pz_kn hs⟩))), fun z5 => ?_⟩
    have P : -(nI 10) < σ.1 17 y ∧ qz_hs B nt nf (σ.1 17 y) c := Classical.not_not.mp fun q => z5 (pz_b_0.mpr q)
    refine ⟨fun z => absurd z (by decide), fun z => absurd z (by decide), fun _ => ⟨vb, i4, ?_⟩, fun z => absurd z (by decide), trivial⟩
    rintro σ5 rfl
    obtain ⟨F', hF, R, hk⟩ := n_th34 h.1 (σ := pz_up σ 18 (16 * y + c) (σ.1 43 (8 * e + b))) (G := fu G 75 (16 * y + c) (σ.1 43 (8 * e + b))) (rr_slot H hy c16 (fun _ _ _ h4 => absurd (u4.symm.trans h4) (by decide))) (x := y) (p := c) hy (by omega)
    refine pz_kv hF ?_
    refine pz_kq (rl_go (σ1 := (F', σ.2)) h rfl R (congrFun (hk 41 (by decide)) e) (congrFun (hk 42 (by decide)) e) (by rw [nt34_o (by decide) (by decide)]; rfl) (by omega) (fun T => pre T _ (pv_158_131 _ _ _ _ _ _ _ _ _ (pz_ki ((w_mtF h hy c16 (by decide) T).1 P) ?_))))
    rw [i2, i3, ca, cb, ce]
    refine ⟨fun _ => ⟨fun z => absurd z (by decide), fun z => absurd z (by decide), fun _ => pz_kv (w_nt34 g49 (by omega) (by omega) _) ⟨vb, i4, ?_⟩, fun z => absurd z (by decide), fun z => absurd z (by decide), fun z => absurd z (by decide), fun z => absurd z (by decide), trivial⟩, fun z => absurd (by decide) z⟩
    rintro σ6 rfl
    refine ⟨ve, ve, ?_⟩
    rintro σ7 rfl
    refine ⟨rfl, ?_⟩
    rw [Ms_r (a := 91) (by decide), nt34_o (y := 91) (by decide) (by decide), ← (floc b hb).1, Ms_u (by decide), Ms_u (by decide), nt34_cm (a := 75) (by decide) (by decide)]
    rfl
theorem w_op12 {σ : pz_Sg} {G : iv_F} (h : rL B nt nf ns nm m0 t1 t0 pb wv e nx dn fl pr m l σ.1 G) (h10 : B 10 (24 * m + l) = nI 12) : pz_WP 45 (0, pz_en 9 [.ref 39, .int (nI (24 * m + l)), .int (nI 12)], []) σ (rP B nt ns nm m0 t1 t0 pb wv e nx dn fl pr (W158 e (24 * m + l)) σ G) := by
  obtain ⟨⟨f1, f2, f3⟩, ⟨f4, f5, f6⟩, ⟨f7, f8, f9, f10⟩, ⟨p0, p1, p2, p3⟩, ⟨g0, g1, g2, g3⟩, floc, b60⟩ := rl h
  obtain ⟨u1, u2, u3⟩ := rl_op h (by decide) h10
  have vs : vp_in (nI (24 * m + l)) 240 := vp_in_nI f6 (by decide)
  have ve : vp_in (nI e) 12 := vp_in_nI f3 (by decide)
  have cs : (nI (24 * m + l)).toNatClampNeg = 24 * m + l := nI_clamp (by omega)
  have ce : (nI e).toNatClampNeg = e := nI_clamp (by omega)
  obtain ⟨a, ha, ea⟩ := vp_in_of (show vp_in (B 11 (24 * m + l)) 8 from u1) (by decide)
  obtain ⟨b, hb, eb⟩ := vp_in_of (show vp_in (B 12 (24 * m + l)) 8 from u2) (by decide)
  have bf := h.1.1.1.2.1
  obtain ⟨u3, u4⟩ := (show vp_in (B 13 (24 * m + l)) nf ∧ B 4 (B 13 (24 * m + l)).toNatClampNeg = 1 from u3)
  obtain ⟨c, hc, ec⟩ := vp_in_of u3 (by omega)
  rw [ec, nI_clamp (by omega)] at u4
  have c16 : c < 16 := by omega
  obtain ⟨-, H, -⟩ := id h
  obtain ⟨a1, ⟨-, -, w3, -, w5, -⟩, -, -, -, ⟨⟨-, g49, g49'⟩, -⟩, -⟩ := id H
  have va : vp_in (nI (8 * e + a)) 96 := vp_in_nI (by omega) (by decide)
  have ca : (nI (8 * e + a)).toNatClampNeg = 8 * e + a := nI_clamp (by omega)
  have vb : vp_in (nI (8 * e + b)) 96 := vp_in_nI (by omega) (by decide)
  have cb : (nI (8 * e + b)).toNatClampNeg = 8 * e + b := nI_clamp (by omega)
  have pre : ∀ T s, pz_WP 158 (131, [some (.ref 55), some (.int (nI e)), none, some (.int (nI 12)), some (.int (nI (8 * e + a))), some (.int (nI (8 * e + b))), some (.int (nI c)), none, some (.int (G 92 (8 * e + b))), none, none], [.int 0]) (Ms T G) (pz_is none s) → W158 e (24 * m + l) (Ms T G) (pz_is none s) := fun T s hs => by
    refine pv_158 _ _ _ _ ?_
    rw [cs, Ms_r (a := 64) (by decide), Ms_r (a := 65) (by decide), Ms_r (a := 66) (by decide), Ms_r (a := 67) (by decide), g0, g1, g2, g3, h10, ea, eb, ec, pk_mul, nI_add, nI_add]
    refine ⟨vs, vs, vs, vs, ⟨fun z => absurd z (by decide), fun _ => ⟨fun z => absurd z (by decide), fun _ => ⟨fun z => absurd z (by decide), fun _ => ?_⟩⟩⟩⟩
    refine pv_158_64 _ _ _ _ _ _ _ _ ?_
    rw [ca, cb, Ms_r (a := 92) (by decide)]
    refine ⟨fun _ => ⟨vb, ?_⟩, fun z => absurd rfl z⟩
    exact pv_158_88 _ _ _ _ _ _ _ _ ⟨fun z => absurd z (by decide), fun _ => ⟨fun z => absurd z (by decide), fun _ => hs⟩⟩
  refine pv_45 _ _ σ _ ⟨fun z => absurd z (by decide), fun _ => ⟨fun z => absurd z (by decide), fun _ => ?_⟩⟩
  refine pv_45_17 _ _ _ σ _ (pz_ki (w_locals f1) ?_)
  rw [p1, cs, ea, nI_add]
  refine ⟨vs, pz_ki (w_locals f1) ?_⟩
  rw [p2, p3, eb, ec, nI_add]
  refine ⟨vs, vs, fun _ => ?_, fun z => absurd rfl z⟩
  refine pv_45_76 _ _ _ _ _ _ σ _ ?_
  rw [ca, cb]
  refine ⟨vb, fun z => ?_, fun z => ?_⟩
  · refine rl_ft (f := 3) (by decide) (fun T s hs => pre T s ?_)
    rw [← (floc b hb).2.1, z]
    exact pv_158_131 _ _ _ _ _ _ _ _ _ (pz_ki w_mt3 ⟨fun z => absurd z (by decide), fun _ => pz_kn hs⟩)
  · obtain ⟨y, hy, ey⟩ := (floc b hb).2.2.resolve_left z
    obtain ⟨i1, i2, i3, i4⟩ := qz_i16 (x := y) (p := c) (by omega) c16
    rw [← (floc b hb).2.1, ey] at pre
    rw [ey, i1, i3]
    refine pz_ki (w_hf h hy c16) ⟨fun z5 => rl_ft (f := 5) (by decide) (fun T s hs => pre T s (pv_158_131 _ _ _ _ _ _ _ _ _ (pz_ki ((w_mtF h hy c16 (by decide) T).2 (pz_b_0.mp z5)) ⟨fun z => absurd z (by decide), fun _ => pz_kn hs⟩))), fun z5 => ?_⟩
    have P : -(nI 10) < σ.1 17 y ∧ qz_hs B nt nf (σ.1 17 y) c := Classical.not_not.mp fun q => z5 (pz_b_0.mpr q)
    have k18 : σ.1 18 (16 * y + c) = G 75 (16 * y + c) := w3 _ (by omega)
    have hrv : iv_rv nx (σ.1 18 (16 * y + c)) := by
      obtain ⟨t, ht, et, bt⟩ := rl_pf h.1 c16 P
      exact w5 y hy t ht et c c16 ((congrFun (rKn a1 4 (by decide) rfl) c).trans u4) (show iv_bt (σ.1 3 t) c by rw [rKn a1 3 (by decide) rfl]; exact bt)
    refine ⟨fun z => absurd z (by decide), fun z => absurd z (by decide), fun z => absurd z (by decide), fun _ => ⟨i4, va, ?_⟩, trivial⟩
    rintro σ5 rfl
    obtain ⟨F', hF, R, hk⟩ := n_th33 h.1 (σ := pz_up σ 44 (8 * e + a) (σ.1 18 (16 * y + c))) (G := fu G 92 (8 * e + a) (σ.1 18 (16 * y + c))) (rr_ref H (8 * e + a) hrv) (x := y) (p := c) hy (by omega)
    refine pz_kv hF ?_
    refine pz_kq (rl_go (σ1 := (F', σ.2)) h rfl R (congrFun (hk 41 (by decide)) e) (congrFun (hk 42 (by decide)) e) (by rw [nt33_o (by decide) (by decide)]; rfl) (by omega) (fun T => pre T _ (pv_158_131 _ _ _ _ _ _ _ _ _ (pz_ki ((w_mtF h hy c16 (by decide) T).1 P) ?_))))
    rw [i2, i3, ca, cb, ce]
    refine ⟨fun _ => ⟨fun z => absurd z (by decide), fun z => absurd z (by decide), fun z => absurd z (by decide), fun _ => pz_kv (w_nt33 g49 (by omega) (by omega) _) ⟨i4, va, ?_⟩, fun z => absurd z (by decide), fun z => absurd z (by decide), fun z => absurd z (by decide), trivial⟩, fun z => absurd (by decide) z⟩
    rintro σ6 rfl
    refine ⟨ve, ve, ?_⟩
    rintro σ7 rfl
    refine ⟨rfl, ?_⟩
    rw [Ms_r (a := 75) (by decide), nt33_o (y := 75) (by decide) (by decide), ← k18, Ms_u (by decide), Ms_u (by decide), nt33_cm (a := 92) (by decide) (by decide)]
    rfl
theorem w_op13 {σ : pz_Sg} {G : iv_F} (h : rL B nt nf ns nm m0 t1 t0 pb wv e nx dn fl pr m l σ.1 G) (h10 : B 10 (24 * m + l) = nI 13) : pz_WP 45 (0, pz_en 9 [.ref 39, .int (nI (24 * m + l)), .int (nI 13)], []) σ (rP B nt ns nm m0 t1 t0 pb wv e nx dn fl pr (W158 e (24 * m + l)) σ G) := by
  obtain ⟨⟨f1, f2, f3⟩, ⟨f4, f5, f6⟩, ⟨f7, f8, f9, f10⟩, ⟨p0, p1, p2, p3⟩, ⟨g0, g1, g2, g3⟩, floc, b60⟩ := rl h
  obtain ⟨u1, u2, u3⟩ := rl_op h (by decide) h10
  have vs : vp_in (nI (24 * m + l)) 240 := vp_in_nI f6 (by decide)
  have ve : vp_in (nI e) 12 := vp_in_nI f3 (by decide)
  have cs : (nI (24 * m + l)).toNatClampNeg = 24 * m + l := nI_clamp (by omega)
  have ce : (nI e).toNatClampNeg = e := nI_clamp (by omega)
  obtain ⟨a, ha, ea⟩ := vp_in_of (show vp_in (B 11 (24 * m + l)) 8 from u1) (by decide)
  obtain ⟨b, hb, eb⟩ := vp_in_of (show vp_in (B 12 (24 * m + l)) 8 from u2) (by decide)
  have bf := h.1.1.1.2.1
  obtain ⟨u3, u4⟩ := (show vp_in (B 13 (24 * m + l)) nf ∧ B 4 (B 13 (24 * m + l)).toNatClampNeg = 1 from u3)
  obtain ⟨c, hc, ec⟩ := vp_in_of u3 (by omega)
  rw [ec, nI_clamp (by omega)] at u4
  have c16 : c < 16 := by omega
  obtain ⟨-, H, -⟩ := id h
  obtain ⟨a1, ⟨-, -, w3, -, w5, -⟩, -, -, -, ⟨⟨-, g49, g49'⟩, -⟩, -⟩ := id H
  have va : vp_in (nI (8 * e + a)) 96 := vp_in_nI (by omega) (by decide)
  have ca : (nI (8 * e + a)).toNatClampNeg = 8 * e + a := nI_clamp (by omega)
  have vb : vp_in (nI (8 * e + b)) 96 := vp_in_nI (by omega) (by decide)
  have cb : (nI (8 * e + b)).toNatClampNeg = 8 * e + b := nI_clamp (by omega)
  have pre : ∀ T s, pz_WP 158 (131, [some (.ref 55), some (.int (nI e)), none, some (.int (nI 13)), some (.int (nI (8 * e + a))), some (.int (nI (8 * e + b))), some (.int (nI c)), none, some (.int (G 92 (8 * e + a))), none, none], [.int 0]) (Ms T G) (pz_is none s) → W158 e (24 * m + l) (Ms T G) (pz_is none s) := fun T s hs => by
    refine pv_158 _ _ _ _ ?_
    rw [cs, Ms_r (a := 64) (by decide), Ms_r (a := 65) (by decide), Ms_r (a := 66) (by decide), Ms_r (a := 67) (by decide), g0, g1, g2, g3, h10, ea, eb, ec, pk_mul, nI_add, nI_add]
    refine ⟨vs, vs, vs, vs, ⟨fun z => absurd z (by decide), fun _ => ⟨fun _ => ?_, fun z => absurd rfl z⟩⟩⟩
    refine pv_158_64 _ _ _ _ _ _ _ _ ?_
    rw [ca, cb, Ms_r (a := 92) (by decide)]
    refine ⟨fun z => absurd z (by decide), fun _ => ⟨va, ?_⟩⟩
    exact pv_158_88 _ _ _ _ _ _ _ _ ⟨fun z => absurd z (by decide), fun _ => ⟨fun z => absurd z (by decide), fun _ => hs⟩⟩
  refine pv_45 _ _ σ _ ⟨fun z => absurd z (by decide), fun _ => ⟨fun _ => ?_, fun z => absurd rfl z⟩⟩
  refine pv_45_17 _ _ _ σ _ (pz_ki (w_locals f1) ?_)
  rw [p1, cs, ea, nI_add]
  refine ⟨vs, pz_ki (w_locals f1) ?_⟩
  rw [p2, p3, eb, ec, nI_add]
  refine ⟨vs, vs, fun z => absurd z (by decide), fun _ => ?_⟩
  refine pv_45_76 _ _ _ _ _ _ σ _ ?_
  rw [ca, cb]
  refine ⟨va, fun z => ?_, fun z => ?_⟩
  · refine rl_ft (f := 3) (by decide) (fun T s hs => pre T s ?_)
    rw [← (floc a ha).2.1, z]
    exact pv_158_131 _ _ _ _ _ _ _ _ _ (pz_ki w_mt3 ⟨fun z => absurd z (by decide), fun _ => pz_kn hs⟩)
  · obtain ⟨y, hy, ey⟩ := (floc a ha).2.2.resolve_left z
    obtain ⟨i1, i2, i3, i4⟩ := qz_i16 (x := y) (p := c) (by omega) c16
    rw [← (floc a ha).2.1, ey] at pre
    rw [ey, i1, i3]
    refine pz_ki (w_hf h hy c16) ⟨fun z5 => rl_ft (f := 5) (by decide) (fun T s hs => pre T s (pv_158_131 _ _ _ _ _ _ _ _ _ (pz_ki ((w_mtF h hy c16 (by decide) T).2 (pz_b_0.mp z5)) ⟨fun z => absurd z (by decide), fun _ => pz_kn hs⟩))), fun z5 => ?_⟩
    have P : -(nI 10) < σ.1 17 y ∧ qz_hs B nt nf (σ.1 17 y) c := Classical.not_not.mp fun q => z5 (pz_b_0.mpr q)
    refine ⟨fun _ => ⟨vb, i4, ?_⟩, fun z => absurd z (by decide), fun z => absurd z (by decide), fun z => absurd z (by decide), trivial⟩
    rintro σ5 rfl
    obtain ⟨F', hF, R, hk⟩ := n_th34 h.1 (σ := pz_up σ 18 (16 * y + c) (σ.1 44 (8 * e + b))) (G := fu G 75 (16 * y + c) (σ.1 44 (8 * e + b))) (rr_slot H hy c16 (fun _ _ _ _ => (floc b hb).2.2)) (x := y) (p := c) hy (by omega)
    refine pz_kv hF ?_
    refine pz_kq (rl_go (σ1 := (F', σ.2)) h rfl R (congrFun (hk 41 (by decide)) e) (congrFun (hk 42 (by decide)) e) (by rw [nt34_o (by decide) (by decide)]; rfl) (by omega) (fun T => pre T _ (pv_158_131 _ _ _ _ _ _ _ _ _ (pz_ki ((w_mtF h hy c16 (by decide) T).1 P) ?_))))
    rw [i2, i3, ca, cb, ce]
    refine ⟨fun _ => ⟨fun z => absurd z (by decide), fun z => absurd z (by decide), fun z => absurd z (by decide), fun z => absurd z (by decide), fun _ => pz_kv (w_nt34 g49 (by omega) (by omega) _) ⟨vb, i4, ?_⟩, fun z => absurd z (by decide), fun z => absurd z (by decide), trivial⟩, fun z => absurd (by decide) z⟩
    rintro σ6 rfl
    refine ⟨ve, ve, ?_⟩
    rintro σ7 rfl
    refine ⟨rfl, ?_⟩
    rw [Ms_r (a := 92) (by decide), nt34_o (y := 92) (by decide) (by decide), ← (floc b hb).2.1, Ms_u (by decide), Ms_u (by decide), nt34_cm (a := 75) (by decide) (by decide)]
    rfl
end
