section
variable {B : iv_F} {nt nf ns nm m0 t1 t0 pb : Nat} {wv : Int32} {e nx dn fl pr m l : Nat}
/-- a THING that is an array, or is none -/
theorem rl_ar {F G : iv_F} (h : rL B nt nf ns nm m0 t1 t0 pb wv e nx dn fl pr m l F G) {y : Nat} (hy : y < nx) : (-(nI 10) < F 17 y ∧ ¬ G 73 y < 0) ∨ (¬ -(nI 10) < F 17 y ∧ G 73 y < 0 ∧ ∃ n, n ≤ 16 ∧ -(nI 10) - F 17 y = nI n ∧ G 74 y = nI n) := by
  rcases rl_th h hy with ⟨t, ht, e1, e2, -⟩ | ⟨n, hn, e1, e2, e3⟩
  · have := h.1.1.1.1
    rw [e1, e2]
    exact Or.inl ⟨qz_nar t (by omega), nI_pos (by omega)⟩
  · rw [e1, e2, e3]
    obtain ⟨q1, q2, q3, q4⟩ := qz_k10 n (by omega)
    exact Or.inr ⟨q4, by decide, n, hn, q3, rfl⟩
theorem w_mtA {G : iv_F} {T : pz_Sg} {y : Nat} {o c i : Int32} (hy : y < 60) (ho : o = nI 14 ∨ o = nI 15 ∨ o = nI 20) {P : pz_Ps} (h5 : ¬ G 73 y < 0 → P (some (.int (nI 5))) (Ms T G)) (h68 : G 73 y < 0 → pz_WP 156 (68, [some (.ref 55), some (.int (nI y)), some (.int o), none, some (.int i), some (.int 1)], []) (Ms T G) P) : pz_WP 156 (0, pz_en 6 [.ref 55, .int (nI y), .int o, .int c, .int i], []) (Ms T G) P := by
  have vy : vp_in (nI y) 60 := vp_in_nI hy (by decide)
  have c73 : (Ms T G).1 73 (nI y).toNatClampNeg = G 73 y := by rw [nI_clamp (by omega)]; rfl
  have L : pz_WP 156 (29, [some (.ref 55), some (.int (nI y)), some (.int o), some (.int c), some (.int i), none], [.int 1]) (Ms T G) P := by
    refine pv_156_29 _ _ _ _ _ _ _ ⟨fun z => absurd z (by decide), fun _ => ?_⟩
    rw [c73]
    exact ⟨vy, h68, h5⟩
  exact pv_156 _ _ _ _ _ _ ⟨fun _ => ⟨fun _ => L, fun z14 => ⟨fun _ => L, fun z15 => ⟨fun _ => L, fun z20 => (ho.elim z14 (fun q => q.elim z15 z20)).elim⟩⟩⟩, fun z => absurd (nI_pos' (by omega)) z⟩
theorem w_mt68 {G : iv_F} {T : pz_Sg} {y n : Nat} {o i : Int32} (hy : y < 60) (ho : ¬ o = nI 20) (hn : n ≤ 16) (h74 : G 74 y = nI n) : (vp_in i n → pz_WP 156 (68, [some (.ref 55), some (.int (nI y)), some (.int o), none, some (.int i), some (.int 1)], []) (Ms T G) (pz_is (some (.int 0)) (Ms T G))) ∧ (¬ vp_in i n → pz_WP 156 (68, [some (.ref 55), some (.int (nI y)), some (.int o), none, some (.int i), some (.int 1)], []) (Ms T G) (pz_is (some (.int (nI 4))) (Ms T G))) := by
  have vy : vp_in (nI y) 60 := vp_in_nI hy (by decide)
  have c74 : (Ms T G).1 74 (nI y).toNatClampNeg = nI n := by rw [nI_clamp (by omega)]; exact h74
  have hb := pz_byn (x := i) (y := nI n) rfl (by omega)
  constructor
  · intro q
    refine pv_156_68 _ _ _ _ _ _ ⟨fun z => absurd z (by decide), fun _ => ⟨fun z => absurd z ho, fun _ => ?_⟩⟩
    rw [c74]
    exact ⟨vy, pz_ki (w_beyond _ _ _ _) ⟨fun _ => ⟨rfl, rfl⟩, fun z => absurd (pz_b_f fun k => hb.mp k q) z⟩⟩
  · intro q
    refine pv_156_68 _ _ _ _ _ _ ⟨fun z => absurd z (by decide), fun _ => ⟨fun z => absurd z ho, fun _ => ?_⟩⟩
    rw [c74]
    exact ⟨vy, pz_ki (w_beyond _ _ _ _) ⟨fun z => absurd (hb.mpr q) (pz_b_0.mp z), fun _ => ⟨rfl, rfl⟩⟩⟩
theorem w_op14 {σ : pz_Sg} {G : iv_F} (h : rL B nt nf ns nm m0 t1 t0 pb wv e nx dn fl pr m l σ.1 G) (h10 : B 10 (24 * m + l) = nI 14) : pz_WP 46 (0, pz_en 9 [.ref 39, .int (nI (24 * m + l)), .int (nI 14)], []) σ (rP B nt ns nm m0 t1 t0 pb wv e nx dn fl pr (W158 e (24 * m + l)) σ G) := by
  obtain ⟨⟨f1, f2, f3⟩, ⟨f4, f5, f6⟩, ⟨f7, f8, f9, f10⟩, ⟨p0, p1, p2, p3⟩, ⟨g0, g1, g2, g3⟩, floc, b60⟩ := rl h
  obtain ⟨u1, u2, u3⟩ := rl_op h (by decide) h10
  have vs : vp_in (nI (24 * m + l)) 240 := vp_in_nI f6 (by decide)
  have ve : vp_in (nI e) 12 := vp_in_nI f3 (by decide)
  have cs : (nI (24 * m + l)).toNatClampNeg = 24 * m + l := nI_clamp (by omega)
  have ce : (nI e).toNatClampNeg = e := nI_clamp (by omega)
  obtain ⟨a, ha, ea⟩ := vp_in_of (show vp_in (B 11 (24 * m + l)) 8 from u1) (by decide)
  obtain ⟨b, hb, eb⟩ := vp_in_of (show vp_in (B 12 (24 * m + l)) 8 from u2) (by decide)
  obtain ⟨c, hc, ec⟩ := vp_in_of (show vp_in (B 13 (24 * m + l)) 8 from u3) (by decide)
  obtain ⟨-, H, -⟩ := id h
  obtain ⟨a1, ⟨-, -, w3, -, w5, -⟩, -, -, -, ⟨⟨-, g49, g49'⟩, -⟩, -⟩ := id H
  have va : vp_in (nI (8 * e + a)) 96 := vp_in_nI (by omega) (by decide)
  have ca : (nI (8 * e + a)).toNatClampNeg = 8 * e + a := nI_clamp (by omega)
  have vb : vp_in (nI (8 * e + b)) 96 := vp_in_nI (by omega) (by decide)
  have cb : (nI (8 * e + b)).toNatClampNeg = 8 * e + b := nI_clamp (by omega)
  have vc : vp_in (nI (8 * e + c)) 96 := vp_in_nI (by omega) (by decide)
  have cc : (nI (8 * e + c)).toNatClampNeg = 8 * e + c := nI_clamp (by omega)
  have pre : ∀ T s, pz_WP 158 (131, [some (.ref 55), some (.int (nI e)), none, some (.int (nI 14)), some (.int (nI (8 * e + a))), some (.int (nI (8 * e + b))), some (.int (nI c)), none, some (.int (G 92 (8 * e + b))), none, none], [.int (G 91 (8 * e + c))]) (Ms T G) (pz_is none s) → W158 e (24 * m + l) (Ms T G) (pz_is none s) := fun T s hs => by
    refine pv_158 _ _ _ _ ?_
    rw [cs, Ms_r (a := 64) (by decide), Ms_r (a := 65) (by decide), Ms_r (a := 66) (by decide), Ms_r (a := 67) (by decide), g0, g1, g2, g3, h10, ea, eb, ec, pk_mul, nI_add, nI_add]
    refine ⟨vs, vs, vs, vs, ⟨fun z => absurd z (by decide), fun _ => ⟨fun z => absurd z (by decide), fun _ => ⟨fun z => absurd z (by decide), fun _ => ?_⟩⟩⟩⟩
    refine pv_158_64 _ _ _ _ _ _ _ _ ?_
    rw [ca, cb, Ms_r (a := 92) (by decide)]
    refine ⟨fun _ => ⟨vb, ?_⟩, fun z => absurd rfl z⟩
    refine pv_158_88 _ _ _ _ _ _ _ _ ?_
    rw [nI_a7 c hc, pk_mul, nI_add, cb, cc, Ms_r (a := 91) (by decide)]
    exact ⟨fun _ => ⟨vc, hs⟩, fun z => absurd rfl z⟩
  rw [← (floc c hc).1] at pre
  refine pv_46 _ _ σ _ ⟨fun z => absurd z (by decide), fun _ => ?_⟩
  refine pv_46_11 _ _ σ _ ?_
  rw [p1, p2, cs, ea, eb]
  refine ⟨vs, vs, pz_ki (w_locals f1) ?_⟩
  rw [p3, ec, nI_add]
  refine ⟨vs, pz_ki (w_locals f1) ⟨fun _ => ?_, fun z => absurd rfl z⟩⟩
  refine pv_46_69 _ _ _ _ _ _ σ _ ?_
  rw [nI_add, cb]
  refine ⟨vb, fun z => ?_, fun z => ?_⟩
  · refine rl_ft (f := 3) (by decide) (fun T s hs => pre T s ?_)
    rw [← (floc b hb).2.1, z]
    exact pv_158_131 _ _ _ _ _ _ _ _ _ (pz_ki w_mt3 ⟨fun z => absurd z (by decide), fun _ => pz_kn hs⟩)
  · obtain ⟨y, hy, ey⟩ := (floc b hb).2.2.resolve_left z
    rw [← (floc b hb).2.1, ey] at pre
    rw [ey]
    have hy6 : y < 60 := by omega
    have vy : vp_in (nI y) 60 := vp_in_nI hy6 (by decide)
    refine pz_ki (w_isArray hy6) ⟨fun z5 => ?_, fun z5 => ?_⟩
    · have k73 : ¬ G 73 y < 0 := by
        rcases rl_ar h hy with q | q
        · exact q.2
        · exact absurd q.1 (pz_b_0.mp z5)
      exact rl_ft (f := 5) (by decide) (fun T s hs => pre T s (pv_158_131 _ _ _ _ _ _ _ _ _ (pz_ki (w_mtA hy6 (by decide) (fun _ => ⟨rfl, rfl⟩) (fun z => absurd z k73)) ⟨fun z => absurd z (by decide), fun _ => pz_kn hs⟩)))
    · have kar : ¬ -(nI 10) < σ.1 17 y := Classical.not_not.mp fun q => z5 (pz_b_0.mpr q)
      obtain ⟨-, k73, n, hn, en, e74⟩ := (rl_ar h hy).resolve_left (fun q => kar q.1)
      have out : ¬ vp_in (σ.1 43 (8 * e + c)) n → rP B nt ns nm m0 t1 t0 pb wv e nx dn fl pr (W158 e (24 * m + l)) σ G (some (.int (nI 4))) σ := fun q => rl_ft (f := 4) (by decide) (fun T s hs => pre T s (pv_158_131 _ _ _ _ _ _ _ _ _ (pz_ki (w_mtA hy6 (by decide) (fun z => absurd k73 z) (fun _ => (w_mt68 hy6 (by decide) hn e74).2 q)) ⟨fun z => absurd z (by decide), fun _ => pz_kn hs⟩)))
      have L115 : pz_WP 46 (115, [some (.ref 39), none, none, some (.int 0), some (.int (nI a)), none, some (.int (nI (8 * e + c))), some (.int (nI y)), none], [.int (nI (8 * e + c)), .ref 43]) σ (rP B nt ns nm m0 t1 t0 pb wv e nx dn fl pr (W158 e (24 * m + l)) σ G) := by
        refine pv_46_115 _ _ _ _ _ σ _ ?_
        rw [cc]
        refine ⟨vc, fun z => out fun q => absurd z (by obtain ⟨j, hj, ej⟩ := vp_in_of q (by omega); rw [ej]; exact nI_pos (by omega)), fun z0 => pz_ki (w_itemsOf hy6) ?_⟩
        rw [en]
        obtain ⟨i, hi, ei⟩ := nI_of z0
        rw [ei] at pre out
        rw [ei]
        refine ⟨fun zl => ?_, fun zl => out fun q => zl (nI_lt (by obtain ⟨j, hj, ej⟩ := vp_in_of q (by omega); have := (nI_eq hi (by omega)).mp ej; omega) (by omega))⟩
        have hin : i < n := (nI_ltI hi (by omega)).mp zl
        have i16 : i < 16 := by omega
        obtain ⟨i1, i2, i3, i4⟩ := qz_i16 (x := y) (p := i) (by omega) i16
        rw [i1, i3]
        have k18 : σ.1 18 (16 * y + i) = G 75 (16 * y + i) := w3 _ (by omega)
        refine ⟨fun _ => pz_ki (w_locals f1) ?_, fun z => absurd rfl z⟩
        rw [nI_add, ca]
        refine ⟨i4, va, ?_⟩
        rintro σ6 rfl
        obtain ⟨F', hF, R, hk⟩ := n_th33 h.1 (σ := pz_up σ 43 (8 * e + a) (σ.1 18 (16 * y + i))) (G := fu G 91 (8 * e + a) (σ.1 18 (16 * y + i))) (rr_num H (8 * e + a) _) (x := y) (p := 24) hy (by omega)
        refine pz_kv hF ?_
        refine pz_kq (rl_go (σ1 := (F', σ.2)) h rfl R (congrFun (hk 41 (by decide)) e) (congrFun (hk 42 (by decide)) e) (by rw [nt33_o (by decide) (by decide)]; rfl) (by omega) (fun T => pre T _ (pv_158_131 _ _ _ _ _ _ _ _ _ (pz_ki (w_mtA hy6 (by decide) (fun z => absurd k73 z) (fun _ => (w_mt68 hy6 (by decide) hn e74).1 (vp_in_nI hin (by omega)))) ?_))))
        rw [i2, i3, ca, ce]
        refine ⟨fun _ => ⟨fun z => absurd z (by decide), fun z => absurd z (by decide), fun z => absurd z (by decide), fun z => absurd z (by decide), fun z => absurd z (by decide), fun _ => pz_kv (w_nt33 g49 (by omega) (by omega) _) ⟨i4, va, ?_⟩, fun z => absurd z (by decide), trivial⟩, fun z => absurd (by decide) z⟩
        rintro σ7 rfl
        refine ⟨ve, ve, ?_⟩
        rintro σ8 rfl
        refine ⟨rfl, ?_⟩
        rw [Ms_r (a := 75) (by decide), nt33_o (y := 75) (by decide) (by decide), ← k18, Ms_u (by decide), Ms_u (by decide), nt33_cm (a := 91) (by decide) (by decide)]
        rfl
      exact ⟨fun _ => L115, fun z => absurd rfl z⟩
theorem w_op15 {σ : pz_Sg} {G : iv_F} (h : rL B nt nf ns nm m0 t1 t0 pb wv e nx dn fl pr m l σ.1 G) (h10 : B 10 (24 * m + l) = nI 15) : pz_WP 46 (0, pz_en 9 [.ref 39, .int (nI (24 * m + l)), .int (nI 15)], []) σ (rP B nt ns nm m0 t1 t0 pb wv e nx dn fl pr (W158 e (24 * m + l)) σ G) := by
  obtain ⟨⟨f1, f2, f3⟩, ⟨f4, f5, f6⟩, ⟨f7, f8, f9, f10⟩, ⟨p0, p1, p2, p3⟩, ⟨g0, g1, g2, g3⟩, floc, b60⟩ := rl h
  obtain ⟨u1, u2, u3⟩ := rl_op h (by decide) h10
  have vs : vp_in (nI (24 * m + l)) 240 := vp_in_nI f6 (by decide)
  have ve : vp_in (nI e) 12 := vp_in_nI f3 (by decide)
  have cs : (nI (24 * m + l)).toNatClampNeg = 24 * m + l := nI_clamp (by omega)
  have ce : (nI e).toNatClampNeg = e := nI_clamp (by omega)
  obtain ⟨a, ha, ea⟩ := vp_in_of (show vp_in (B 11 (24 * m + l)) 8 from u1) (by decide)
  obtain ⟨b, hb, eb⟩ := vp_in_of (show vp_in (B 12 (24 * m + l)) 8 from u2) (by decide)
  obtain ⟨c, hc, ec⟩ := vp_in_of (show vp_in (B 13 (24 * m + l)) 8 from u3) (by decide)
  obtain ⟨-, H, -⟩ := id h
  obtain ⟨a1, ⟨-, -, w3, -, w5, -⟩, -, -, -, ⟨⟨-, g49, g49'⟩, -⟩, -⟩ := id H
  have va : vp_in (nI (8 * e + a)) 96 := vp_in_nI (by omega) (by decide)
  have ca : (nI (8 * e + a)).toNatClampNeg = 8 * e + a := nI_clamp (by omega)
  have vb : vp_in (nI (8 * e + b)) 96 := vp_in_nI (by omega) (by decide)
  have cb : (nI (8 * e + b)).toNatClampNeg = 8 * e + b := nI_clamp (by omega)
  have vc : vp_in (nI (8 * e + c)) 96 := vp_in_nI (by omega) (by decide)
  have cc : (nI (8 * e + c)).toNatClampNeg = 8 * e + c := nI_clamp (by omega)
  have pre : ∀ T s, pz_WP 158 (131, [some (.ref 55), some (.int (nI e)), none, some (.int (nI 15)), some (.int (nI (8 * e + a))), some (.int (nI (8 * e + b))), some (.int (nI c)), none, some (.int (G 92 (8 * e + a))), none, none], [.int (G 91 (8 * e + b))]) (Ms T G) (pz_is none s) → W158 e (24 * m + l) (Ms T G) (pz_is none s) := fun T s hs => by
    refine pv_158 _ _ _ _ ?_
    rw [cs, Ms_r (a := 64) (by decide), Ms_r (a := 65) (by decide), Ms_r (a := 66) (by decide), Ms_r (a := 67) (by decide), g0, g1, g2, g3, h10, ea, eb, ec, pk_mul, nI_add, nI_add]
    refine ⟨vs, vs, vs, vs, ⟨fun z => absurd z (by decide), fun _ => ⟨fun z => absurd z (by decide), fun _ => ⟨fun _ => ?_, fun z => absurd rfl z⟩⟩⟩⟩
    refine pv_158_64 _ _ _ _ _ _ _ _ ?_
    rw [ca, cb, Ms_r (a := 92) (by decide)]
    refine ⟨fun z => absurd z (by decide), fun _ => ⟨va, ?_⟩⟩
    refine pv_158_88 _ _ _ _ _ _ _ _ ?_
    rw [nI_a7 c hc, pk_mul, nI_add, cb, cc, Ms_r (a := 91) (by decide)]
    exact ⟨fun z => absurd z (by decide), fun _ => ⟨fun _ => ⟨vb, hs⟩, fun z => absurd rfl z⟩⟩
  rw [← (floc b hb).1] at pre
  refine pv_46 _ _ σ _ ⟨fun _ => ?_, fun z => absurd rfl z⟩
  refine pv_46_11 _ _ σ _ ?_
  rw [p1, p2, cs, ea, eb]
  refine ⟨vs, vs, pz_ki (w_locals f1) ?_⟩
  rw [p3, ec, nI_add]
  refine ⟨vs, pz_ki (w_locals f1) ⟨fun z => absurd z (by decide), fun _ => ?_⟩⟩
  refine pv_46_69 _ _ _ _ _ _ σ _ ?_
  rw [nI_add, ca]
  refine ⟨va, fun z => ?_, fun z => ?_⟩
  · refine rl_ft (f := 3) (by decide) (fun T s hs => pre T s ?_)
    rw [← (floc a ha).2.1, z]
    exact pv_158_131 _ _ _ _ _ _ _ _ _ (pz_ki w_mt3 ⟨fun z => absurd z (by decide), fun _ => pz_kn hs⟩)
  · obtain ⟨y, hy, ey⟩ := (floc a ha).2.2.resolve_left z
    rw [← (floc a ha).2.1, ey] at pre
    rw [ey]
    have hy6 : y < 60 := by omega
    have vy : vp_in (nI y) 60 := vp_in_nI hy6 (by decide)
    refine pz_ki (w_isArray hy6) ⟨fun z5 => ?_, fun z5 => ?_⟩
    · have k73 : ¬ G 73 y < 0 := by
        rcases rl_ar h hy with q | q
        · exact q.2
        · exact absurd q.1 (pz_b_0.mp z5)
      exact rl_ft (f := 5) (by decide) (fun T s hs => pre T s (pv_158_131 _ _ _ _ _ _ _ _ _ (pz_ki (w_mtA hy6 (by decide) (fun _ => ⟨rfl, rfl⟩) (fun z => absurd z k73)) ⟨fun z => absurd z (by decide), fun _ => pz_kn hs⟩)))
    · have kar : ¬ -(nI 10) < σ.1 17 y := Classical.not_not.mp fun q => z5 (pz_b_0.mpr q)
      obtain ⟨-, k73, n, hn, en, e74⟩ := (rl_ar h hy).resolve_left (fun q => kar q.1)
      have out : ¬ vp_in (σ.1 43 (8 * e + b)) n → rP B nt ns nm m0 t1 t0 pb wv e nx dn fl pr (W158 e (24 * m + l)) σ G (some (.int (nI 4))) σ := fun q => rl_ft (f := 4) (by decide) (fun T s hs => pre T s (pv_158_131 _ _ _ _ _ _ _ _ _ (pz_ki (w_mtA hy6 (by decide) (fun z => absurd k73 z) (fun _ => (w_mt68 hy6 (by decide) hn e74).2 q)) ⟨fun z => absurd z (by decide), fun _ => pz_kn hs⟩)))
      have L115 : pz_WP 46 (115, [some (.ref 39), none, none, some (.int 1), some (.int (nI a)), none, some (.int (nI (8 * e + c))), some (.int (nI y)), none], [.int (nI (8 * e + b)), .ref 43]) σ (rP B nt ns nm m0 t1 t0 pb wv e nx dn fl pr (W158 e (24 * m + l)) σ G) := by
        refine pv_46_115 _ _ _ _ _ σ _ ?_
        rw [cb]
        refine ⟨vb, fun z => out fun q => absurd z (by obtain ⟨j, hj, ej⟩ := vp_in_of q (by omega); rw [ej]; exact nI_pos (by omega)), fun z0 => pz_ki (w_itemsOf hy6) ?_⟩
        rw [en]
        obtain ⟨i, hi, ei⟩ := nI_of z0
        rw [ei] at pre out
        rw [ei]
        refine ⟨fun zl => ?_, fun zl => out fun q => zl (nI_lt (by obtain ⟨j, hj, ej⟩ := vp_in_of q (by omega); have := (nI_eq hi (by omega)).mp ej; omega) (by omega))⟩
        have hin : i < n := (nI_ltI hi (by omega)).mp zl
        have i16 : i < 16 := by omega
        obtain ⟨i1, i2, i3, i4⟩ := qz_i16 (x := y) (p := i) (by omega) i16
        rw [i1, i3]
        refine ⟨fun z => absurd z (by decide), fun _ => ?_⟩
        rw [cc]
        refine ⟨vc, i4, ?_⟩
        rintro σ6 rfl
        obtain ⟨F', hF, R, hk⟩ := n_th34 h.1 (σ := pz_up σ 18 (16 * y + i) (σ.1 43 (8 * e + c))) (G := fu G 75 (16 * y + i) (σ.1 43 (8 * e + c))) (rr_slot H hy i16 (fun t ht et _ => absurd (by rw [et]; exact qz_nar t (by have := h.1.1.1.1; omega)) kar)) (x := y) (p := 24) hy (by omega)
        refine pz_kv hF ?_
        refine pz_kq (rl_go (σ1 := (F', σ.2)) h rfl R (congrFun (hk 41 (by decide)) e) (congrFun (hk 42 (by decide)) e) (by rw [nt34_o (by decide) (by decide)]; rfl) (by omega) (fun T => pre T _ (pv_158_131 _ _ _ _ _ _ _ _ _ (pz_ki (w_mtA hy6 (by decide) (fun z => absurd k73 z) (fun _ => (w_mt68 hy6 (by decide) hn e74).1 (vp_in_nI hin (by omega)))) ?_))))
        rw [i2, i3, ca, ce, show nI 8 * nI e + nI c = nI (8 * e + c) by rw [pk_mul, nI_add], cc]
        refine ⟨fun _ => ⟨fun z => absurd z (by decide), fun z => absurd z (by decide), fun z => absurd z (by decide), fun z => absurd z (by decide), fun z => absurd z (by decide), fun z => absurd z (by decide), fun _ => pz_kv (w_nt34 g49 (by omega) (by omega) _) ⟨vc, i4, ?_⟩, trivial⟩, fun z => absurd (by decide) z⟩
        rintro σ7 rfl
        refine ⟨ve, ve, ?_⟩
        rintro σ8 rfl
        refine ⟨rfl, ?_⟩
        rw [Ms_r (a := 91) (by decide), nt34_o (y := 91) (by decide) (by decide), ← (floc c hc).1, Ms_u (by decide), Ms_u (by decide), nt34_cm (a := 75) (by decide) (by decide)]
        rfl
      refine ⟨fun z => absurd z (by decide), fun _ => pz_ki (w_locals f1) ?_⟩
      rw [nI_add]
      exact L115
theorem w_op20 {σ : pz_Sg} {G : iv_F} (h : rL B nt nf ns nm m0 t1 t0 pb wv e nx dn fl pr m l σ.1 G) (h10 : B 10 (24 * m + l) = nI 20) : pz_WP 48 (0, pz_en 3 [.ref 39, .int (nI (24 * m + l))], []) σ (rP B nt ns nm m0 t1 t0 pb wv e nx dn fl pr (W158 e (24 * m + l)) σ G) := by
  obtain ⟨⟨f1, f2, f3⟩, ⟨f4, f5, f6⟩, ⟨f7, f8, f9, f10⟩, ⟨p0, p1, p2, p3⟩, ⟨g0, g1, g2, g3⟩, floc, b60⟩ := rl h
  obtain ⟨u1, u2, u3⟩ := rl_op h (by decide) h10
  have vs : vp_in (nI (24 * m + l)) 240 := vp_in_nI f6 (by decide)
  have ve : vp_in (nI e) 12 := vp_in_nI f3 (by decide)
  have cs : (nI (24 * m + l)).toNatClampNeg = 24 * m + l := nI_clamp (by omega)
  have ce : (nI e).toNatClampNeg = e := nI_clamp (by omega)
  obtain ⟨a, ha, ea⟩ := vp_in_of (show vp_in (B 11 (24 * m + l)) 8 from u1) (by decide)
  obtain ⟨b, hb, eb⟩ := vp_in_of (show vp_in (B 12 (24 * m + l)) 8 from u2) (by decide)
  obtain ⟨-, H, -⟩ := id h
  have va : vp_in (nI (8 * e + a)) 96 := vp_in_nI (by omega) (by decide)
  have ca : (nI (8 * e + a)).toNatClampNeg = 8 * e + a := nI_clamp (by omega)
  have vb : vp_in (nI (8 * e + b)) 96 := vp_in_nI (by omega) (by decide)
  have cb : (nI (8 * e + b)).toNatClampNeg = 8 * e + b := nI_clamp (by omega)
  have pre : ∀ T s, pz_WP 158 (131, [some (.ref 55), some (.int (nI e)), none, some (.int (nI 20)), some (.int (nI (8 * e + a))), some (.int (nI (8 * e + b))), some (.int (B 13 (24 * m + l))), none, some (.int (G 92 (8 * e + b))), none, none], [.int 0]) (Ms T G) (pz_is none s) → W158 e (24 * m + l) (Ms T G) (pz_is none s) := fun T s hs => by
    refine pv_158 _ _ _ _ ?_
    rw [cs, Ms_r (a := 64) (by decide), Ms_r (a := 65) (by decide), Ms_r (a := 66) (by decide), Ms_r (a := 67) (by decide), g0, g1, g2, g3, h10, ea, eb, pk_mul, nI_add, nI_add]
    refine ⟨vs, vs, vs, vs, ⟨fun z => absurd z (by decide), fun _ => ⟨fun z => absurd z (by decide), fun _ => ⟨fun z => absurd z (by decide), fun _ => ?_⟩⟩⟩⟩
    refine pv_158_64 _ _ _ _ _ _ _ _ ?_
    rw [ca, cb, Ms_r (a := 92) (by decide)]
    refine ⟨fun _ => ⟨vb, ?_⟩, fun z => absurd rfl z⟩
    exact pv_158_88 _ _ _ _ _ _ _ _ ⟨fun z => absurd z (by decide), fun _ => ⟨fun z => absurd z (by decide), fun _ => hs⟩⟩
  refine pv_48 _ σ _ (pz_ki (w_locals f1) ?_)
  rw [p2, cs, eb, nI_add, cb]
  refine ⟨vs, vb, fun z => ?_, fun z => ?_⟩
  · refine rl_ft (f := 3) (by decide) (fun T s hs => pre T s ?_)
    rw [← (floc b hb).2.1, z]
    exact pv_158_131 _ _ _ _ _ _ _ _ _ (pz_ki w_mt3 ⟨fun z => absurd z (by decide), fun _ => pz_kn hs⟩)
  · obtain ⟨y, hy, ey⟩ := (floc b hb).2.2.resolve_left z
    rw [← (floc b hb).2.1, ey] at pre
    rw [ey]
    have hy6 : y < 60 := by omega
    have vy : vp_in (nI y) 60 := vp_in_nI hy6 (by decide)
    refine pz_ki (w_isArray hy6) ⟨fun z5 => ?_, fun z5 => ?_⟩
    · have k73 : ¬ G 73 y < 0 := by
        rcases rl_ar h hy with q | q
        · exact q.2
        · exact absurd q.1 (pz_b_0.mp z5)
      exact rl_ft (f := 5) (by decide) (fun T s hs => pre T s (pv_158_131 _ _ _ _ _ _ _ _ _ (pz_ki (w_mtA hy6 (by decide) (fun _ => ⟨rfl, rfl⟩) (fun z => absurd z k73)) ⟨fun z => absurd z (by decide), fun _ => pz_kn hs⟩)))
    · have kar : ¬ -(nI 10) < σ.1 17 y := Classical.not_not.mp fun q => z5 (pz_b_0.mpr q)
      obtain ⟨-, k73, n, hn, en, e74⟩ := (rl_ar h hy).resolve_left (fun q => kar q.1)
      refine pz_ki (w_locals f1) ⟨vs, pz_ki (w_itemsOf hy6) ?_⟩
      rw [p1, ea, nI_add, ca, en]
      refine ⟨va, ?_⟩
      rintro σ5 rfl
      refine pz_kq (rl_go h rfl (rr_num H (8 * e + a) _) rfl rfl rfl (by omega) (fun T => pre T _ (pv_158_131 _ _ _ _ _ _ _ _ _ (pz_ki (w_mtA hy6 (by decide) (fun z => absurd k73 z) (fun _ => pv_156_68 _ _ _ _ _ _ ⟨fun z => absurd z (by decide), fun _ => ⟨fun _ => ⟨rfl, rfl⟩, fun z => absurd rfl z⟩⟩)) ?_))))
      rw [nI_clamp (show y < 2 ^ 31 by omega), ca, ce]
      refine ⟨fun _ => ⟨fun _ => ⟨vy, va, ?_⟩, fun z => absurd z (by decide), fun z => absurd z (by decide), fun z => absurd z (by decide), fun z => absurd z (by decide), fun z => absurd z (by decide), fun z => absurd z (by decide), trivial⟩, fun z => absurd (by decide) z⟩
      rintro σ7 rfl
      refine ⟨ve, ve, ?_⟩
      rintro σ8 rfl
      refine ⟨rfl, ?_⟩
      rw [Ms_r (a := 74) (by decide), e74, Ms_u (by decide), Ms_u (by decide)]
      rfl
end
