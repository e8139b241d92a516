section
variable {B : iv_F} {nt nf ns nm m0 t1 t0 pb : Nat} {wv : Int32} {e nx dn fl pr m l : Nat}
theorem in0_c {F B : iv_F} {ob : Prop} (h : F 4 = B 4) : qz_in0 F ob = qz_in0 B ob := funext fun k => by
  unfold qz_in0
  rw [h]
/-- a THING made, class -/
theorem w_mkC {B : iv_F} {σ : pz_Sg} {nx : Nat} (hn : nx < 60) (h : σ.1 16 0 = nI nx) (h4 : σ.1 4 = B 4) (v : Int32) : pz_WP 80 (0, pz_en 5 [.ref 16, .ref 1, .int v], []) σ (pz_is (some (.int (nI nx))) (mkF B σ.1 nx v, σ.2)) := by
  refine pz_conseq (w_make hn h v) ?_
  rintro r σ' ⟨rfl, rfl⟩
  refine ⟨rfl, ?_⟩
  rw [in0_c h4]
  rfl
/-- a THING made, reference -/
theorem w_mdM {B : iv_F} {nt nf nx : Nat} {T : pz_Sg} {G : iv_F} (bt : nt ≤ 8) (hn : nx < 60) {c k i : Int32} (hk : qz_kd nt c k i) (h22 : G 55 22 = nI nx) (h2 : G 55 2 = nI nf) (bf : nf ≤ 16) (h58 : ∀ k, k < 16 → G 58 k = B 4 k) (hz : ∀ k, nf ≤ k → k < 16 → B 4 k = 0) : pz_WP 153 (0, pz_en 3 [.ref 55, .int k, .int i], []) (Ms T G) (pz_is (some (.int (nI nx))) (Ms T (mkG B G nx c k i))) := by
  have vi : vp_in (nI nx) 60 := vp_in_nI hn (by decide)
  have cl : (nI nx).toNatClampNeg = nx := nI_clamp (by omega)
  refine pv_153 _ _ _ _ ⟨fun z => ?_, fun _ => ?_⟩
  · rw [Ms_r (by decide), h22] at z
    exact absurd ((nI_eq (by omega) (by decide)).mp z) (by omega)
  · rw [show (Ms T G).1 55 22 = nI nx from h22, cl]
    refine ⟨vi, ?_⟩
    rintro σ1 rfl
    rw [show (pz_up (Ms T G) 73 nx k).1 55 22 = nI nx from h22, cl]
    refine ⟨vi, ?_⟩
    rintro σ2 rfl
    rw [show (pz_up (pz_up (Ms T G) 73 nx k) 74 nx i).1 55 22 = nI nx from h22]
    refine pz_kv (w_mkM (σ := Ms T G) (F := B) bt hn hk h2 bf h58 hz) ?_
    rintro σ4 rfl
    rw [show (qz_fi (pz_up (pz_up (Ms T G) 73 nx k) 74 nx i) 75 (16 * nx) 16 (qz_in0 B (¬ c ≤ -(nI 10)))).1 55 22 = nI nx from h22, nI_1, qz_rs, qz_m1]
    refine ⟨rfl, ?_⟩
    refine Prod.ext (funext fun x => funext fun y => ?_) rfl
    show (if x = 55 ∧ y = 22 then nI (nx + 1) else if x = 75 ∧ 16 * nx ≤ y ∧ y < 16 * nx + 16 then qz_in0 B (¬ c ≤ -(nI 10)) (y - 16 * nx) else if x = 74 ∧ y = nx then i else if x = 73 ∧ y = nx then k else (if x ≤ 54 ∨ 103 ≤ x then T.1 x else G x) y) = (if x ≤ 54 ∨ 103 ≤ x then T.1 x else mkG B G nx c k i x) y
    by_cases hx : x ≤ 54 ∨ 103 ≤ x
    · rw [if_neg (by omega), if_neg (by omega), if_neg (by omega), if_neg (by omega), if_pos hx, if_pos hx]
    · rw [if_neg hx, if_neg hx]
      rfl
/-- a THING made in a RUN, both: the rest is the caller's -/
theorem w_new {W : pz_Sg → pz_Ps → Prop} {σ : pz_Sg} {G : iv_F} (h : rL B nt nf ns nm m0 t1 t0 pb wv e nx dn fl pr m l σ.1 G) {a : Nat} (ha : a < 8) {c k i : Int32} (hk : qz_kd nt c k i) (hW : ∀ T s, pz_WP 153 (0, pz_en 3 [.ref 55, .int k, .int i], []) (Ms T G) (fun v σ' => ∃ r, v = some (.int r) ∧ pz_up (pz_up σ' 92 (8 * e + a) r) 90 e (σ'.1 90 e + 1) = s) → W (Ms T G) (pz_is none s)) : pz_WP 44 (131, [some (.ref 39), none, none, some (.int (nI (8 * e + a))), some (.int c), none], []) σ (rP B nt ns nm m0 t1 t0 pb wv e nx dn fl pr W σ G) := by
  obtain ⟨⟨f1, f2, f3⟩, ⟨f4, f5, f6⟩, ⟨f7, f8, f9, f10⟩, -, -, -, b60⟩ := rl h
  obtain ⟨hQ, H, -⟩ := id h
  obtain ⟨a1, ⟨⟨w1, w1', -⟩, -⟩, -⟩ := id H
  have va : vp_in (nI (8 * e + a)) 96 := vp_in_nI (by omega) (by decide)
  have ca : (nI (8 * e + a)).toNatClampNeg = 8 * e + a := nI_clamp (by omega)
  have w1 : σ.1 16 0 = nI nx := w1
  have w1' : G 55 22 = nI nx := w1'
  refine pv_44_131 _ _ σ _ ?_
  rw [w1, ca]
  by_cases hn : nx < 60
  · refine ⟨fun _ => pz_ki (w_mkC (B := B) hn w1 (rKn a1 4 (by decide) rfl) c) ⟨va, ?_⟩, fun z => absurd (nI_lt hn (by decide)) z⟩
    rintro σ2 rfl
    refine pz_kq (rl_go h rfl (rr_ref (rr_new hQ.1.1.1 hQ.2.2.2.1 H hn hk) (8 * e + a) (Or.inr ⟨nx, by omega, rfl⟩)) rfl rfl rfl (by omega) (fun T => hW T _ (pz_conseq (w_mdM (B := B) hQ.1.1.1 hn hk w1' (by rw [a1.2.2 2 rfl]; exact hQ.2.2.2.2.1.2) hQ.1.1.2.1 (fun j hj => by rw [rKg a1 58 (by decide) rfl]; exact ((hQ.2.2.2.1.1 j hj).1).symm) hQ.2.2.2.1.2.1) ?_)))
    rintro v σ' ⟨rfl, rfl⟩
    refine ⟨nI nx, rfl, ?_⟩
    rw [Ms_u (by decide), Ms_u (by decide)]
    rfl
  · have : nx = 60 := by omega
    subst this
    refine ⟨fun z => absurd z (by decide), fun _ => rl_fu h (G' := fu (fu (fu G 55 46 1) 92 (8 * e + a) (-1)) 90 e (fu (fu G 55 46 1) 92 (8 * e + a) (-1) 90 e + 1)) (rFr_g (rFr_g (rFr_5 a1 rfl) rfl (by decide)) rfl (by decide)) (by show ¬ (1 : Int32) = 0; decide) (fun T => hW T _ ?_)⟩
    refine pv_153 _ _ _ _ ⟨fun _ => ?_, fun z => absurd w1' z⟩
    rintro σ5 rfl
    refine ⟨-1, rfl, ?_⟩
    rw [Ms_u (by decide), Ms_u (by decide), Ms_r (a := 90) (by decide), Ms_u (by decide)]
    rfl
theorem w_op8 {σ : pz_Sg} {G : iv_F} (h : rL B nt nf ns nm m0 t1 t0 pb wv e nx dn fl pr m l σ.1 G) (h10 : B 10 (24 * m + l) = nI 8) : pz_WP 44 (0, pz_en 6 [.ref 39, .int (nI (24 * m + l)), .int (nI 8)], []) σ (rP B nt ns nm m0 t1 t0 pb wv e nx dn fl pr (W160 e (24 * m + l)) σ G) := by
  obtain ⟨⟨f1, f2, f3⟩, ⟨f4, f5, f6⟩, ⟨f7, f8, f9, f10⟩, ⟨p0, p1, p2, p3⟩, ⟨g0, g1, g2, g3⟩, floc, b60⟩ := rl h
  obtain ⟨u1, u2, u3⟩ := rl_op h (by decide) h10
  have vs : vp_in (nI (24 * m + l)) 240 := vp_in_nI f6 (by decide)
  have ve : vp_in (nI e) 12 := vp_in_nI f3 (by decide)
  have cs : (nI (24 * m + l)).toNatClampNeg = 24 * m + l := nI_clamp (by omega)
  have ce : (nI e).toNatClampNeg = e := nI_clamp (by omega)
  obtain ⟨a, ha, ea⟩ := vp_in_of (show vp_in (B 11 (24 * m + l)) 8 from u1) (by decide)
  have bt := h.1.1.1.1
  obtain ⟨b, hb, eb⟩ := vp_in_of (show vp_in (B 12 (24 * m + l)) nt from u2) (by omega)
  have va : vp_in (nI (8 * e + a)) 96 := vp_in_nI (by omega) (by decide)
  have ca : (nI (8 * e + a)).toNatClampNeg = 8 * e + a := nI_clamp (by omega)
  refine pv_44 _ _ σ _ (pz_ki (w_locals f1) ?_)
  rw [p1, p2, cs, ea, eb, nI_add, ca]
  refine ⟨vs, fun z => absurd z (by decide), fun _ => ⟨fun z => absurd z (by decide), fun _ => ⟨vs, fun z => absurd z (by decide), fun _ => ?_⟩⟩⟩
  refine w_new h ha (c := nI b) (k := nI b) (i := 0) (Or.inl ⟨b, hb, rfl, rfl, rfl⟩) (fun T s hs => ?_)
  refine pv_160 _ _ _ _ ?_
  rw [cs, Ms_r (a := 64) (by decide), Ms_r (a := 65) (by decide), Ms_r (a := 66) (by decide), Ms_r (a := 67) (by decide), g0, g1, g2, g3, h10, ea, eb, nI_a7 a ha, pk_mul, nI_add, ca, ce]
  refine ⟨vs, vs, vs, vs, fun z => absurd z (by decide), fun z => absurd z (by decide), fun z => absurd z (by decide), fun z => absurd z (by decide), fun z => absurd z (by decide), fun z => absurd z (by decide), fun z => absurd z (by decide), fun z => absurd z (by decide), fun z => absurd z (by decide), fun _ => ⟨_, hs, ?_⟩, fun z => absurd z (by decide), fun z => absurd z (by decide), fun z => absurd z (by decide), fun z => absurd z (by decide), fun z => absurd z (by decide), fun z => absurd z (by decide), fun z => absurd z (by decide), fun z => absurd z (by decide), fun z => absurd z (by decide), fun z => absurd z (by decide), fun z => absurd z (by decide), fun z => absurd z (by decide), fun z => absurd z (by decide), trivial⟩
  rintro r σ' ⟨r', er, es⟩
  cases er
  refine ⟨va, ?_⟩
  rintro σ1 rfl
  refine ⟨ve, ve, ?_⟩
  rintro σ2 rfl
  exact ⟨rfl, es⟩
theorem w_op9 {σ : pz_Sg} {G : iv_F} (h : rL B nt nf ns nm m0 t1 t0 pb wv e nx dn fl pr m l σ.1 G) (h10 : B 10 (24 * m + l) = nI 9) : pz_WP 44 (0, pz_en 6 [.ref 39, .int (nI (24 * m + l)), .int (nI 9)], []) σ (rP B nt ns nm m0 t1 t0 pb wv e nx dn fl pr (W160 e (24 * m + l)) σ G) := by
  obtain ⟨⟨f1, f2, f3⟩, ⟨f4, f5, f6⟩, ⟨f7, f8, f9, f10⟩, ⟨p0, p1, p2, p3⟩, ⟨g0, g1, g2, g3⟩, floc, b60⟩ := rl h
  obtain ⟨u1, u2, u3⟩ := rl_op h (by decide) h10
  have vs : vp_in (nI (24 * m + l)) 240 := vp_in_nI f6 (by decide)
  have ve : vp_in (nI e) 12 := vp_in_nI f3 (by decide)
  have cs : (nI (24 * m + l)).toNatClampNeg = 24 * m + l := nI_clamp (by omega)
  have ce : (nI e).toNatClampNeg = e := nI_clamp (by omega)
  obtain ⟨a, ha, ea⟩ := vp_in_of (show vp_in (B 11 (24 * m + l)) 8 from u1) (by decide)
  obtain ⟨b, hb, eb⟩ := vp_in_of (show vp_in (B 12 (24 * m + l)) 8 from u2) (by decide)
  have va : vp_in (nI (8 * e + a)) 96 := vp_in_nI (by omega) (by decide)
  have ca : (nI (8 * e + a)).toNatClampNeg = 8 * e + a := nI_clamp (by omega)
  have vb : vp_in (nI (8 * e + b)) 96 := vp_in_nI (by omega) (by decide)
  have cb : (nI (8 * e + b)).toNatClampNeg = 8 * e + b := nI_clamp (by omega)
  have kb := (floc b hb).1
  refine pv_44 _ _ σ _ (pz_ki (w_locals f1) ?_)
  rw [p1, p2, cs, ea, eb, nI_add, ca]
  refine ⟨vs, fun z => absurd z (by decide), fun _ => ⟨fun z => absurd z (by decide), fun _ => ⟨vs, fun _ => pz_ki (w_locals f1) ?_, fun z => absurd rfl z⟩⟩⟩
  rw [p2, eb, nI_add, cb]
  have pre : ∀ T s, pz_WP 161 (0, pz_en 4 [.ref 55, .int (nI e), .int (nI (8 * e + a)), .int (σ.1 43 (8 * e + b))], []) (Ms T G) (pz_is none s) → W160 e (24 * m + l) (Ms T G) (pz_is none s) := fun T s hs => by
    refine pv_160 _ _ _ _ ?_
    rw [cs, Ms_r (a := 64) (by decide), Ms_r (a := 65) (by decide), Ms_r (a := 66) (by decide), Ms_r (a := 67) (by decide), g0, g1, g2, g3, h10, ea, eb, nI_a7 a ha, pk_mul, nI_add, nI_add, ca, cb, ce, Ms_r (a := 91) (by decide), ← kb]
    exact ⟨vs, vs, vs, vs, fun z => absurd z (by decide), fun z => absurd z (by decide), fun z => absurd z (by decide), fun z => absurd z (by decide), fun z => absurd z (by decide), fun z => absurd z (by decide), fun z => absurd z (by decide), fun z => absurd z (by decide), fun z => absurd z (by decide), fun z => absurd z (by decide), fun _ => ⟨vb, pz_kn hs⟩, fun z => absurd z (by decide), fun z => absurd z (by decide), fun z => absurd z (by decide), fun z => absurd z (by decide), fun z => absurd z (by decide), fun z => absurd z (by decide), fun z => absurd z (by decide), fun z => absurd z (by decide), fun z => absurd z (by decide), fun z => absurd z (by decide), fun z => absurd z (by decide), fun z => absurd z (by decide), trivial⟩
  refine ⟨vs, vb, fun z0 => ⟨fun z1 => ?_, fun z1 => ?_⟩, fun z0 => ?_⟩
  · obtain ⟨n, hn, en⟩ := nI_of2 (M := nI 16) (n := 16) rfl (fun z => absurd z (by rw [Int32.not_lt]; exact z0)) z1
    rw [en] at pre
    rw [en]
    refine w_new h ha (c := -(nI 10) - nI n) (k := -1) (i := nI n) (Or.inr ⟨n, hn, rfl, rfl, rfl⟩) (fun T s hs => pre T s (pv_161 _ _ _ _ _ ⟨fun _ => ⟨fun _ => ⟨_, hs, ?_⟩, fun z => absurd (nI_le hn (by decide)) z⟩, fun z => absurd (nI_pos' (by omega)) z⟩))
    rintro r σ' ⟨r', er, es⟩
    cases er
    rw [ca, ce]
    refine ⟨va, ?_⟩
    rintro σ1 rfl
    refine ⟨ve, ve, ?_⟩
    rintro σ2 rfl
    exact ⟨rfl, es⟩
  · refine rl_fu h (G' := fu G 55 46 1) (rFr_5 h.2.1.1 rfl) (by show ¬ (1 : Int32) = 0; decide) (fun T => pre T _ (pv_161 _ _ _ _ _ ⟨fun _ => ⟨fun z => absurd z z1, fun _ => ?_⟩, fun z => absurd z0 z⟩))
    rintro σ4 rfl
    exact ⟨rfl, Ms_u (by decide)⟩
  · exact rl_ft (f := 2) (by decide) (fun T s hs => pre T s (pv_161 _ _ _ _ _ ⟨fun z => absurd z z0, fun _ => pz_kn hs⟩))
theorem w_prC {σ : pz_Sg} {pr : Nat} (h : σ.1 16 1 = nI pr) (hp : pr < 1000000) (v : Int32) : pz_WP 81 (0, pz_en 2 [.ref 16, .int v], []) σ (pz_is none (prF σ.1 pr v, σ.2)) := by
  refine pv_81 _ σ _ ?_
  rw [h, nI_1, nI_clamp (by omega)]
  by_cases hr : pr < 200
  · refine ⟨fun z => absurd ((nI_leI (by decide) (by omega)).mp z) (by omega), fun _ => ⟨vp_in_nI hr (by decide), ?_⟩⟩
    rintro σ2 rfl σ3 rfl
    rw [show (pz_up σ 20 pr v).1 16 1 = nI pr from h, nI_1]
    refine ⟨rfl, ?_⟩
    unfold prF
    rw [if_pos hr]
    rfl
  · refine ⟨fun _ => ?_, fun z => absurd ((nI_leI (by decide) (by omega)).mpr (by omega)) z⟩
    rintro σ1 rfl
    refine ⟨rfl, ?_⟩
    unfold prF
    rw [if_neg hr]
    rfl
theorem w_prM {T : pz_Sg} {G : iv_F} {pr : Nat} (h : G 55 27 = nI pr) (hp : pr < 1000000) (v : Int32) : pz_WP 162 (0, pz_en 2 [.ref 55, .int v], []) (Ms T G) (pz_is none (Ms T (prG G pr v))) := by
  refine pv_162 _ _ _ ?_
  rw [Ms_r (a := 55) (by decide), h, nI_1, nI_clamp (by omega)]
  by_cases hr : pr < 200
  · refine ⟨fun z => absurd ((nI_leI (by decide) (by omega)).mp z) (by omega), fun _ => ⟨vp_in_nI hr (by decide), ?_⟩⟩
    rintro σ2 rfl σ3 rfl
    rw [Ms_u (by decide), Ms_r (by decide), show fu G 77 pr v 55 27 = nI pr from h, nI_1, Ms_u (by decide)]
    refine ⟨rfl, ?_⟩
    unfold prG
    rw [if_pos hr]
  · refine ⟨fun _ => ?_, fun z => absurd ((nI_leI (by decide) (by omega)).mpr (by omega)) z⟩
    rintro σ1 rfl
    rw [Ms_u (by decide)]
    refine ⟨rfl, ?_⟩
    unfold prG
    rw [if_neg hr]
theorem w_op22 {σ : pz_Sg} {G : iv_F} (h : rL B nt nf ns nm m0 t1 t0 pb wv e nx dn fl pr m l σ.1 G) (h10 : B 10 (24 * m + l) = nI 22) : pz_WP 50 (0, pz_en 2 [.ref 39, .int (nI (24 * m + l))], []) σ (rP B nt ns nm m0 t1 t0 pb wv e nx dn fl pr (W160 e (24 * m + l)) σ G) := by
  obtain ⟨⟨f1, f2, f3⟩, ⟨f4, f5, f6⟩, ⟨f7, f8, f9, f10⟩, ⟨p0, p1, p2, p3⟩, ⟨g0, g1, g2, g3⟩, floc, b60⟩ := rl h
  obtain ⟨u1, u2, u3⟩ := rl_op h (by decide) h10
  have vs : vp_in (nI (24 * m + l)) 240 := vp_in_nI f6 (by decide)
  have ve : vp_in (nI e) 12 := vp_in_nI f3 (by decide)
  have cs : (nI (24 * m + l)).toNatClampNeg = 24 * m + l := nI_clamp (by omega)
  have ce : (nI e).toNatClampNeg = e := nI_clamp (by omega)
  obtain ⟨a, ha, ea⟩ := vp_in_of (show vp_in (B 11 (24 * m + l)) 8 from u1) (by decide)
  have va : vp_in (nI (8 * e + a)) 96 := vp_in_nI (by omega) (by decide)
  have ca : (nI (8 * e + a)).toNatClampNeg = 8 * e + a := nI_clamp (by omega)
  have ka := (floc a ha).1
  obtain ⟨-, H, -, -, hp⟩ := id h
  obtain ⟨-, -, ⟨r1, r2, -⟩, -, -, ⟨-, -, t3, -⟩, -⟩ := id H
  refine pv_50 _ σ _ (pz_ki (w_locals f1) ?_)
  rw [p1, cs, ea, nI_add, ca]
  refine ⟨vs, va, pz_kv (w_prC r1 hp _) ?_⟩
  rintro σ3 rfl
  rw [show ((prF σ.1 pr (σ.1 43 (8 * e + a)), σ.2) : pz_Sg).1 40 2 = nI (pr - pb) by show prF σ.1 pr (σ.1 43 (8 * e + a)) 40 2 = nI (pr - pb); rw [prF_o (by decide) (by decide)]; exact t3, nI_1]
  refine pz_kq (rl_go h rfl (rr_print H hp _) ?_ ?_ ?_ (by omega) (fun T => ?_))
  · show fu (prF σ.1 pr (σ.1 43 (8 * e + a))) 40 2 (nI (pr - pb + 1)) 41 e = σ.1 41 e
    rw [fu_o (by decide), prF_o (by decide) (by decide)]
  · show fu (prF σ.1 pr (σ.1 43 (8 * e + a))) 40 2 (nI (pr - pb + 1)) 42 e = σ.1 42 e
    rw [fu_o (by decide), prF_o (by decide) (by decide)]
  · rw [prG_o (by decide) (by decide)]
  · refine pv_160 _ _ _ _ ?_
    rw [cs, Ms_r (a := 64) (by decide), Ms_r (a := 65) (by decide), Ms_r (a := 66) (by decide), Ms_r (a := 67) (by decide), g0, g1, g2, g3, h10, ea, nI_a7 a ha, pk_mul, nI_add, ca, ce, Ms_r (a := 91) (by decide), ← ka]
    refine ⟨vs, vs, vs, vs, fun _ => ⟨va, pz_kv (w_prM r2 hp _) ⟨ve, ve, ?_⟩⟩, fun z => absurd z (by decide), fun z => absurd z (by decide), fun z => absurd z (by decide), fun z => absurd z (by decide), fun z => absurd z (by decide), fun z => absurd z (by decide), fun z => absurd z (by decide), fun z => absurd z (by decide), fun z => absurd z (by decide), fun z => absurd z (by decide), fun z => absurd z (by decide), fun z => absurd z (by decide), fun z => absurd z (by decide), fun z => absurd z (by decide), fun z => absurd z (by decide), fun z => absurd z (by decide), fun z => absurd z (by decide), fun z => absurd z (by decide), fun z => absurd z (by decide), fun z => absurd z (by decide), fun z => absurd z (by decide), fun z => absurd z (by decide), trivial⟩
    rintro σ5 rfl
    rw [Ms_r (a := 90) (by decide)]
    exact ⟨rfl, Ms_u (by decide)⟩
end
