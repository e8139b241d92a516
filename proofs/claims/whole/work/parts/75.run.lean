/-! ===== a LINE done: what the class answers, and the reference beside it ===== -/
section
variable {B : iv_F} {nt nf ns nm m0 t1 t0 pb : Nat} {wv : Int32} {e nx dn fl pr m l : Nat}
/-- what stands at a LINE that is done: METHOD m, line l, depth e + 1 -/
def rL (B : iv_F) (nt nf ns nm m0 t1 t0 pb : Nat) (wv : Int32) (e nx dn fl pr m l : Nat) (F G : iv_F) : Prop := rQ B nt nf ns nm m0 t1 ∧ RR B nt ns nm m0 t1 t0 pb wv (e + 1) nx dn fl pr F G ∧ rFm B nm F G e m l l ∧ l < (B 9 m).toNatClampNeg ∧ pr < 1000000
/-- how a LINE ends: W is the reference's walk of it -/
def rO (B : iv_F) (nt ns nm m0 t1 t0 pb : Nat) (wv : Int32) (e nx dn fl pr : Nat) (W : pz_Sg → pz_Ps → Prop) (F G : iv_F) (r : Int32) (F' : iv_F) : Prop :=
  (r = 0 ∧ ∃ G' d' nx' pr', (∀ T, W (Ms T G) (pz_is none (Ms T G'))) ∧ RR B nt ns nm m0 t1 t0 pb wv d' nx' dn fl pr' F' G' ∧ pr' ≤ pr + 1 ∧ d' ≤ e + 2 ∧ (d' = 0 → rFn B m0 nx' F')) ∨
  (r = -(nI 4) ∧ ∃ G', (∀ T, W (Ms T G) (pz_is none (Ms T G'))) ∧ rFr B F' G' ∧ ¬ G' 55 46 = 0 ∧ ¬ F' 39 8 ≤ 0) ∨
  ∃ f, (1 ≤ f ∧ f ≤ 9) ∧ r = nI f ∧ F' = F ∧ ∀ T s, pz_WP 152 (0, pz_en 4 [.ref 55, .int (nI f)], []) (Ms T G) (pz_is none s) → W (Ms T G) (pz_is none s)
def rP (B : iv_F) (nt ns nm m0 t1 t0 pb : Nat) (wv : Int32) (e nx dn fl pr : Nat) (W : pz_Sg → pz_Ps → Prop) (σ : pz_Sg) (G : iv_F) : pz_Ps := fun v σ' => ∃ r, v = some (.int r) ∧ σ'.2 = σ.2 ∧ rO B nt ns nm m0 t1 t0 pb wv e nx dn fl pr W σ.1 G r σ'.1
abbrev W158 (e s : Nat) : pz_Sg → pz_Ps → Prop := fun σ P => pz_WP 158 (0, pz_en 11 [.ref 55, .int (nI e), .int (nI s)], []) σ P
abbrev W160 (e s : Nat) : pz_Sg → pz_Ps → Prop := fun σ P => pz_WP 160 (0, pz_en 7 [.ref 55, .int (nI e), .int (nI s)], []) σ P
abbrev W165 (e s : Nat) : pz_Sg → pz_Ps → Prop := fun σ P => pz_WP 165 (0, pz_en 7 [.ref 55, .int (nI e), .int (nI s)], []) σ P
theorem pz_kq {t : Nat} {f : pz_Fr} {σ : pz_Sg} {P : pz_Ps} (h : pz_WP t f σ P) : ∃ Q : pz_Ps, pz_WP t f σ Q ∧ ∀ r σ', Q (some (.int r)) σ' → P (some (.int r)) σ' := ⟨P, h, fun _ _ h => h⟩
theorem pz_kn {t : Nat} {f : pz_Fr} {σ : pz_Sg} {P : pz_Ps} (h : pz_WP t f σ P) : ∃ Q : pz_Ps, pz_WP t f σ Q ∧ ∀ σ', Q none σ' → P none σ' := ⟨P, h, fun _ h => h⟩
theorem nI_a7 : ∀ a, a < 8 → nI a &&& nI 7 = nI a := by decide +kernel
theorem rl {F G : iv_F} (h : rL B nt nf ns nm m0 t1 t0 pb wv e nx dn fl pr m l F G) : (F 39 8 = nI (e + 1) ∧ G 55 41 = nI (e + 1) ∧ e < 12) ∧ (m < 10 ∧ l < 24 ∧ 24 * m + l < 240) ∧ (F 41 e = nI m ∧ G 89 e = nI m ∧ F 42 e = nI l ∧ G 90 e = nI l) ∧ (F 10 = B 10 ∧ F 11 = B 11 ∧ F 12 = B 12 ∧ F 13 = B 13) ∧ (G 64 (24 * m + l) = B 10 (24 * m + l) ∧ G 65 (24 * m + l) = B 11 (24 * m + l) ∧ G 66 (24 * m + l) = B 12 (24 * m + l) ∧ G 67 (24 * m + l) = B 13 (24 * m + l)) ∧ (∀ i, i < 8 → F 43 (8 * e + i) = G 91 (8 * e + i) ∧ F 44 (8 * e + i) = G 92 (8 * e + i) ∧ iv_rv nx (F 44 (8 * e + i))) ∧ nx ≤ 60 := by
  obtain ⟨hQ, H, ⟨m1, ⟨m2, m2'⟩, ⟨l1, l1'⟩, -, -⟩, hl, -⟩ := h
  obtain ⟨a1, ⟨⟨-, -, b60⟩, -⟩, -, ⟨⟨s1, s1', s1''⟩, s2, s3⟩, -⟩ := id H
  have bm := hQ.1.1.2.2.2
  have bl := fP_L' hQ.1 m m1
  obtain ⟨⟨q1, q2, q3, q4⟩, -⟩ := hQ.1.2.2.1 m m1 l hl
  refine ⟨⟨s1, s1', by omega⟩, ⟨by omega, by omega, by omega⟩, ⟨m2, m2', l1, l1'⟩, ⟨rKn a1 10 (by decide) rfl, rKn a1 11 (by decide) rfl, rKn a1 12 (by decide) rfl, rKn a1 13 (by decide) rfl⟩, ⟨?_, ?_, ?_, ?_⟩, fun i hi => s2 _ (by omega), b60⟩
  · rw [rKg a1 64 (by decide) rfl, q1]
  · rw [rKg a1 65 (by decide) rfl, q2]
  · rw [rKg a1 66 (by decide) rfl, q3]
  · rw [rKg a1 67 (by decide) rfl, q4]
/-- the operands of a LINE -/
theorem rl_op {F G : iv_F} (h : rL B nt nf ns nm m0 t1 t0 pb wv e nx dn fl pr m l F G) {o : Nat} (ho : o < 32) (h10 : B 10 (24 * m + l) = nI o) : qz_su B nt nf ns nm m (qz_W (3 * o)) (B 11 (24 * m + l)) ∧ qz_su B nt nf ns nm m (qz_W (3 * o + 1)) (B 12 (24 * m + l)) ∧ qz_su B nt nf ns nm m (qz_W (3 * o + 2)) (B 13 (24 * m + l)) := by
  obtain ⟨o', ho', e10, u1, u2, u3, -⟩ := fOp h.1.1.2.2.1 h.2.2.1.1 h.2.2.2.1
  have : o' = o := (nI_eq (by omega) (by omega)).mp (e10.symm.trans h10)
  subst this
  exact ⟨u1, u2, u3⟩
/-- the class goes on to the next line -/
theorem rl_go {W : pz_Sg → pz_Ps → Prop} {σ σ1 : pz_Sg} {G G1 : iv_F} {nx' pr' : Nat} (h : rL B nt nf ns nm m0 t1 t0 pb wv e nx dn fl pr m l σ.1 G) (h2 : σ1.2 = σ.2) (H1 : RR B nt ns nm m0 t1 t0 pb wv (e + 1) nx' dn fl pr' σ1.1 G1) (k41 : σ1.1 41 e = σ.1 41 e) (k42 : σ1.1 42 e = σ.1 42 e) (k90 : G1 90 e = G 90 e) (hpr : pr' ≤ pr + 1) (hW : ∀ T, W (Ms T G) (pz_is none (Ms T (fu G1 90 e (G1 90 e + 1))))) : pz_WP 40 (0, pz_en 1 [.ref 39], []) σ1 (rP B nt ns nm m0 t1 t0 pb wv e nx dn fl pr W σ G) := by
  obtain ⟨⟨f1, f2, f3⟩, ⟨f4, f5, f6⟩, ⟨f7, f8, f9, f10⟩, -⟩ := rl h
  rw [k90, f10, nI_1] at hW
  refine pz_conseq (w_goOn (σ := σ1) (e := e) (l := l) H1.2.2.2.1.1.1 f3 (k42.trans f9)) ?_
  rintro v σ' ⟨rfl, rfl⟩
  exact ⟨0, rfl, h2, Or.inl ⟨rfl, _, e + 1, nx', pr', hW, rr_line H1 (m := m) (k41.trans f7) h.2.2.1.1 h.1.1.1.2.2.2 ⟨by omega, by omega⟩ (Or.inl rfl), hpr, by omega, fun z => absurd z (by omega)⟩⟩
/-- a fault is answered -/
theorem rl_ft {W : pz_Sg → pz_Ps → Prop} {σ : pz_Sg} {G : iv_F} {f : Nat} (hf : 1 ≤ f ∧ f ≤ 9) (hW : ∀ T s, pz_WP 152 (0, pz_en 4 [.ref 55, .int (nI f)], []) (Ms T G) (pz_is none s) → W (Ms T G) (pz_is none s)) : rP B nt ns nm m0 t1 t0 pb wv e nx dn fl pr W σ G (some (.int (nI f))) σ := ⟨_, rfl, rfl, Or.inr (Or.inr ⟨f, hf, rfl, rfl, hW⟩)⟩
/-- no room -/
theorem rl_fu {W : pz_Sg → pz_Ps → Prop} {σ : pz_Sg} {G G' : iv_F} (h : rL B nt nf ns nm m0 t1 t0 pb wv e nx dn fl pr m l σ.1 G) (hr : rFr B σ.1 G') (h46 : ¬ G' 55 46 = 0) (hW : ∀ T, W (Ms T G) (pz_is none (Ms T G'))) : rP B nt ns nm m0 t1 t0 pb wv e nx dn fl pr W σ G (some (.int (-(nI 4)))) σ := by
  obtain ⟨⟨f1, f2, f3⟩, -⟩ := rl h
  exact ⟨_, rfl, rfl, Or.inr (Or.inl ⟨rfl, G', hW, hr, h46, by rw [f1]; exact fun z => absurd ((nI_leI (by omega) (by decide)).mp (show nI (e + 1) ≤ nI 0 from z)) (by omega)⟩)⟩

theorem w_op0 {σ : pz_Sg} {G : iv_F} (h : rL B nt nf ns nm m0 t1 t0 pb wv e nx dn fl pr m l σ.1 G) (h10 : B 10 (24 * m + l) = nI 0) : pz_WP 43 (0, pz_en 6 [.ref 39, .int (nI (24 * m + l)), .int (nI 0)], []) σ (rP B nt ns nm m0 t1 t0 pb wv e nx dn fl pr (W160 e (24 * m + l)) σ G) := by
  obtain ⟨⟨f1, f2, f3⟩, ⟨f4, f5, f6⟩, ⟨f7, f8, f9, f10⟩, ⟨p0, p1, p2, p3⟩, ⟨g0, g1, g2, g3⟩, floc, b60⟩ := rl h
  obtain ⟨u1, u2, u3⟩ := rl_op h (by decide) h10
  have vs : vp_in (nI (24 * m + l)) 240 := vp_in_nI f6 (by decide)
  have ve : vp_in (nI e) 12 := vp_in_nI f3 (by decide)
  have cs : (nI (24 * m + l)).toNatClampNeg = 24 * m + l := nI_clamp (by omega)
  have ce : (nI e).toNatClampNeg = e := nI_clamp (by omega)
  obtain ⟨a, ha, ea⟩ := vp_in_of (show vp_in (B 11 (24 * m + l)) 8 from u1) (by decide)
  have va : vp_in (nI (8 * e + a)) 96 := vp_in_nI (by omega) (by decide)
  have ca : (nI (8 * e + a)).toNatClampNeg = 8 * e + a := nI_clamp (by omega)
  refine pv_43 _ _ σ _ (pz_ki (w_locals f1) ?_)
  rw [p1, p3, cs, ea, nI_add, ca]
  refine ⟨vs, fun _ => ⟨vs, va, ?_⟩, fun z => absurd (by decide) z⟩
  rintro σ4 rfl
  refine pz_kq (rl_go h rfl (rr_num h.2.1 (8 * e + a) _) rfl rfl rfl (by omega) (fun T => ?_))
  refine pv_160 _ _ _ _ ?_
  rw [cs, Ms_r (a := 64) (by decide), Ms_r (a := 65) (by decide), Ms_r (a := 66) (by decide), Ms_r (a := 67) (by decide), g0, g1, g3, h10, ea, nI_a7 a ha, pk_mul, nI_add, ca, ce]
  refine ⟨vs, vs, vs, vs, fun z => absurd z (by decide), fun _ => ⟨va, ?_⟩, fun z => absurd z (by decide), fun z => absurd z (by decide), fun z => absurd z (by decide), fun z => absurd z (by decide), fun z => absurd z (by decide), fun z => absurd z (by decide), fun z => absurd z (by decide), fun z => absurd z (by decide), fun z => absurd z (by decide), fun z => absurd z (by decide), fun z => absurd z (by decide), fun z => absurd z (by decide), fun z => absurd z (by decide), fun z => absurd z (by decide), fun z => absurd z (by decide), fun z => absurd z (by decide), fun z => absurd z (by decide), fun z => absurd z (by decide), fun z => absurd z (by decide), fun z => absurd z (by decide), fun z => absurd z (by decide), trivial⟩
  rintro σ3 rfl
  refine ⟨ve, ve, ?_⟩
  rintro σ4 rfl
  rw [Ms_u (by decide), Ms_r (a := 90) (by decide)]
  exact ⟨rfl, Ms_u (by decide)⟩

theorem w_op1 {σ : pz_Sg} {G : iv_F} (h : rL B nt nf ns nm m0 t1 t0 pb wv e nx dn fl pr m l σ.1 G) (h10 : B 10 (24 * m + l) = nI 1) : pz_WP 43 (0, pz_en 6 [.ref 39, .int (nI (24 * m + l)), .int (nI 1)], []) σ (rP B nt ns nm m0 t1 t0 pb wv e nx dn fl pr (W160 e (24 * m + l)) σ G) := by
  obtain ⟨⟨f1, f2, f3⟩, ⟨f4, f5, f6⟩, ⟨f7, f8, f9, f10⟩, ⟨p0, p1, p2, p3⟩, ⟨g0, g1, g2, g3⟩, floc, b60⟩ := rl h
  obtain ⟨u1, u2, u3⟩ := rl_op h (by decide) h10
  have vs : vp_in (nI (24 * m + l)) 240 := vp_in_nI f6 (by decide)
  have ve : vp_in (nI e) 12 := vp_in_nI f3 (by decide)
  have cs : (nI (24 * m + l)).toNatClampNeg = 24 * m + l := nI_clamp (by omega)
  have ce : (nI e).toNatClampNeg = e := nI_clamp (by omega)
  obtain ⟨a, ha, ea⟩ := vp_in_of (show vp_in (B 11 (24 * m + l)) 8 from u1) (by decide)
  obtain ⟨b, hb, eb⟩ := vp_in_of (show vp_in (B 12 (24 * m + l)) 8 from u2) (by decide)
  obtain ⟨c, hc, ec⟩ := vp_in_of (show vp_in (B 13 (24 * m + l)) 8 from u3) (by decide)
  have va : vp_in (nI (8 * e + a)) 96 := vp_in_nI (by omega) (by decide)
  have ca : (nI (8 * e + a)).toNatClampNeg = 8 * e + a := nI_clamp (by omega)
  have vb : vp_in (nI (8 * e + b)) 96 := vp_in_nI (by omega) (by decide)
  have cb : (nI (8 * e + b)).toNatClampNeg = 8 * e + b := nI_clamp (by omega)
  have vc : vp_in (nI (8 * e + c)) 96 := vp_in_nI (by omega) (by decide)
  have cc : (nI (8 * e + c)).toNatClampNeg = 8 * e + c := nI_clamp (by omega)
  have kb := (floc b hb).1
  have kc := (floc c hc).1
  refine pv_43 _ _ σ _ (pz_ki (w_locals f1) ?_)
  rw [p1, cs, ea, nI_add]
  refine ⟨vs, fun z => absurd z (by decide), fun _ => pz_ki (w_locals f1) ?_⟩
  rw [p2, eb, nI_add, cb]
  refine ⟨vs, vb, pz_ki (w_locals f1) ?_⟩
  rw [p3, ec, nI_add, cc]
  refine ⟨vs, vc, fun _ => ?_, fun z => absurd (by decide) z⟩
  refine pv_43_93 _ _ _ _ σ _ ?_
  rw [ca]
  refine ⟨fun z => absurd z (by decide), fun _ => ⟨va, ?_⟩, fun z => absurd z (by decide), fun z => absurd z (by decide), fun z => absurd z (by decide), trivial⟩
  rintro σ1 rfl
  refine pz_kq (rl_go h rfl (rr_num h.2.1 (8 * e + a) _) rfl rfl rfl (by omega) (fun T => ?_))
  refine pv_160 _ _ _ _ ?_
  rw [cs, Ms_r (a := 64) (by decide), Ms_r (a := 65) (by decide), Ms_r (a := 66) (by decide), Ms_r (a := 67) (by decide), g0, g1, g2, g3, h10, ea, eb, ec, nI_a7 a ha, pk_mul, nI_add, nI_add, nI_add, ca, cc, ce]
  have L182 : pz_WP 160 (182, [some (.ref 55), some (.int (nI e)), some (.int (nI (24 * m + l))), some (.int (nI (8 * e + a))), some (.int (nI b)), some (.int (nI c)), none], []) (Ms T G) (pz_is none (Ms T (fu (fu G 91 (8 * e + a) (σ.1 43 (8 * e + b) + σ.1 43 (8 * e + c))) 90 e (fu G 91 (8 * e + a) (σ.1 43 (8 * e + b) + σ.1 43 (8 * e + c)) 90 e + 1)))) := by
    refine pv_160_182 _ _ _ _ _ _ _ ?_
    rw [cs, Ms_r (a := 64) (by decide), Ms_r (a := 91) (by decide), g0, h10, pk_mul, nI_add, nI_add, ca, cb, cc, ce, ← kb, ← kc]
    refine ⟨vs, vb, vc, pz_ki (r := σ.1 43 (8 * e + b) + σ.1 43 (8 * e + c)) (s := Ms T G) (pv_159 _ _ _ _ _ ⟨fun _ => ⟨rfl, rfl⟩, fun z => absurd rfl z⟩) ⟨va, ?_⟩⟩
    rintro σ2 rfl
    refine ⟨ve, ve, ?_⟩
    rintro σ3 rfl
    rw [Ms_u (by decide), Ms_r (a := 90) (by decide)]
    exact ⟨rfl, Ms_u (by decide)⟩
  exact ⟨vs, vs, vs, vs, fun z => absurd z (by decide), fun z => absurd z (by decide), fun _ => ⟨vs, fun _ => L182, fun z => absurd (by decide) z⟩, fun z => absurd z (by decide), fun z => absurd z (by decide), fun z => absurd z (by decide), fun z => absurd z (by decide), fun z => absurd z (by decide), fun z => absurd z (by decide), fun z => absurd z (by decide), fun z => absurd z (by decide), fun z => absurd z (by decide), fun z => absurd z (by decide), fun z => absurd z (by decide), fun z => absurd z (by decide), fun z => absurd z (by decide), fun z => absurd z (by decide), fun z => absurd z (by decide), fun z => absurd z (by decide), fun z => absurd z (by decide), fun z => absurd z (by decide), fun z => absurd z (by decide), fun z => absurd z (by decide), trivial⟩
theorem w_op2 {σ : pz_Sg} {G : iv_F} (h : rL B nt nf ns nm m0 t1 t0 pb wv e nx dn fl pr m l σ.1 G) (h10 : B 10 (24 * m + l) = nI 2) : pz_WP 43 (0, pz_en 6 [.ref 39, .int (nI (24 * m + l)), .int (nI 2)], []) σ (rP B nt ns nm m0 t1 t0 pb wv e nx dn fl pr (W160 e (24 * m + l)) σ G) := by
  obtain ⟨⟨f1, f2, f3⟩, ⟨f4, f5, f6⟩, ⟨f7, f8, f9, f10⟩, ⟨p0, p1, p2, p3⟩, ⟨g0, g1, g2, g3⟩, floc, b60⟩ := rl h
  obtain ⟨u1, u2, u3⟩ := rl_op h (by decide) h10
  have vs : vp_in (nI (24 * m + l)) 240 := vp_in_nI f6 (by decide)
  have ve : vp_in (nI e) 12 := vp_in_nI f3 (by decide)
  have cs : (nI (24 * m + l)).toNatClampNeg = 24 * m + l := nI_clamp (by omega)
  have ce : (nI e).toNatClampNeg = e := nI_clamp (by omega)
  obtain ⟨a, ha, ea⟩ := vp_in_of (show vp_in (B 11 (24 * m + l)) 8 from u1) (by decide)
  obtain ⟨b, hb, eb⟩ := vp_in_of (show vp_in (B 12 (24 * m + l)) 8 from u2) (by decide)
  obtain ⟨c, hc, ec⟩ := vp_in_of (show vp_in (B 13 (24 * m + l)) 8 from u3) (by decide)
  have va : vp_in (nI (8 * e + a)) 96 := vp_in_nI (by omega) (by decide)
  have ca : (nI (8 * e + a)).toNatClampNeg = 8 * e + a := nI_clamp (by omega)
  have vb : vp_in (nI (8 * e + b)) 96 := vp_in_nI (by omega) (by decide)
  have cb : (nI (8 * e + b)).toNatClampNeg = 8 * e + b := nI_clamp (by omega)
  have vc : vp_in (nI (8 * e + c)) 96 := vp_in_nI (by omega) (by decide)
  have cc : (nI (8 * e + c)).toNatClampNeg = 8 * e + c := nI_clamp (by omega)
  have kb := (floc b hb).1
  have kc := (floc c hc).1
  refine pv_43 _ _ σ _ (pz_ki (w_locals f1) ?_)
  rw [p1, cs, ea, nI_add]
  refine ⟨vs, fun z => absurd z (by decide), fun _ => pz_ki (w_locals f1) ?_⟩
  rw [p2, eb, nI_add, cb]
  refine ⟨vs, vb, pz_ki (w_locals f1) ?_⟩
  rw [p3, ec, nI_add, cc]
  refine ⟨vs, vc, fun _ => ?_, fun z => absurd (by decide) z⟩
  refine pv_43_93 _ _ _ _ σ _ ?_
  rw [ca]
  refine ⟨fun z => absurd z (by decide), fun z => absurd z (by decide), fun _ => ⟨va, ?_⟩, fun z => absurd z (by decide), fun z => absurd z (by decide), trivial⟩
  rintro σ1 rfl
  refine pz_kq (rl_go h rfl (rr_num h.2.1 (8 * e + a) _) rfl rfl rfl (by omega) (fun T => ?_))
  refine pv_160 _ _ _ _ ?_
  rw [cs, Ms_r (a := 64) (by decide), Ms_r (a := 65) (by decide), Ms_r (a := 66) (by decide), Ms_r (a := 67) (by decide), g0, g1, g2, g3, h10, ea, eb, ec, nI_a7 a ha, pk_mul, nI_add, nI_add, nI_add, ca, cc, ce]
  have L182 : pz_WP 160 (182, [some (.ref 55), some (.int (nI e)), some (.int (nI (24 * m + l))), some (.int (nI (8 * e + a))), some (.int (nI b)), some (.int (nI c)), none], []) (Ms T G) (pz_is none (Ms T (fu (fu G 91 (8 * e + a) (σ.1 43 (8 * e + b) - σ.1 43 (8 * e + c))) 90 e (fu G 91 (8 * e + a) (σ.1 43 (8 * e + b) - σ.1 43 (8 * e + c)) 90 e + 1)))) := by
    refine pv_160_182 _ _ _ _ _ _ _ ?_
    rw [cs, Ms_r (a := 64) (by decide), Ms_r (a := 91) (by decide), g0, h10, pk_mul, nI_add, nI_add, ca, cb, cc, ce, ← kb, ← kc]
    refine ⟨vs, vb, vc, pz_ki (r := σ.1 43 (8 * e + b) - σ.1 43 (8 * e + c)) (s := Ms T G) (pv_159 _ _ _ _ _ ⟨fun z => absurd z (by decide), fun _ => ⟨fun _ => ⟨rfl, rfl⟩, fun z => absurd rfl z⟩⟩) ⟨va, ?_⟩⟩
    rintro σ2 rfl
    refine ⟨ve, ve, ?_⟩
    rintro σ3 rfl
    rw [Ms_u (by decide), Ms_r (a := 90) (by decide)]
    exact ⟨rfl, Ms_u (by decide)⟩
  exact ⟨vs, vs, vs, vs, fun z => absurd z (by decide), fun z => absurd z (by decide), fun z => absurd z (by decide), fun _ => ⟨vs, fun _ => L182, fun z => absurd (by decide) z⟩, fun z => absurd z (by decide), fun z => absurd z (by decide), fun z => absurd z (by decide), fun z => absurd z (by decide), fun z => absurd z (by decide), fun z => absurd z (by decide), fun z => absurd z (by decide), fun z => absurd z (by decide), fun z => absurd z (by decide), fun z => absurd z (by decide), fun z => absurd z (by decide), fun z => absurd z (by decide), fun z => absurd z (by decide), fun z => absurd z (by decide), fun z => absurd z (by decide), fun z => absurd z (by decide), fun z => absurd z (by decide), fun z => absurd z (by decide), fun z => absurd z (by decide), trivial⟩
theorem w_op3 {σ : pz_Sg} {G : iv_F} (h : rL B nt nf ns nm m0 t1 t0 pb wv e nx dn fl pr m l σ.1 G) (h10 : B 10 (24 * m + l) = nI 3) : pz_WP 43 (0, pz_en 6 [.ref 39, .int (nI (24 * m + l)), .int (nI 3)], []) σ (rP B nt ns nm m0 t1 t0 pb wv e nx dn fl pr (W160 e (24 * m + l)) σ G) := by
  obtain ⟨⟨f1, f2, f3⟩, ⟨f4, f5, f6⟩, ⟨f7, f8, f9, f10⟩, ⟨p0, p1, p2, p3⟩, ⟨g0, g1, g2, g3⟩, floc, b60⟩ := rl h
  obtain ⟨u1, u2, u3⟩ := rl_op h (by decide) h10
  have vs : vp_in (nI (24 * m + l)) 240 := vp_in_nI f6 (by decide)
  have ve : vp_in (nI e) 12 := vp_in_nI f3 (by decide)
  have cs : (nI (24 * m + l)).toNatClampNeg = 24 * m + l := nI_clamp (by omega)
  have ce : (nI e).toNatClampNeg = e := nI_clamp (by omega)
  obtain ⟨a, ha, ea⟩ := vp_in_of (show vp_in (B 11 (24 * m + l)) 8 from u1) (by decide)
  obtain ⟨b, hb, eb⟩ := vp_in_of (show vp_in (B 12 (24 * m + l)) 8 from u2) (by decide)
  obtain ⟨c, hc, ec⟩ := vp_in_of (show vp_in (B 13 (24 * m + l)) 8 from u3) (by decide)
  have va : vp_in (nI (8 * e + a)) 96 := vp_in_nI (by omega) (by decide)
  have ca : (nI (8 * e + a)).toNatClampNeg = 8 * e + a := nI_clamp (by omega)
  have vb : vp_in (nI (8 * e + b)) 96 := vp_in_nI (by omega) (by decide)
  have cb : (nI (8 * e + b)).toNatClampNeg = 8 * e + b := nI_clamp (by omega)
  have vc : vp_in (nI (8 * e + c)) 96 := vp_in_nI (by omega) (by decide)
  have cc : (nI (8 * e + c)).toNatClampNeg = 8 * e + c := nI_clamp (by omega)
  have kb := (floc b hb).1
  have kc := (floc c hc).1
  refine pv_43 _ _ σ _ (pz_ki (w_locals f1) ?_)
  rw [p1, cs, ea, nI_add]
  refine ⟨vs, fun z => absurd z (by decide), fun _ => pz_ki (w_locals f1) ?_⟩
  rw [p2, eb, nI_add, cb]
  refine ⟨vs, vb, pz_ki (w_locals f1) ?_⟩
  rw [p3, ec, nI_add, cc]
  refine ⟨vs, vc, fun _ => ?_, fun z => absurd (by decide) z⟩
  refine pv_43_93 _ _ _ _ σ _ ?_
  rw [ca]
  refine ⟨fun z => absurd z (by decide), fun z => absurd z (by decide), fun z => absurd z (by decide), fun _ => ⟨va, ?_⟩, fun z => absurd z (by decide), trivial⟩
  rintro σ1 rfl
  refine pz_kq (rl_go h rfl (rr_num h.2.1 (8 * e + a) _) rfl rfl rfl (by omega) (fun T => ?_))
  refine pv_160 _ _ _ _ ?_
  rw [cs, Ms_r (a := 64) (by decide), Ms_r (a := 65) (by decide), Ms_r (a := 66) (by decide), Ms_r (a := 67) (by decide), g0, g1, g2, g3, h10, ea, eb, ec, nI_a7 a ha, pk_mul, nI_add, nI_add, nI_add, ca, cc, ce]
  have L182 : pz_WP 160 (182, [some (.ref 55), some (.int (nI e)), some (.int (nI (24 * m + l))), some (.int (nI (8 * e + a))), some (.int (nI b)), some (.int (nI c)), none], []) (Ms T G) (pz_is none (Ms T (fu (fu G 91 (8 * e + a) (σ.1 43 (8 * e + b) * σ.1 43 (8 * e + c))) 90 e (fu G 91 (8 * e + a) (σ.1 43 (8 * e + b) * σ.1 43 (8 * e + c)) 90 e + 1)))) := by
    refine pv_160_182 _ _ _ _ _ _ _ ?_
    rw [cs, Ms_r (a := 64) (by decide), Ms_r (a := 91) (by decide), g0, h10, pk_mul, nI_add, nI_add, ca, cb, cc, ce, ← kb, ← kc]
    refine ⟨vs, vb, vc, pz_ki (r := σ.1 43 (8 * e + b) * σ.1 43 (8 * e + c)) (s := Ms T G) (pv_159 _ _ _ _ _ ⟨fun z => absurd z (by decide), fun _ => ⟨fun z => absurd z (by decide), fun _ => ⟨fun _ => ⟨rfl, rfl⟩, fun z => absurd rfl z⟩⟩⟩) ⟨va, ?_⟩⟩
    rintro σ2 rfl
    refine ⟨ve, ve, ?_⟩
    rintro σ3 rfl
    rw [Ms_u (by decide), Ms_r (a := 90) (by decide)]
    exact ⟨rfl, Ms_u (by decide)⟩
  exact ⟨vs, vs, vs, vs, fun z => absurd z (by decide), fun z => absurd z (by decide), fun z => absurd z (by decide), fun z => absurd z (by decide), fun _ => ⟨vs, fun _ => L182, fun z => absurd (by decide) z⟩, fun z => absurd z (by decide), fun z => absurd z (by decide), fun z => absurd z (by decide), fun z => absurd z (by decide), fun z => absurd z (by decide), fun z => absurd z (by decide), fun z => absurd z (by decide), fun z => absurd z (by decide), fun z => absurd z (by decide), fun z => absurd z (by decide), fun z => absurd z (by decide), fun z => absurd z (by decide), fun z => absurd z (by decide), fun z => absurd z (by decide), fun z => absurd z (by decide), fun z => absurd z (by decide), fun z => absurd z (by decide), fun z => absurd z (by decide), trivial⟩
theorem w_op4 {σ : pz_Sg} {G : iv_F} (h : rL B nt nf ns nm m0 t1 t0 pb wv e nx dn fl pr m l σ.1 G) (h10 : B 10 (24 * m + l) = nI 4) : pz_WP 43 (0, pz_en 6 [.ref 39, .int (nI (24 * m + l)), .int (nI 4)], []) σ (rP B nt ns nm m0 t1 t0 pb wv e nx dn fl pr (W160 e (24 * m + l)) σ G) := by
  obtain ⟨⟨f1, f2, f3⟩, ⟨f4, f5, f6⟩, ⟨f7, f8, f9, f10⟩, ⟨p0, p1, p2, p3⟩, ⟨g0, g1, g2, g3⟩, floc, b60⟩ := rl h
  obtain ⟨u1, u2, u3⟩ := rl_op h (by decide) h10
  have vs : vp_in (nI (24 * m + l)) 240 := vp_in_nI f6 (by decide)
  have ve : vp_in (nI e) 12 := vp_in_nI f3 (by decide)
  have cs : (nI (24 * m + l)).toNatClampNeg = 24 * m + l := nI_clamp (by omega)
  have ce : (nI e).toNatClampNeg = e := nI_clamp (by omega)
  obtain ⟨a, ha, ea⟩ := vp_in_of (show vp_in (B 11 (24 * m + l)) 8 from u1) (by decide)
  obtain ⟨b, hb, eb⟩ := vp_in_of (show vp_in (B 12 (24 * m + l)) 8 from u2) (by decide)
  obtain ⟨c, hc, ec⟩ := vp_in_of (show vp_in (B 13 (24 * m + l)) 8 from u3) (by decide)
  have va : vp_in (nI (8 * e + a)) 96 := vp_in_nI (by omega) (by decide)
  have ca : (nI (8 * e + a)).toNatClampNeg = 8 * e + a := nI_clamp (by omega)
  have vb : vp_in (nI (8 * e + b)) 96 := vp_in_nI (by omega) (by decide)
  have cb : (nI (8 * e + b)).toNatClampNeg = 8 * e + b := nI_clamp (by omega)
  have vc : vp_in (nI (8 * e + c)) 96 := vp_in_nI (by omega) (by decide)
  have cc : (nI (8 * e + c)).toNatClampNeg = 8 * e + c := nI_clamp (by omega)
  have kb := (floc b hb).1
  have kc := (floc c hc).1
  refine pv_43 _ _ σ _ (pz_ki (w_locals f1) ?_)
  rw [p1, cs, ea, nI_add]
  refine ⟨vs, fun z => absurd z (by decide), fun _ => pz_ki (w_locals f1) ?_⟩
  rw [p2, eb, nI_add, cb]
  refine ⟨vs, vb, pz_ki (w_locals f1) ?_⟩
  rw [p3, ec, nI_add, cc]
  refine ⟨vs, vc, fun z => absurd z (by decide), fun _ => ⟨fun kz => ?_, fun kz => ?_⟩⟩
  · refine rl_ft (f := 1) (by decide) (fun T s hs => ?_)
    refine pv_160 _ _ _ _ ?_
    rw [cs, Ms_r (a := 64) (by decide), Ms_r (a := 65) (by decide), Ms_r (a := 66) (by decide), Ms_r (a := 67) (by decide), g0, g1, g2, g3, h10, ea, eb, ec, nI_a7 a ha, pk_mul, nI_add, nI_add, nI_add, cc, Ms_r (a := 91) (by decide), ← kc]
    exact ⟨vs, vs, vs, vs, fun z => absurd z (by decide), fun z => absurd z (by decide), fun z => absurd z (by decide), fun z => absurd z (by decide), fun z => absurd z (by decide), fun _ => ⟨vs, fun z => absurd z (by decide), fun _ => ⟨vc, fun _ => pz_kn hs, fun z => absurd kz z⟩⟩, fun z => absurd z (by decide), fun z => absurd z (by decide), fun z => absurd z (by decide), fun z => absurd z (by decide), fun z => absurd z (by decide), fun z => absurd z (by decide), fun z => absurd z (by decide), fun z => absurd z (by decide), fun z => absurd z (by decide), fun z => absurd z (by decide), fun z => absurd z (by decide), fun z => absurd z (by decide), fun z => absurd z (by decide), fun z => absurd z (by decide), fun z => absurd z (by decide), fun z => absurd z (by decide), fun z => absurd z (by decide), trivial⟩
  · refine pv_43_93 _ _ _ _ σ _ ?_
    rw [ca]
    refine ⟨fun z => absurd z (by decide), fun z => absurd z (by decide), fun z => absurd z (by decide), fun z => absurd z (by decide), fun _ => ⟨kz, va, ?_⟩, trivial⟩
    rintro σ1 rfl
    refine pz_kq (rl_go h rfl (rr_num h.2.1 (8 * e + a) _) rfl rfl rfl (by omega) (fun T => ?_))
    refine pv_160 _ _ _ _ ?_
    rw [cs, Ms_r (a := 64) (by decide), Ms_r (a := 65) (by decide), Ms_r (a := 66) (by decide), Ms_r (a := 67) (by decide), g0, g1, g2, g3, h10, ea, eb, ec, nI_a7 a ha, pk_mul, nI_add, nI_add, nI_add, ca, cc, ce]
    have L182 : pz_WP 160 (182, [some (.ref 55), some (.int (nI e)), some (.int (nI (24 * m + l))), some (.int (nI (8 * e + a))), some (.int (nI b)), some (.int (nI c)), none], []) (Ms T G) (pz_is none (Ms T (fu (fu G 91 (8 * e + a) (σ.1 43 (8 * e + b) / σ.1 43 (8 * e + c))) 90 e (fu G 91 (8 * e + a) (σ.1 43 (8 * e + b) / σ.1 43 (8 * e + c)) 90 e + 1)))) := by
      refine pv_160_182 _ _ _ _ _ _ _ ?_
      rw [cs, Ms_r (a := 64) (by decide), Ms_r (a := 91) (by decide), g0, h10, pk_mul, nI_add, nI_add, ca, cb, cc, ce, ← kb, ← kc]
      refine ⟨vs, vb, vc, pz_ki (r := σ.1 43 (8 * e + b) / σ.1 43 (8 * e + c)) (s := Ms T G) (pv_159 _ _ _ _ _ ⟨fun z => absurd z (by decide), fun _ => ⟨fun z => absurd z (by decide), fun _ => ⟨fun z => absurd z (by decide), fun _ => ⟨fun _ => ⟨kz, rfl, rfl⟩, fun z => absurd rfl z⟩⟩⟩⟩) ⟨va, ?_⟩⟩
      rintro σ2 rfl
      refine ⟨ve, ve, ?_⟩
      rintro σ3 rfl
      rw [Ms_u (by decide), Ms_r (a := 90) (by decide)]
      exact ⟨rfl, Ms_u (by decide)⟩
    rw [Ms_r (a := 91) (by decide), ← kc]
    exact ⟨vs, vs, vs, vs, fun z => absurd z (by decide), fun z => absurd z (by decide), fun z => absurd z (by decide), fun z => absurd z (by decide), fun z => absurd z (by decide), fun _ => ⟨vs, fun z => absurd z (by decide), fun _ => ⟨vc, fun z => absurd z kz, fun _ => L182⟩⟩, fun z => absurd z (by decide), fun z => absurd z (by decide), fun z => absurd z (by decide), fun z => absurd z (by decide), fun z => absurd z (by decide), fun z => absurd z (by decide), fun z => absurd z (by decide), fun z => absurd z (by decide), fun z => absurd z (by decide), fun z => absurd z (by decide), fun z => absurd z (by decide), fun z => absurd z (by decide), fun z => absurd z (by decide), fun z => absurd z (by decide), fun z => absurd z (by decide), fun z => absurd z (by decide), fun z => absurd z (by decide), trivial⟩
theorem w_op5 {σ : pz_Sg} {G : iv_F} (h : rL B nt nf ns nm m0 t1 t0 pb wv e nx dn fl pr m l σ.1 G) (h10 : B 10 (24 * m + l) = nI 5) : pz_WP 43 (0, pz_en 6 [.ref 39, .int (nI (24 * m + l)), .int (nI 5)], []) σ (rP B nt ns nm m0 t1 t0 pb wv e nx dn fl pr (W160 e (24 * m + l)) σ G) := by
  obtain ⟨⟨f1, f2, f3⟩, ⟨f4, f5, f6⟩, ⟨f7, f8, f9, f10⟩, ⟨p0, p1, p2, p3⟩, ⟨g0, g1, g2, g3⟩, floc, b60⟩ := rl h
  obtain ⟨u1, u2, u3⟩ := rl_op h (by decide) h10
  have vs : vp_in (nI (24 * m + l)) 240 := vp_in_nI f6 (by decide)
  have ve : vp_in (nI e) 12 := vp_in_nI f3 (by decide)
  have cs : (nI (24 * m + l)).toNatClampNeg = 24 * m + l := nI_clamp (by omega)
  have ce : (nI e).toNatClampNeg = e := nI_clamp (by omega)
  obtain ⟨a, ha, ea⟩ := vp_in_of (show vp_in (B 11 (24 * m + l)) 8 from u1) (by decide)
  obtain ⟨b, hb, eb⟩ := vp_in_of (show vp_in (B 12 (24 * m + l)) 8 from u2) (by decide)
  obtain ⟨c, hc, ec⟩ := vp_in_of (show vp_in (B 13 (24 * m + l)) 8 from u3) (by decide)
  have va : vp_in (nI (8 * e + a)) 96 := vp_in_nI (by omega) (by decide)
  have ca : (nI (8 * e + a)).toNatClampNeg = 8 * e + a := nI_clamp (by omega)
  have vb : vp_in (nI (8 * e + b)) 96 := vp_in_nI (by omega) (by decide)
  have cb : (nI (8 * e + b)).toNatClampNeg = 8 * e + b := nI_clamp (by omega)
  have vc : vp_in (nI (8 * e + c)) 96 := vp_in_nI (by omega) (by decide)
  have cc : (nI (8 * e + c)).toNatClampNeg = 8 * e + c := nI_clamp (by omega)
  have kb := (floc b hb).1
  have kc := (floc c hc).1
  refine pv_43 _ _ σ _ (pz_ki (w_locals f1) ?_)
  rw [p1, cs, ea, nI_add]
  refine ⟨vs, fun z => absurd z (by decide), fun _ => pz_ki (w_locals f1) ?_⟩
  rw [p2, eb, nI_add, cb]
  refine ⟨vs, vb, pz_ki (w_locals f1) ?_⟩
  rw [p3, ec, nI_add, cc]
  refine ⟨vs, vc, fun z => absurd z (by decide), fun _ => ⟨fun kz => ?_, fun kz => ?_⟩⟩
  · refine rl_ft (f := 1) (by decide) (fun T s hs => ?_)
    refine pv_160 _ _ _ _ ?_
    rw [cs, Ms_r (a := 64) (by decide), Ms_r (a := 65) (by decide), Ms_r (a := 66) (by decide), Ms_r (a := 67) (by decide), g0, g1, g2, g3, h10, ea, eb, ec, nI_a7 a ha, pk_mul, nI_add, nI_add, nI_add, cc, Ms_r (a := 91) (by decide), ← kc]
    exact ⟨vs, vs, vs, vs, fun z => absurd z (by decide), fun z => absurd z (by decide), fun z => absurd z (by decide), fun z => absurd z (by decide), fun z => absurd z (by decide), fun z => absurd z (by decide), fun _ => ⟨vs, fun z => absurd z (by decide), fun _ => ⟨vc, fun _ => pz_kn hs, fun z => absurd kz z⟩⟩, fun z => absurd z (by decide), fun z => absurd z (by decide), fun z => absurd z (by decide), fun z => absurd z (by decide), fun z => absurd z (by decide), fun z => absurd z (by decide), fun z => absurd z (by decide), fun z => absurd z (by decide), fun z => absurd z (by decide), fun z => absurd z (by decide), fun z => absurd z (by decide), fun z => absurd z (by decide), fun z => absurd z (by decide), fun z => absurd z (by decide), fun z => absurd z (by decide), fun z => absurd z (by decide), trivial⟩
  · refine pv_43_93 _ _ _ _ σ _ ?_
    rw [ca]
    refine ⟨fun _ => ⟨kz, va, ?_⟩, fun z => absurd z (by decide), fun z => absurd z (by decide), fun z => absurd z (by decide), fun z => absurd z (by decide), trivial⟩
    rintro σ1 rfl
    refine pz_kq (rl_go h rfl (rr_num h.2.1 (8 * e + a) _) rfl rfl rfl (by omega) (fun T => ?_))
    refine pv_160 _ _ _ _ ?_
    rw [cs, Ms_r (a := 64) (by decide), Ms_r (a := 65) (by decide), Ms_r (a := 66) (by decide), Ms_r (a := 67) (by decide), g0, g1, g2, g3, h10, ea, eb, ec, nI_a7 a ha, pk_mul, nI_add, nI_add, nI_add, ca, cc, ce]
    have L182 : pz_WP 160 (182, [some (.ref 55), some (.int (nI e)), some (.int (nI (24 * m + l))), some (.int (nI (8 * e + a))), some (.int (nI b)), some (.int (nI c)), none], []) (Ms T G) (pz_is none (Ms T (fu (fu G 91 (8 * e + a) (σ.1 43 (8 * e + b) - σ.1 43 (8 * e + b) / σ.1 43 (8 * e + c) * σ.1 43 (8 * e + c))) 90 e (fu G 91 (8 * e + a) (σ.1 43 (8 * e + b) - σ.1 43 (8 * e + b) / σ.1 43 (8 * e + c) * σ.1 43 (8 * e + c)) 90 e + 1)))) := by
      refine pv_160_182 _ _ _ _ _ _ _ ?_
      rw [cs, Ms_r (a := 64) (by decide), Ms_r (a := 91) (by decide), g0, h10, pk_mul, nI_add, nI_add, ca, cb, cc, ce, ← kb, ← kc]
      refine ⟨vs, vb, vc, pz_ki (r := σ.1 43 (8 * e + b) - σ.1 43 (8 * e + b) / σ.1 43 (8 * e + c) * σ.1 43 (8 * e + c)) (s := Ms T G) (pv_159 _ _ _ _ _ ⟨fun z => absurd z (by decide), fun _ => ⟨fun z => absurd z (by decide), fun _ => ⟨fun z => absurd z (by decide), fun _ => ⟨fun z => absurd z (by decide), fun _ => ⟨kz, rfl, rfl⟩⟩⟩⟩⟩) ⟨va, ?_⟩⟩
      rintro σ2 rfl
      refine ⟨ve, ve, ?_⟩
      rintro σ3 rfl
      rw [Ms_u (by decide), Ms_r (a := 90) (by decide)]
      exact ⟨rfl, Ms_u (by decide)⟩
    rw [Ms_r (a := 91) (by decide), ← kc]
    exact ⟨vs, vs, vs, vs, fun z => absurd z (by decide), fun z => absurd z (by decide), fun z => absurd z (by decide), fun z => absurd z (by decide), fun z => absurd z (by decide), fun z => absurd z (by decide), fun _ => ⟨vs, fun z => absurd z (by decide), fun _ => ⟨vc, fun z => absurd z kz, fun _ => L182⟩⟩, fun z => absurd z (by decide), fun z => absurd z (by decide), fun z => absurd z (by decide), fun z => absurd z (by decide), fun z => absurd z (by decide), fun z => absurd z (by decide), fun z => absurd z (by decide), fun z => absurd z (by decide), fun z => absurd z (by decide), fun z => absurd z (by decide), fun z => absurd z (by decide), fun z => absurd z (by decide), fun z => absurd z (by decide), fun z => absurd z (by decide), fun z => absurd z (by decide), fun z => absurd z (by decide), trivial⟩
theorem w_op6 {σ : pz_Sg} {G : iv_F} (h : rL B nt nf ns nm m0 t1 t0 pb wv e nx dn fl pr m l σ.1 G) (h10 : B 10 (24 * m + l) = nI 6) : pz_WP 44 (0, pz_en 6 [.ref 39, .int (nI (24 * m + l)), .int (nI 6)], []) σ (rP B nt ns nm m0 t1 t0 pb wv e nx dn fl pr (W160 e (24 * m + l)) σ G) := by
  obtain ⟨⟨f1, f2, f3⟩, ⟨f4, f5, f6⟩, ⟨f7, f8, f9, f10⟩, ⟨p0, p1, p2, p3⟩, ⟨g0, g1, g2, g3⟩, floc, b60⟩ := rl h
  obtain ⟨u1, u2, u3⟩ := rl_op h (by decide) h10
  have vs : vp_in (nI (24 * m + l)) 240 := vp_in_nI f6 (by decide)
  have ve : vp_in (nI e) 12 := vp_in_nI f3 (by decide)
  have cs : (nI (24 * m + l)).toNatClampNeg = 24 * m + l := nI_clamp (by omega)
  have ce : (nI e).toNatClampNeg = e := nI_clamp (by omega)
  obtain ⟨a, ha, ea⟩ := vp_in_of (show vp_in (B 11 (24 * m + l)) 8 from u1) (by decide)
  have va : vp_in (nI (8 * e + a)) 96 := vp_in_nI (by omega) (by decide)
  have ca : (nI (8 * e + a)).toNatClampNeg = 8 * e + a := nI_clamp (by omega)
  refine pv_44 _ _ σ _ (pz_ki (w_locals f1) ?_)
  rw [p1, cs, ea, nI_add, ca]
  refine ⟨vs, fun _ => ⟨va, ?_⟩, fun z => absurd rfl z⟩
  rintro σ6 rfl
  refine pz_kq (rl_go h rfl (rr_ref h.2.1 (8 * e + a) (Or.inl rfl)) rfl rfl rfl (by omega) (fun T => ?_))
  refine pv_160 _ _ _ _ ?_
  rw [cs, Ms_r (a := 64) (by decide), Ms_r (a := 65) (by decide), Ms_r (a := 66) (by decide), Ms_r (a := 67) (by decide), g0, g1, g2, g3, h10, ea, nI_a7 a ha, pk_mul, nI_add, ca, ce]
  refine ⟨vs, vs, vs, vs, fun z => absurd z (by decide), fun z => absurd z (by decide), fun z => absurd z (by decide), fun z => absurd z (by decide), fun z => absurd z (by decide), fun z => absurd z (by decide), fun z => absurd z (by decide), fun _ => ⟨va, ?_⟩, fun z => absurd z (by decide), fun z => absurd z (by decide), fun z => absurd z (by decide), fun z => absurd z (by decide), fun z => absurd z (by decide), fun z => absurd z (by decide), fun z => absurd z (by decide), fun z => absurd z (by decide), fun z => absurd z (by decide), fun z => absurd z (by decide), fun z => absurd z (by decide), fun z => absurd z (by decide), fun z => absurd z (by decide), fun z => absurd z (by decide), fun z => absurd z (by decide), trivial⟩
  rintro σ4 rfl
  refine ⟨ve, ve, ?_⟩
  rintro σ5 rfl
  rw [Ms_u (by decide), Ms_r (a := 90) (by decide)]
  exact ⟨rfl, Ms_u (by decide)⟩
theorem w_op7 {σ : pz_Sg} {G : iv_F} (h : rL B nt nf ns nm m0 t1 t0 pb wv e nx dn fl pr m l σ.1 G) (h10 : B 10 (24 * m + l) = nI 7) : pz_WP 44 (0, pz_en 6 [.ref 39, .int (nI (24 * m + l)), .int (nI 7)], []) σ (rP B nt ns nm m0 t1 t0 pb wv e nx dn fl pr (W160 e (24 * m + l)) σ G) := by
  obtain ⟨⟨f1, f2, f3⟩, ⟨f4, f5, f6⟩, ⟨f7, f8, f9, f10⟩, ⟨p0, p1, p2, p3⟩, ⟨g0, g1, g2, g3⟩, floc, b60⟩ := rl h
  obtain ⟨u1, u2, u3⟩ := rl_op h (by decide) h10
  have vs : vp_in (nI (24 * m + l)) 240 := vp_in_nI f6 (by decide)
  have ve : vp_in (nI e) 12 := vp_in_nI f3 (by decide)
  have cs : (nI (24 * m + l)).toNatClampNeg = 24 * m + l := nI_clamp (by omega)
  have ce : (nI e).toNatClampNeg = e := nI_clamp (by omega)
  obtain ⟨a, ha, ea⟩ := vp_in_of (show vp_in (B 11 (24 * m + l)) 8 from u1) (by decide)
  obtain ⟨b, hb, eb⟩ := vp_in_of (show vp_in (B 12 (24 * m + l)) 8 from u2) (by decide)
  have va : vp_in (nI (8 * e + a)) 96 := vp_in_nI (by omega) (by decide)
  have ca : (nI (8 * e + a)).toNatClampNeg = 8 * e + a := nI_clamp (by omega)
  have vb : vp_in (nI (8 * e + b)) 96 := vp_in_nI (by omega) (by decide)
  have cb : (nI (8 * e + b)).toNatClampNeg = 8 * e + b := nI_clamp (by omega)
  refine pv_44 _ _ σ _ (pz_ki (w_locals f1) ?_)
  rw [p1, cs, ea, nI_add, ca]
  refine ⟨vs, fun z => absurd z (by decide), fun _ => ⟨fun _ => pz_ki (w_locals f1) ?_, fun z => absurd rfl z⟩⟩
  rw [p2, eb, nI_add, cb]
  refine ⟨vs, vb, va, ?_⟩
  rintro σ6 rfl
  refine pz_kq (rl_go h rfl (rr_ref h.2.1 (8 * e + a) (floc b hb).2.2) rfl rfl rfl (by omega) (fun T => ?_))
  refine pv_160 _ _ _ _ ?_
  rw [cs, Ms_r (a := 64) (by decide), Ms_r (a := 65) (by decide), Ms_r (a := 66) (by decide), Ms_r (a := 67) (by decide), g0, g1, g2, g3, h10, ea, eb, nI_a7 a ha, pk_mul, nI_add, nI_add, ca, cb, ce, Ms_r (a := 92) (by decide), ← (floc b hb).2.1]
  refine ⟨vs, vs, vs, vs, fun z => absurd z (by decide), fun z => absurd z (by decide), fun z => absurd z (by decide), fun z => absurd z (by decide), fun z => absurd z (by decide), fun z => absurd z (by decide), fun z => absurd z (by decide), fun z => absurd z (by decide), fun _ => ⟨vb, va, ?_⟩, fun z => absurd z (by decide), fun z => absurd z (by decide), fun z => absurd z (by decide), fun z => absurd z (by decide), fun z => absurd z (by decide), fun z => absurd z (by decide), fun z => absurd z (by decide), fun z => absurd z (by decide), fun z => absurd z (by decide), fun z => absurd z (by decide), fun z => absurd z (by decide), fun z => absurd z (by decide), fun z => absurd z (by decide), fun z => absurd z (by decide), trivial⟩
  rintro σ4 rfl
  refine ⟨ve, ve, ?_⟩
  rintro σ5 rfl
  rw [Ms_u (by decide), Ms_r (a := 90) (by decide)]
  exact ⟨rfl, Ms_u (by decide)⟩
end
