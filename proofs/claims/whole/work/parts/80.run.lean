section
variable {B : iv_F} {nt nf ns nm m0 t1 t0 pb : Nat} {wv : Int32} {e nx dn fl pr m l : Nat}
/-! a call: references, then numbers -/
theorem w_cl2 {σ : pz_Sg} {G : iv_F} (h : rL B nt nf ns nm m0 t1 t0 pb wv e nx dn fl pr m l σ.1 G) {b c q : Nat} (ec : B 13 (24 * m + l) = nI c) (hb : b < nm) (eq : B 7 b = nI q) (hq : q ≤ 3) (hcq : c + q ≤ 8) (he : e + 1 < 12) : ∀ d k (σ1 : pz_Sg) (G1 : iv_F), k + d = q → RR B nt ns nm m0 t1 t0 pb wv (e + 2) nx dn fl pr σ1.1 G1 → σ1.2 = σ.2 → (∀ T s, pz_WP 163 (73, [some (.ref 55), some (.int (nI e)), some (.int (nI (24 * m + l))), some (.int (nI b)), some (.int (nI k))], []) (Ms T G1) (pz_is none s) → W160 e (24 * m + l) (Ms T G) (pz_is none s)) → pz_WP 49 (105, [some (.ref 39), none, some (.int (nI b)), none, some (.int (nI (8 * e + c))), some (.int (nI k))], []) σ1 (rP B nt ns nm m0 t1 t0 pb wv e nx dn fl pr (W160 e (24 * m + l)) σ G) := by
  obtain ⟨⟨f1, f2, f3⟩, ⟨f4, f5, f6⟩, ⟨f7, f8, f9, f10⟩, ⟨p0, p1, p2, p3⟩, ⟨g0, g1, g2, g3⟩, floc, b60⟩ := rl h
  have bm := h.1.1.1.2.2.2
  have vs : vp_in (nI (24 * m + l)) 240 := vp_in_nI f6 (by decide)
  have vb : vp_in (nI b) 10 := vp_in_nI (by omega) (by decide)
  have cb : (nI b).toNatClampNeg = b := nI_clamp (by omega)
  have cs : (nI (24 * m + l)).toNatClampNeg = 24 * m + l := nI_clamp (by omega)
  have q67 : B 67 (24 * m + l) = nI c := by rw [← (h.1.1.2.2.1 m h.2.2.1.1 l h.2.2.2.1).1.2.2.2]; exact ec
  have q61 : B 61 b = nI q := by rw [← (h.1.1.2.1.1 b hb).2.1.1]; exact eq
  intro d
  induction d with
  | zero =>
    intro k σ1 G1 hk R h2 hW
    have hk : k = q := by omega
    subst hk
    have a1 := R.1
    refine pv_49_105 _ _ _ σ1 _ ?_
    rw [cb, rKn a1 7 (by decide) rfl, eq]
    refine ⟨vb, fun _ => ⟨0, rfl, h2, Or.inl ⟨rfl, G1, e + 2, nx, pr, fun T => hW T _ (pv_163_73 _ _ _ _ _ _ ?_), R, by omega, by omega, fun z => absurd z (by omega)⟩⟩, fun z => absurd (nI_le (Nat.le_refl _) (by omega)) z⟩
    rw [cb, Ms_r (a := 61) (by decide), rKg a1 61 (by decide) rfl, q61]
    exact ⟨vb, fun _ => ⟨rfl, rfl⟩, fun z => absurd (nI_le (Nat.le_refl _) (by omega)) z⟩
  | succ d ih =>
    intro k σ1 G1 hk R h2 hW
    have a1 := R.1
    obtain ⟨-, -, -, ⟨⟨s1, -, -⟩, s2, -⟩, -⟩ := id R
    have v1 : vp_in (nI (8 * e + c + k)) 96 := vp_in_nI (by omega) (by decide)
    have v2 : vp_in (nI (8 * (e + 1) + k)) 96 := vp_in_nI (by omega) (by decide)
    have c1 : (nI (8 * e + c + k)).toNatClampNeg = 8 * e + c + k := nI_clamp (by omega)
    have c2 : (nI (8 * (e + 1) + k)).toNatClampNeg = 8 * (e + 1) + k := nI_clamp (by omega)
    have loc := s2 (8 * e + c + k) (by omega)
    refine pv_49_105 _ _ _ σ1 _ ?_
    rw [cb, rKn a1 7 (by decide) rfl, eq]
    refine ⟨vb, fun z => absurd ((nI_leI (by omega) (by omega)).mp z) (by omega), fun _ => pz_ki (w_locals (e := e + 1) s1) ?_⟩
    rw [nI_add, nI_add, c1, c2]
    refine ⟨v1, v2, ?_⟩
    rintro σ2 rfl
    rw [nI_1]
    refine ih (k + 1) _ (fu G1 92 (8 * (e + 1) + k) (σ1.1 44 (8 * e + c + k))) (by omega) (rr_ref R _ loc.2.2) h2 (fun T s hs => hW T s (pv_163_73 _ _ _ _ _ _ ?_))
    rw [cb, cs, Ms_r (a := 61) (by decide), Ms_r (a := 67) (by decide), Ms_r (a := 92) (by decide), rKg a1 61 (by decide) rfl, rKg a1 67 (by decide) rfl, q61, q67, pk_mul, nI_add, nI_add, nI_add, nI_add, show 8 * e + 8 + k = 8 * (e + 1) + k by omega, c1, c2, nI_1, ← loc.2.1]
    refine ⟨vb, fun z => absurd ((nI_leI (by omega) (by omega)).mp z) (by omega), fun _ => ⟨vs, v1, v2, ?_⟩⟩
    rintro σ3 rfl
    rw [Ms_u (by decide)]
    exact hs
theorem w_cl1 {σ : pz_Sg} {G : iv_F} (h : rL B nt nf ns nm m0 t1 t0 pb wv e nx dn fl pr m l σ.1 G) {a b c p q : Nat} (ea : B 11 (24 * m + l) = nI a) (ec : B 13 (24 * m + l) = nI c) (hb : b < nm) (ep : B 6 b = nI p) (eq : B 7 b = nI q) (hp : p ≤ 3) (hq : q ≤ 3) (hap : a + p ≤ 8) (hcq : c + q ≤ 8) (he : e + 1 < 12) : ∀ d k (σ1 : pz_Sg) (G1 : iv_F), k + d = p → RR B nt ns nm m0 t1 t0 pb wv (e + 2) nx dn fl pr σ1.1 G1 → σ1.2 = σ.2 → (∀ T s, pz_WP 163 (19, [some (.ref 55), some (.int (nI e)), some (.int (nI (24 * m + l))), some (.int (nI b)), some (.int (nI k))], []) (Ms T G1) (pz_is none s) → W160 e (24 * m + l) (Ms T G) (pz_is none s)) → pz_WP 49 (61, [some (.ref 39), none, some (.int (nI b)), some (.int (nI (8 * e + a))), some (.int (nI (8 * e + c))), some (.int (nI k))], []) σ1 (rP B nt ns nm m0 t1 t0 pb wv e nx dn fl pr (W160 e (24 * m + l)) σ G) := by
  obtain ⟨⟨f1, f2, f3⟩, ⟨f4, f5, f6⟩, ⟨f7, f8, f9, f10⟩, ⟨p0, p1, p2, p3⟩, ⟨g0, g1, g2, g3⟩, floc, b60⟩ := rl h
  have bm := h.1.1.1.2.2.2
  have vs : vp_in (nI (24 * m + l)) 240 := vp_in_nI f6 (by decide)
  have vb : vp_in (nI b) 10 := vp_in_nI (by omega) (by decide)
  have cb : (nI b).toNatClampNeg = b := nI_clamp (by omega)
  have cs : (nI (24 * m + l)).toNatClampNeg = 24 * m + l := nI_clamp (by omega)
  have q65 : B 65 (24 * m + l) = nI a := by rw [← (h.1.1.2.2.1 m h.2.2.1.1 l h.2.2.2.1).1.2.1]; exact ea
  have q60 : B 60 b = nI p := by rw [← (h.1.1.2.1.1 b hb).1.1]; exact ep
  intro d
  induction d with
  | zero =>
    intro k σ1 G1 hk R h2 hW
    have hk : k = p := by omega
    subst hk
    have a1 := R.1
    refine pv_49_61 _ _ _ _ σ1 _ ?_
    rw [cb, rKn a1 6 (by decide) rfl, ep]
    refine ⟨vb, fun _ => w_cl2 h ec hb eq hq hcq he q 0 σ1 G1 (by omega) R h2 (fun T s hs => hW T s (pv_163_19 _ _ _ _ _ _ ?_)), fun z => absurd (nI_le (Nat.le_refl _) (by omega)) z⟩
    rw [cb, Ms_r (a := 60) (by decide), rKg a1 60 (by decide) rfl, q60]
    exact ⟨vb, fun _ => hs, fun z => absurd (nI_le (Nat.le_refl _) (by omega)) z⟩
  | succ d ih =>
    intro k σ1 G1 hk R h2 hW
    have a1 := R.1
    obtain ⟨-, -, -, ⟨⟨s1, -, -⟩, s2, -⟩, -⟩ := id R
    have v1 : vp_in (nI (8 * e + a + k)) 96 := vp_in_nI (by omega) (by decide)
    have v2 : vp_in (nI (8 * (e + 1) + k)) 96 := vp_in_nI (by omega) (by decide)
    have c1 : (nI (8 * e + a + k)).toNatClampNeg = 8 * e + a + k := nI_clamp (by omega)
    have c2 : (nI (8 * (e + 1) + k)).toNatClampNeg = 8 * (e + 1) + k := nI_clamp (by omega)
    have loc := s2 (8 * e + a + k) (by omega)
    refine pv_49_61 _ _ _ _ σ1 _ ?_
    rw [cb, rKn a1 6 (by decide) rfl, ep]
    refine ⟨vb, fun z => absurd ((nI_leI (by omega) (by omega)).mp z) (by omega), fun _ => pz_ki (w_locals (e := e + 1) s1) ?_⟩
    rw [nI_add, nI_add, c1, c2]
    refine ⟨v1, v2, ?_⟩
    rintro σ2 rfl
    rw [nI_1]
    refine ih (k + 1) _ (fu G1 91 (8 * (e + 1) + k) (σ1.1 43 (8 * e + a + k))) (by omega) (rr_num R _ _) h2 (fun T s hs => hW T s (pv_163_19 _ _ _ _ _ _ ?_))
    rw [cb, cs, Ms_r (a := 60) (by decide), Ms_r (a := 65) (by decide), Ms_r (a := 91) (by decide), rKg a1 60 (by decide) rfl, rKg a1 65 (by decide) rfl, q60, q65, pk_mul, nI_add, nI_add, nI_add, nI_add, show 8 * e + 8 + k = 8 * (e + 1) + k by omega, c1, c2, nI_1, ← loc.1]
    refine ⟨vb, fun z => absurd ((nI_leI (by omega) (by omega)).mp z) (by omega), fun _ => ⟨vs, v1, v2, ?_⟩⟩
    rintro σ3 rfl
    rw [Ms_u (by decide)]
    exact hs
theorem w_op21 {σ : pz_Sg} {G : iv_F} (h : rL B nt nf ns nm m0 t1 t0 pb wv e nx dn fl pr m l σ.1 G) (h10 : B 10 (24 * m + l) = nI 21) : pz_WP 49 (0, pz_en 6 [.ref 39, .int (nI (24 * m + l))], []) σ (rP B nt ns nm m0 t1 t0 pb wv e nx dn fl pr (W160 e (24 * m + l)) σ G) := by
  obtain ⟨⟨f1, f2, f3⟩, ⟨f4, f5, f6⟩, ⟨f7, f8, f9, f10⟩, ⟨p0, p1, p2, p3⟩, ⟨g0, g1, g2, g3⟩, floc, b60⟩ := rl h
  have vs : vp_in (nI (24 * m + l)) 240 := vp_in_nI f6 (by decide)
  have ve : vp_in (nI e) 12 := vp_in_nI f3 (by decide)
  have cs : (nI (24 * m + l)).toNatClampNeg = 24 * m + l := nI_clamp (by omega)
  have ce : (nI e).toNatClampNeg = e := nI_clamp (by omega)
  obtain ⟨a, b, c, ⟨ea, ha⟩, ⟨eb, hb⟩, ⟨ec, hc⟩, p, q, ⟨hp, ep, hap⟩, hq, eq, hcq⟩ := rQ_21 h.1.1 h.2.2.1.1 h.2.2.2.1 h10
  have pre : ∀ T s, pz_WP 163 (0, pz_en 5 [.ref 55, .int (nI e), .int (nI (24 * m + l))], []) (Ms T G) (pz_is none s) → W160 e (24 * m + l) (Ms T G) (pz_is none s) := fun T s hs => by
    refine pv_160 _ _ _ _ ?_
    rw [cs, Ms_r (a := 64) (by decide), Ms_r (a := 65) (by decide), Ms_r (a := 66) (by decide), Ms_r (a := 67) (by decide), g0, g1, g2, g3, h10]
    exact ⟨vs, vs, vs, vs, fun z => absurd z (by decide), fun z => absurd z (by decide), fun z => absurd z (by decide), fun z => absurd z (by decide), fun z => absurd z (by decide), fun z => absurd z (by decide), fun z => absurd z (by decide), fun z => absurd z (by decide), fun z => absurd z (by decide), fun z => absurd z (by decide), fun z => absurd z (by decide), fun z => absurd z (by decide), fun z => absurd z (by decide), fun z => absurd z (by decide), fun z => absurd z (by decide), fun z => absurd z (by decide), fun z => absurd z (by decide), fun z => absurd z (by decide), fun z => absurd z (by decide), fun z => absurd z (by decide), fun z => absurd z (by decide), fun z => absurd z (by decide), fun _ => pz_kn hs, trivial⟩
  refine pv_49 _ σ _ ?_
  rw [f1]
  by_cases he : e + 1 < 12
  · refine ⟨fun _ => ?_, fun z => absurd (nI_lt he (by decide)) z⟩
    rw [p2, cs, eb]
    refine ⟨vs, pz_ki (w_locals f1) ⟨vs, pz_ki (w_locals f1) ⟨vs, pz_kv (w_enter (d := e + 1) f1 he (nI b)) ?_⟩⟩⟩
    rw [p1, p3, ea, ec, nI_add, nI_add]
    refine w_cl1 h ea ec hb ep eq hp hq hap hcq he p 0 _ (enM G (e + 1) (nI b)) (by omega) (rr_push h.2.1 he h.2.2.1 h.2.2.2.1 h10 eb hb) rfl (fun T s hs => pre T s (pv_163 _ _ _ _ ?_))
    rw [cs, Ms_r (a := 66) (by decide), g2, eb]
    exact ⟨vs, pz_ki (w_openM (d := e + 1) f2 he (nI b)) ⟨fun z => absurd z (by decide), fun _ => hs⟩⟩
  · have : e = 11 := by omega
    subst this
    refine ⟨fun z => absurd z (by decide), fun _ => rl_fu h (G' := fu G 55 46 1) (rFr_5 h.2.1.1 rfl) (by show ¬ (1 : Int32) = 0; decide) (fun T => pre T _ (pv_163 _ _ _ _ ⟨vs, pz_ki (r := 0) (s := Ms T (fu G 55 46 1)) (pv_150 _ _ _ ⟨fun _ => ?_, fun z => absurd f2 z⟩) ⟨fun _ => ⟨rfl, rfl⟩, fun z => absurd rfl z⟩⟩))⟩
    rintro σ3 rfl
    exact ⟨rfl, Ms_u (by decide)⟩
/-! jumps -/
/-- a LINE of 23 to 28 in doNext: where it holds, on at its c, else on -/
def rJ (σ : pz_Sg) (s : Nat) (o : Int32) (Post : pz_Ps) : Prop := ∃ Q : pz_Ps, pz_WP 51 (0, pz_en 5 [.ref 39, .int (nI s), .int o], []) σ Q ∧ ∀ r3 σ3, Q (some (.int r3)) σ3 → ((r3 = (0 : Int32) → (∃ Q : pz_Ps, pz_WP 40 (0, pz_en 1 [.ref 39], []) σ3 Q ∧ ∀ r4 σ4, Q (some (.int r4)) σ4 → Post (some (.int r4)) σ4)) ∧ (¬ r3 = (0 : Int32) → (vp_in (nI s) 240 ∧ (∃ Q : pz_Ps, pz_WP 41 (0, pz_en 2 [.ref 39, .int (σ3.1 13 s)], []) σ3 Q ∧ ∀ r5 σ5, Q (some (.int r5)) σ5 → Post (some (.int r5)) σ5))))
theorem rJ_mono {σ : pz_Sg} {s : Nat} {o : Int32} {P P' : pz_Ps} (h : rJ σ s o P) (k : ∀ r σ', P (some (.int r)) σ' → P' (some (.int r)) σ') : rJ σ s o P' := by
  obtain ⟨Q, hQ, hr⟩ := h
  refine ⟨Q, hQ, fun r3 σ3 q => ⟨fun z => ?_, fun z => ?_⟩⟩
  · obtain ⟨Q1, h1, h2⟩ := (hr r3 σ3 q).1 z
    exact ⟨Q1, h1, fun r4 σ4 q4 => k _ _ (h2 r4 σ4 q4)⟩
  · obtain ⟨v, Q1, h1, h2⟩ := (hr r3 σ3 q).2 z
    exact ⟨v, Q1, h1, fun r4 σ4 q4 => k _ _ (h2 r4 σ4 q4)⟩
theorem w_jmp {σ : pz_Sg} {G : iv_F} (h : rL B nt nf ns nm m0 t1 t0 pb wv e nx dn fl pr m l σ.1 G) {c : Nat} (ec : B 13 (24 * m + l) = nI c) (hc : c < 25) {P : Prop} {o : Int32} (hC : pz_WP 51 (0, pz_en 5 [.ref 39, .int (nI (24 * m + l)), .int o], []) σ (pz_is (some (.int (pz_b P))) σ)) (hW : ∀ T s, pz_WP 165 (323, [some (.ref 55), some (.int (nI e)), some (.int (nI (24 * m + l))), none, none, none, some (.int (pz_b P))], []) (Ms T G) (pz_is none s) → W165 e (24 * m + l) (Ms T G) (pz_is none s)) : rJ σ (24 * m + l) o (rP B nt ns nm m0 t1 t0 pb wv e nx dn fl pr (W165 e (24 * m + l)) σ G) := by
  obtain ⟨⟨f1, f2, f3⟩, ⟨f4, f5, f6⟩, ⟨f7, f8, f9, f10⟩, ⟨p0, p1, p2, p3⟩, ⟨g0, g1, g2, g3⟩, floc, b60⟩ := rl h
  have vs : vp_in (nI (24 * m + l)) 240 := vp_in_nI f6 (by decide)
  have ve : vp_in (nI e) 12 := vp_in_nI f3 (by decide)
  have cs : (nI (24 * m + l)).toNatClampNeg = 24 * m + l := nI_clamp (by omega)
  have ce : (nI e).toNatClampNeg = e := nI_clamp (by omega)
  refine pz_ki hC ?_
  by_cases k : P
  · rw [pz_b_t k] at hW ⊢
    rw [p3, ec]
    refine ⟨fun z => absurd z (by decide), fun _ => ⟨vs, pz_ki (w_goOnAt f1 f3) ?_⟩⟩
    refine ⟨0, rfl, rfl, Or.inl ⟨rfl, fu G 90 e (nI c), e + 1, nx, pr, fun T => hW T _ (pv_165_323 _ _ _ _ _ ?_), rr_line h.2.1 (m := m) f7 h.2.2.1.1 h.1.1.1.2.2.2 ⟨by omega, by omega⟩ (Or.inl rfl), by omega, by omega, fun z => absurd z (by omega)⟩⟩
    rw [cs, ce, Ms_r (a := 67) (by decide), g3, ec]
    refine ⟨fun z => absurd z (by decide), fun _ => ⟨vs, ve, ?_⟩⟩
    rintro σ4 rfl
    exact ⟨rfl, Ms_u (by decide)⟩
  · rw [pz_b_f k] at hW ⊢
    refine ⟨fun _ => pz_kq (rl_go h rfl h.2.1 rfl rfl rfl (by omega) (fun T => hW T _ (pv_165_323 _ _ _ _ _ ?_))), fun z => absurd rfl z⟩
    rw [ce, Ms_r (a := 90) (by decide)]
    refine ⟨fun _ => ⟨ve, ve, ?_⟩, fun z => absurd rfl z⟩
    rintro σ4 rfl
    exact ⟨rfl, Ms_u (by decide)⟩
/-- an object of a class, or below it -/
def rOb (F : iv_F) (nt nx : Nat) (v : Int32) (u : Nat) : Prop := ∃ y, y < nx ∧ v = nI y ∧ qz_ob F nt y u
theorem w_iob {σ : pz_Sg} {G : iv_F} (h : rL B nt nf ns nm m0 t1 t0 pb wv e nx dn fl pr m l σ.1 G) {v : Int32} (hv : iv_rv nx v) {u : Nat} (hu : u < 8) : pz_WP 75 (0, pz_en 4 [.ref 16, .ref 1, .int v, .int (nI u)], []) σ (pz_is (some (.int (pz_b (rOb σ.1 nt nx v u)))) σ) := by
  have b60 := (rl h).2.2.2.2.2.2
  have a1 := h.2.1.1
  rcases hv with rfl | ⟨y, hy, rfl⟩
  · refine pv_75 _ _ σ _ ⟨fun _ => ⟨?_, rfl⟩, fun z => absurd rfl z⟩
    rw [pz_b_f]
    rintro ⟨y, hy, ey, -⟩
    exact nI_ne1 (p := y) (by omega) ey.symm
  · have q := w_isObjectBelow (σ := σ) (nt := nt) (x := y) (u := u) h.1.1.1.1 (iv_ty_e (rKn a1 2 (by decide) rfl) (rKn a1 56 (by decide) rfl) h.1.2.1) (by omega) (rl_th h hy) hu
    rw [pz_b_c (q := rOb σ.1 nt nx (nI y) u) ⟨fun k => ⟨y, hy, rfl, k⟩, fun ⟨y', hy', ey, k⟩ => by rw [(nI_eq (by omega) (by omega)).mp ey]; exact k⟩] at q
    exact q
theorem w_iobM {F G : iv_F} (h : rL B nt nf ns nm m0 t1 t0 pb wv e nx dn fl pr m l F G) {v : Int32} (hv : iv_rv nx v) {u : Nat} (hu : u < 8) (T : pz_Sg) : pz_WP 164 (0, pz_en 3 [.ref 55, .int v, .int (nI u)], []) (Ms T G) (pz_is (some (.int (pz_b (rOb F nt nx v u)))) (Ms T G)) := by
  have b60 := (rl h).2.2.2.2.2.2
  have a1 := h.2.1.1
  have bt := h.1.1.1.1
  rcases hv with rfl | ⟨y, hy, rfl⟩
  · refine pv_164 _ _ _ _ ⟨fun _ => ⟨?_, rfl⟩, fun z => absurd (by decide) z⟩
    rw [pz_b_f]
    rintro ⟨y, hy, ey, -⟩
    exact nI_ne1 (p := y) (by omega) ey.symm
  · have vy : vp_in (nI y) 60 := vp_in_nI (by omega) (by decide)
    have ob : ∀ {P : Prop}, (qz_ob F nt y u ↔ P) → (P ↔ rOb F nt nx (nI y) u) := fun q => ⟨fun k => ⟨y, hy, rfl, q.mpr k⟩, fun ⟨y', hy', ey, k⟩ => by rw [(nI_eq (by omega) (by omega)).mp ey.symm] at k; exact q.mp k⟩
    refine pv_164 _ _ _ _ ⟨fun z => absurd z (nI_pos (by omega)), fun _ => ?_⟩
    rw [nI_clamp (by omega), Ms_r (a := 73) (by decide)]
    rcases rl_th h hy with ⟨t, ht, e1, e2, -⟩ | ⟨n, hn, e1, e2, -⟩
    · rw [e2]
      have q := w_isBelowM (σ := Ms T G) (nt := nt) bt (fun t ht => by rw [show (Ms T G).1 56 = B 56 from rKg a1 56 (by decide) rfl]; exact (h.1.2.1 t ht).1) ht (show u < 2 ^ 31 by omega)
      have r := qz_ob_o (F := F) (x := y) (u := u) bt ht e1
      rw [iv_bl_c (F := B) (F' := F) (fun t => congrFun (rKn a1 56 (by decide) rfl) t)] at r
      rw [pz_b_c ((iv_bl_c (F := B) (F' := (Ms T G).1) (fun t => congrFun (rKg a1 56 (by decide) rfl) t) t t u).trans (ob r))] at q
      exact ⟨vy, fun z => absurd z (nI_pos (by omega)), fun _ => ⟨vy, pz_ki q pz_re⟩⟩
    · rw [e2]
      exact ⟨vy, fun _ => ⟨by rw [pz_b_f (fun k => qz_ob_a bt hn e1 ((ob (P := qz_ob F nt y u) Iff.rfl).mpr k))], rfl⟩, fun z => absurd (by decide) z⟩
theorem w_op23 {σ : pz_Sg} {G : iv_F} (h : rL B nt nf ns nm m0 t1 t0 pb wv e nx dn fl pr m l σ.1 G) (h10 : B 10 (24 * m + l) = nI 23) : rJ σ (24 * m + l) (nI 23) (rP B nt ns nm m0 t1 t0 pb wv e nx dn fl pr (W165 e (24 * m + l)) σ G) := by
  obtain ⟨⟨f1, f2, f3⟩, ⟨f4, f5, f6⟩, ⟨f7, f8, f9, f10⟩, ⟨p0, p1, p2, p3⟩, ⟨g0, g1, g2, g3⟩, floc, b60⟩ := rl h
  obtain ⟨u1, u2, u3⟩ := rl_op h (by decide) h10
  have vs : vp_in (nI (24 * m + l)) 240 := vp_in_nI f6 (by decide)
  have ve : vp_in (nI e) 12 := vp_in_nI f3 (by decide)
  have cs : (nI (24 * m + l)).toNatClampNeg = 24 * m + l := nI_clamp (by omega)
  have ce : (nI e).toNatClampNeg = e := nI_clamp (by omega)
  obtain ⟨a, ha, ea⟩ := vp_in_of (show vp_in (B 11 (24 * m + l)) 8 from u1) (by decide)
  obtain ⟨b, hb, eb⟩ := vp_in_of (show vp_in (B 12 (24 * m + l)) 8 from u2) (by decide)
  obtain ⟨c, hc, ec⟩ := vp_in_of (show vp_in (B 13 (24 * m + l)) 25 from u3) (by decide)
  have va : vp_in (nI (8 * e + a)) 96 := vp_in_nI (by omega) (by decide)
  have ca : (nI (8 * e + a)).toNatClampNeg = 8 * e + a := nI_clamp (by omega)
  have vb : vp_in (nI (8 * e + b)) 96 := vp_in_nI (by omega) (by decide)
  have cb : (nI (8 * e + b)).toNatClampNeg = 8 * e + b := nI_clamp (by omega)
  refine w_jmp h ec hc (P := ¬ σ.1 43 (8 * e + b) ≤ σ.1 43 (8 * e + a)) ?_ (fun T s hs => ?_)
  · refine pv_51 _ _ σ _ ?_
    rw [cs, p1, p2, ea, eb]
    refine ⟨vs, vs, fun z => absurd z (by decide), fun _ => pz_ki (w_locals f1) ?_, fun z => absurd z (by decide), fun z => absurd z (by decide), fun z => absurd z (by decide), fun z => absurd z (by decide), trivial⟩
    rw [nI_add, ca]
    refine ⟨va, pz_ki (w_locals f1) ?_⟩
    rw [nI_add, cb]
    exact ⟨vb, fun z => ⟨by rw [pz_b_f (fun q => q z)], rfl⟩, fun z => ⟨by rw [pz_b_t z], rfl⟩⟩
  · refine pv_165 _ _ _ _ ?_
    rw [cs, ce, Ms_r (a := 64) (by decide), Ms_r (a := 65) (by decide), Ms_r (a := 66) (by decide), g0, g1, g2, h10, ea, eb, nI_a7 a ha, nI_a7 b hb, pk_mul, nI_add, nI_add, ca, cb, Ms_r (a := 91) (by decide), ← (floc a ha).1, ← (floc b hb).1]
    exact ⟨ve, vs, vs, vs, fun z => absurd z (by decide), fun _ => ⟨va, vb, fun z => by rw [pz_b_f (fun q => q z)] at hs; exact hs, fun z => by rw [pz_b_t z] at hs; exact hs⟩, fun z => absurd z (by decide), fun z => absurd z (by decide), fun z => absurd z (by decide), fun z => absurd z (by decide), fun z => absurd z (by decide), fun z => absurd z (by decide), fun z => absurd z (by decide), trivial⟩
theorem w_op24 {σ : pz_Sg} {G : iv_F} (h : rL B nt nf ns nm m0 t1 t0 pb wv e nx dn fl pr m l σ.1 G) (h10 : B 10 (24 * m + l) = nI 24) : rJ σ (24 * m + l) (nI 24) (rP B nt ns nm m0 t1 t0 pb wv e nx dn fl pr (W165 e (24 * m + l)) σ G) := by
  obtain ⟨⟨f1, f2, f3⟩, ⟨f4, f5, f6⟩, ⟨f7, f8, f9, f10⟩, ⟨p0, p1, p2, p3⟩, ⟨g0, g1, g2, g3⟩, floc, b60⟩ := rl h
  obtain ⟨u1, u2, u3⟩ := rl_op h (by decide) h10
  have vs : vp_in (nI (24 * m + l)) 240 := vp_in_nI f6 (by decide)
  have ve : vp_in (nI e) 12 := vp_in_nI f3 (by decide)
  have cs : (nI (24 * m + l)).toNatClampNeg = 24 * m + l := nI_clamp (by omega)
  have ce : (nI e).toNatClampNeg = e := nI_clamp (by omega)
  obtain ⟨a, ha, ea⟩ := vp_in_of (show vp_in (B 11 (24 * m + l)) 8 from u1) (by decide)
  obtain ⟨b, hb, eb⟩ := vp_in_of (show vp_in (B 12 (24 * m + l)) 8 from u2) (by decide)
  obtain ⟨c, hc, ec⟩ := vp_in_of (show vp_in (B 13 (24 * m + l)) 25 from u3) (by decide)
  have va : vp_in (nI (8 * e + a)) 96 := vp_in_nI (by omega) (by decide)
  have ca : (nI (8 * e + a)).toNatClampNeg = 8 * e + a := nI_clamp (by omega)
  have vb : vp_in (nI (8 * e + b)) 96 := vp_in_nI (by omega) (by decide)
  have cb : (nI (8 * e + b)).toNatClampNeg = 8 * e + b := nI_clamp (by omega)
  refine w_jmp h ec hc (P := σ.1 43 (8 * e + a) = σ.1 43 (8 * e + b)) ?_ (fun T s hs => ?_)
  · refine pv_51 _ _ σ _ ?_
    rw [cs, p1, p2, ea, eb]
    refine ⟨vs, vs, fun z => absurd z (by decide), fun z => absurd z (by decide), fun _ => pz_ki (w_locals f1) ?_, fun z => absurd z (by decide), fun z => absurd z (by decide), fun z => absurd z (by decide), trivial⟩
    rw [nI_add, ca]
    refine ⟨va, pz_ki (w_locals f1) ?_⟩
    rw [nI_add, cb]
    exact ⟨vb, fun z => ⟨by rw [pz_b_t z], rfl⟩, fun z => ⟨by rw [pz_b_f z], rfl⟩⟩
  · refine pv_165 _ _ _ _ ?_
    rw [cs, ce, Ms_r (a := 64) (by decide), Ms_r (a := 65) (by decide), Ms_r (a := 66) (by decide), g0, g1, g2, h10, ea, eb, nI_a7 a ha, nI_a7 b hb, pk_mul, nI_add, nI_add, ca, cb, Ms_r (a := 91) (by decide), ← (floc a ha).1, ← (floc b hb).1]
    exact ⟨ve, vs, vs, vs, fun z => absurd z (by decide), fun z => absurd z (by decide), fun _ => ⟨va, vb, fun z => by rw [pz_b_t z] at hs; exact hs, fun z => by rw [pz_b_f z] at hs; exact hs⟩, fun z => absurd z (by decide), fun z => absurd z (by decide), fun z => absurd z (by decide), fun z => absurd z (by decide), fun z => absurd z (by decide), fun z => absurd z (by decide), trivial⟩
theorem w_op26 {σ : pz_Sg} {G : iv_F} (h : rL B nt nf ns nm m0 t1 t0 pb wv e nx dn fl pr m l σ.1 G) (h10 : B 10 (24 * m + l) = nI 26) : rJ σ (24 * m + l) (nI 26) (rP B nt ns nm m0 t1 t0 pb wv e nx dn fl pr (W165 e (24 * m + l)) σ G) := by
  obtain ⟨⟨f1, f2, f3⟩, ⟨f4, f5, f6⟩, ⟨f7, f8, f9, f10⟩, ⟨p0, p1, p2, p3⟩, ⟨g0, g1, g2, g3⟩, floc, b60⟩ := rl h
  obtain ⟨u1, u2, u3⟩ := rl_op h (by decide) h10
  have vs : vp_in (nI (24 * m + l)) 240 := vp_in_nI f6 (by decide)
  have ve : vp_in (nI e) 12 := vp_in_nI f3 (by decide)
  have cs : (nI (24 * m + l)).toNatClampNeg = 24 * m + l := nI_clamp (by omega)
  have ce : (nI e).toNatClampNeg = e := nI_clamp (by omega)
  obtain ⟨a, ha, ea⟩ := vp_in_of (show vp_in (B 11 (24 * m + l)) 8 from u1) (by decide)
  obtain ⟨b, hb, eb⟩ := vp_in_of (show vp_in (B 12 (24 * m + l)) 8 from u2) (by decide)
  obtain ⟨c, hc, ec⟩ := vp_in_of (show vp_in (B 13 (24 * m + l)) 25 from u3) (by decide)
  have va : vp_in (nI (8 * e + a)) 96 := vp_in_nI (by omega) (by decide)
  have ca : (nI (8 * e + a)).toNatClampNeg = 8 * e + a := nI_clamp (by omega)
  have vb : vp_in (nI (8 * e + b)) 96 := vp_in_nI (by omega) (by decide)
  have cb : (nI (8 * e + b)).toNatClampNeg = 8 * e + b := nI_clamp (by omega)
  refine w_jmp h ec hc (P := σ.1 44 (8 * e + a) = σ.1 44 (8 * e + b)) ?_ (fun T s hs => ?_)
  · refine pv_51 _ _ σ _ ?_
    rw [cs, p1, p2, ea, eb]
    refine ⟨vs, vs, fun z => absurd z (by decide), fun z => absurd z (by decide), fun z => absurd z (by decide), fun z => absurd z (by decide), fun _ => pz_ki (w_locals f1) ?_, fun z => absurd z (by decide), trivial⟩
    rw [nI_add, ca]
    refine ⟨va, pz_ki (w_locals f1) ?_⟩
    rw [nI_add, cb]
    exact ⟨vb, fun z => ⟨by rw [pz_b_t z], rfl⟩, fun z => ⟨by rw [pz_b_f z], rfl⟩⟩
  · refine pv_165 _ _ _ _ ?_
    rw [cs, ce, Ms_r (a := 64) (by decide), Ms_r (a := 65) (by decide), Ms_r (a := 66) (by decide), g0, g1, g2, h10, ea, eb, nI_a7 a ha, nI_a7 b hb, pk_mul, nI_add, nI_add, ca, cb, Ms_r (a := 92) (by decide), ← (floc a ha).2.1, ← (floc b hb).2.1]
    exact ⟨ve, vs, vs, vs, fun z => absurd z (by decide), fun z => absurd z (by decide), fun z => absurd z (by decide), fun z => absurd z (by decide), fun _ => ⟨va, vb, fun z => by rw [pz_b_t z] at hs; exact hs, fun z => by rw [pz_b_f z] at hs; exact hs⟩, fun z => absurd z (by decide), fun z => absurd z (by decide), fun z => absurd z (by decide), fun z => absurd z (by decide), trivial⟩
theorem w_op25 {σ : pz_Sg} {G : iv_F} (h : rL B nt nf ns nm m0 t1 t0 pb wv e nx dn fl pr m l σ.1 G) (h10 : B 10 (24 * m + l) = nI 25) : rJ σ (24 * m + l) (nI 25) (rP B nt ns nm m0 t1 t0 pb wv e nx dn fl pr (W165 e (24 * m + l)) σ G) := by
  obtain ⟨⟨f1, f2, f3⟩, ⟨f4, f5, f6⟩, ⟨f7, f8, f9, f10⟩, ⟨p0, p1, p2, p3⟩, ⟨g0, g1, g2, g3⟩, floc, b60⟩ := rl h
  obtain ⟨u1, u2, u3⟩ := rl_op h (by decide) h10
  have vs : vp_in (nI (24 * m + l)) 240 := vp_in_nI f6 (by decide)
  have ve : vp_in (nI e) 12 := vp_in_nI f3 (by decide)
  have cs : (nI (24 * m + l)).toNatClampNeg = 24 * m + l := nI_clamp (by omega)
  have ce : (nI e).toNatClampNeg = e := nI_clamp (by omega)
  obtain ⟨a, ha, ea⟩ := vp_in_of (show vp_in (B 11 (24 * m + l)) 8 from u1) (by decide)
  obtain ⟨c, hc, ec⟩ := vp_in_of (show vp_in (B 13 (24 * m + l)) 25 from u3) (by decide)
  have va : vp_in (nI (8 * e + a)) 96 := vp_in_nI (by omega) (by decide)
  have ca : (nI (8 * e + a)).toNatClampNeg = 8 * e + a := nI_clamp (by omega)
  have nn : ∀ {x : Int32}, iv_rv nx x → ((0 : Int32) ≤ x ↔ ¬ x = -1) := by
    rintro x (rfl | ⟨y, hy, rfl⟩)
    · decide
    · exact ⟨fun _ => nI_ne1 (by omega), fun _ => nI_pos' (by omega)⟩
  refine w_jmp h ec hc (P := σ.1 44 (8 * e + a) = -1) ?_ (fun T s hs => ?_)
  · refine pv_51 _ _ σ _ ?_
    rw [cs, p1, ea]
    refine ⟨vs, vs, fun z => absurd z (by decide), fun z => absurd z (by decide), fun z => absurd z (by decide), fun _ => pz_ki (w_locals f1) ?_, fun z => absurd z (by decide), fun z => absurd z (by decide), trivial⟩
    rw [nI_add, ca]
    exact ⟨va, fun z => ⟨by rw [pz_b_t z], rfl⟩, fun z => ⟨by rw [pz_b_f z], rfl⟩⟩
  · refine pv_165 _ _ _ _ ?_
    rw [cs, ce, Ms_r (a := 64) (by decide), Ms_r (a := 65) (by decide), Ms_r (a := 66) (by decide), g0, g1, g2, h10, ea, nI_a7 a ha, pk_mul, nI_add, ca, Ms_r (a := 92) (by decide), ← (floc a ha).2.1]
    exact ⟨ve, vs, vs, vs, fun z => absurd z (by decide), fun z => absurd z (by decide), fun z => absurd z (by decide), fun _ => ⟨va, fun z => by rw [pz_b_f ((nn (floc a ha).2.2).mp z)] at hs; exact hs, fun z => by rw [pz_b_t (Classical.not_not.mp fun q => z ((nn (floc a ha).2.2).mpr q))] at hs; exact hs⟩, fun z => absurd z (by decide), fun z => absurd z (by decide), fun z => absurd z (by decide), fun z => absurd z (by decide), fun z => absurd z (by decide), trivial⟩
theorem w_op27 {σ : pz_Sg} {G : iv_F} (h : rL B nt nf ns nm m0 t1 t0 pb wv e nx dn fl pr m l σ.1 G) (h10 : B 10 (24 * m + l) = nI 27) : rJ σ (24 * m + l) (nI 27) (rP B nt ns nm m0 t1 t0 pb wv e nx dn fl pr (W165 e (24 * m + l)) σ G) := by
  obtain ⟨⟨f1, f2, f3⟩, ⟨f4, f5, f6⟩, ⟨f7, f8, f9, f10⟩, ⟨p0, p1, p2, p3⟩, ⟨g0, g1, g2, g3⟩, floc, b60⟩ := rl h
  obtain ⟨u1, u2, u3⟩ := rl_op h (by decide) h10
  have vs : vp_in (nI (24 * m + l)) 240 := vp_in_nI f6 (by decide)
  have ve : vp_in (nI e) 12 := vp_in_nI f3 (by decide)
  have cs : (nI (24 * m + l)).toNatClampNeg = 24 * m + l := nI_clamp (by omega)
  have ce : (nI e).toNatClampNeg = e := nI_clamp (by omega)
  obtain ⟨a, ha, ea⟩ := vp_in_of (show vp_in (B 11 (24 * m + l)) 8 from u1) (by decide)
  have bt := h.1.1.1.1
  obtain ⟨b, hb, eb⟩ := vp_in_of (show vp_in (B 12 (24 * m + l)) nt from u2) (by omega)
  obtain ⟨c, hc, ec⟩ := vp_in_of (show vp_in (B 13 (24 * m + l)) 25 from u3) (by decide)
  have va : vp_in (nI (8 * e + a)) 96 := vp_in_nI (by omega) (by decide)
  have ca : (nI (8 * e + a)).toNatClampNeg = 8 * e + a := nI_clamp (by omega)
  refine w_jmp h ec hc (P := rOb σ.1 nt nx (σ.1 44 (8 * e + a)) b) ?_ (fun T s hs => ?_)
  · refine pv_51 _ _ σ _ ?_
    rw [cs, p1, p2, ea, eb]
    refine ⟨vs, vs, fun z => absurd z (by decide), fun z => absurd z (by decide), fun z => absurd z (by decide), fun z => absurd z (by decide), fun z => absurd z (by decide), fun _ => pz_ki (w_locals f1) ?_, trivial⟩
    rw [nI_add, ca]
    exact ⟨va, pz_ki (w_iob h (floc a ha).2.2 (by omega)) ⟨pz_b_01 _, rfl, rfl⟩⟩
  · refine pv_165 _ _ _ _ ?_
    rw [cs, ce, Ms_r (a := 64) (by decide), Ms_r (a := 65) (by decide), Ms_r (a := 66) (by decide), g0, g1, g2, h10, ea, eb, nI_a7 a ha, pk_mul, nI_add, ca, Ms_r (a := 92) (by decide), ← (floc a ha).2.1]
    exact ⟨ve, vs, vs, vs, fun z => absurd z (by decide), fun z => absurd z (by decide), fun z => absurd z (by decide), fun z => absurd z (by decide), fun z => absurd z (by decide), fun _ => ⟨va, vs, pz_ki (w_iobM h (floc a ha).2.2 (by omega) T) hs⟩, fun z => absurd z (by decide), fun z => absurd z (by decide), fun z => absurd z (by decide), trivial⟩
theorem w_op28 {σ : pz_Sg} {G : iv_F} (h : rL B nt nf ns nm m0 t1 t0 pb wv e nx dn fl pr m l σ.1 G) (h10 : B 10 (24 * m + l) = nI 28) : rJ σ (24 * m + l) (nI 28) (rP B nt ns nm m0 t1 t0 pb wv e nx dn fl pr (W165 e (24 * m + l)) σ G) := by
  obtain ⟨⟨f1, f2, f3⟩, ⟨f4, f5, f6⟩, ⟨f7, f8, f9, f10⟩, ⟨p0, p1, p2, p3⟩, ⟨g0, g1, g2, g3⟩, floc, b60⟩ := rl h
  obtain ⟨u1, u2, u3⟩ := rl_op h (by decide) h10
  have vs : vp_in (nI (24 * m + l)) 240 := vp_in_nI f6 (by decide)
  have ve : vp_in (nI e) 12 := vp_in_nI f3 (by decide)
  have cs : (nI (24 * m + l)).toNatClampNeg = 24 * m + l := nI_clamp (by omega)
  have ce : (nI e).toNatClampNeg = e := nI_clamp (by omega)
  obtain ⟨c, hc, ec⟩ := vp_in_of (show vp_in (B 13 (24 * m + l)) 25 from u3) (by decide)
  refine w_jmp h ec hc (P := True) ?_ (fun T s hs => ?_)
  · refine pv_51 _ _ σ _ ?_
    exact ⟨vs, vs, fun _ => ⟨by rw [pz_b_t trivial], rfl⟩, fun z => absurd z (by decide), fun z => absurd z (by decide), fun z => absurd z (by decide), fun z => absurd z (by decide), fun z => absurd z (by decide), trivial⟩
  · rw [pz_b_t trivial] at hs
    refine pv_165 _ _ _ _ ?_
    rw [cs, ce, Ms_r (a := 64) (by decide), Ms_r (a := 65) (by decide), Ms_r (a := 66) (by decide), g0, g1, g2, h10]
    exact ⟨ve, vs, vs, vs, fun z => absurd z (by decide), fun z => absurd z (by decide), fun z => absurd z (by decide), fun z => absurd z (by decide), fun z => absurd z (by decide), fun z => absurd z (by decide), fun _ => hs, fun z => absurd z (by decide), fun z => absurd z (by decide), trivial⟩
theorem w_op29 {σ : pz_Sg} {G : iv_F} (h : rL B nt nf ns nm m0 t1 t0 pb wv e nx dn fl pr m l σ.1 G) (h10 : B 10 (24 * m + l) = nI 29) : pz_WP 52 (0, pz_en 6 [.ref 39, .int (nI (24 * m + l)), .int (nI 29)], []) σ (rP B nt ns nm m0 t1 t0 pb wv e nx dn fl pr (W165 e (24 * m + l)) σ G) := by
  obtain ⟨⟨f1, f2, f3⟩, ⟨f4, f5, f6⟩, ⟨f7, f8, f9, f10⟩, ⟨p0, p1, p2, p3⟩, ⟨g0, g1, g2, g3⟩, floc, b60⟩ := rl h
  obtain ⟨u1, u2, u3⟩ := rl_op h (by decide) h10
  have vs : vp_in (nI (24 * m + l)) 240 := vp_in_nI f6 (by decide)
  have ve : vp_in (nI e) 12 := vp_in_nI f3 (by decide)
  have cs : (nI (24 * m + l)).toNatClampNeg = 24 * m + l := nI_clamp (by omega)
  have ce : (nI e).toNatClampNeg = e := nI_clamp (by omega)
  obtain ⟨a, ha, ea⟩ := vp_in_of (show vp_in (B 11 (24 * m + l)) 8 from u1) (by decide)
  have bt := h.1.1.1.1
  obtain ⟨b, hb, eb⟩ := vp_in_of (show vp_in (B 12 (24 * m + l)) nt from u2) (by omega)
  have va : vp_in (nI (8 * e + a)) 96 := vp_in_nI (by omega) (by decide)
  have ca : (nI (8 * e + a)).toNatClampNeg = 8 * e + a := nI_clamp (by omega)
  have on : (∀ T s, pz_WP 165 (323, [some (.ref 55), some (.int (nI e)), some (.int (nI (24 * m + l))), none, none, none, some (.int 0)], []) (Ms T G) (pz_is none s) → W165 e (24 * m + l) (Ms T G) (pz_is none s)) → pz_WP 40 (0, pz_en 1 [.ref 39], []) σ (rP B nt ns nm m0 t1 t0 pb wv e nx dn fl pr (W165 e (24 * m + l)) σ G) := fun hW => by
    refine rl_go h rfl h.2.1 rfl rfl rfl (by omega) (fun T => hW T _ (pv_165_323 _ _ _ _ _ ?_))
    rw [ce, Ms_r (a := 90) (by decide)]
    refine ⟨fun _ => ⟨ve, ve, ?_⟩, fun z => absurd rfl z⟩
    rintro σ4 rfl
    exact ⟨rfl, Ms_u (by decide)⟩
  refine pv_52 _ _ σ _ ⟨vs, fun _ => pz_ki (w_locals f1) ?_, fun z => absurd rfl z⟩
  rw [cs, p1, p2, ea, eb, nI_add, ca]
  refine ⟨va, fun z => ⟨fun q => absurd q (by decide), fun _ => pz_kq (on fun T s hs => ?_)⟩, fun z => ⟨vs, pz_ki (w_iob h (floc a ha).2.2 (by omega)) ⟨fun q => ⟨fun _ => rl_ft (f := 5) (by decide) (fun T s hs => ?_), fun k => absurd rfl k⟩, fun q => ⟨fun k => absurd k (by decide), fun _ => pz_kq (on fun T s hs => ?_)⟩⟩⟩⟩
  · refine pv_165 _ _ _ _ ?_
    rw [cs, ce, Ms_r (a := 64) (by decide), Ms_r (a := 65) (by decide), Ms_r (a := 66) (by decide), g0, g1, g2, h10, ea, eb, nI_a7 a ha, pk_mul, nI_add, ca, Ms_r (a := 92) (by decide), ← (floc a ha).2.1, z]
    exact ⟨ve, vs, vs, vs, fun z => absurd z (by decide), fun z => absurd z (by decide), fun z => absurd z (by decide), fun z => absurd z (by decide), fun z => absurd z (by decide), fun z => absurd z (by decide), fun z => absurd z (by decide), fun _ => ⟨va, fun _ => hs, fun k => absurd (by decide) k⟩, fun z => absurd z (by decide), trivial⟩
  · refine pv_165 _ _ _ _ ?_
    rw [cs, ce, Ms_r (a := 64) (by decide), Ms_r (a := 65) (by decide), Ms_r (a := 66) (by decide), g0, g1, g2, h10, ea, eb, nI_a7 a ha, pk_mul, nI_add, ca, Ms_r (a := 92) (by decide), ← (floc a ha).2.1]
    have n0 : ¬ σ.1 44 (8 * e + a) < 0 := by
      obtain ⟨y, hy, ey⟩ := (floc a ha).2.2.resolve_left z
      rw [ey]
      exact nI_pos (by omega)
    exact ⟨ve, vs, vs, vs, fun z => absurd z (by decide), fun z => absurd z (by decide), fun z => absurd z (by decide), fun z => absurd z (by decide), fun z => absurd z (by decide), fun z => absurd z (by decide), fun z => absurd z (by decide), fun _ => ⟨va, fun k => absurd k n0, fun _ => ⟨va, vs, pz_ki (w_iobM h (floc a ha).2.2 (by omega) T) ⟨fun _ => pz_kn hs, fun k => absurd q k⟩⟩⟩, fun z => absurd z (by decide), trivial⟩
  · refine pv_165 _ _ _ _ ?_
    rw [cs, ce, Ms_r (a := 64) (by decide), Ms_r (a := 65) (by decide), Ms_r (a := 66) (by decide), g0, g1, g2, h10, ea, eb, nI_a7 a ha, pk_mul, nI_add, ca, Ms_r (a := 92) (by decide), ← (floc a ha).2.1]
    have n0 : ¬ σ.1 44 (8 * e + a) < 0 := by
      obtain ⟨y, hy, ey⟩ := (floc a ha).2.2.resolve_left z
      rw [ey]
      exact nI_pos (by omega)
    exact ⟨ve, vs, vs, vs, fun z => absurd z (by decide), fun z => absurd z (by decide), fun z => absurd z (by decide), fun z => absurd z (by decide), fun z => absurd z (by decide), fun z => absurd z (by decide), fun z => absurd z (by decide), fun _ => ⟨va, fun k => absurd k n0, fun _ => ⟨va, vs, pz_ki (w_iobM h (floc a ha).2.2 (by omega) T) ⟨fun k => absurd k q, fun _ => hs⟩⟩⟩, fun z => absurd z (by decide), trivial⟩
theorem w_op30 {σ : pz_Sg} {G : iv_F} (h : rL B nt nf ns nm m0 t1 t0 pb wv e nx dn fl pr m l σ.1 G) (h10 : B 10 (24 * m + l) = nI 30) : pz_WP 52 (0, pz_en 6 [.ref 39, .int (nI (24 * m + l)), .int (nI 30)], []) σ (rP B nt ns nm m0 t1 t0 pb wv e nx dn fl pr (W165 e (24 * m + l)) σ G) := by
  obtain ⟨⟨f1, f2, f3⟩, ⟨f4, f5, f6⟩, ⟨f7, f8, f9, f10⟩, ⟨p0, p1, p2, p3⟩, ⟨g0, g1, g2, g3⟩, floc, b60⟩ := rl h
  obtain ⟨u1, u2, u3⟩ := rl_op h (by decide) h10
  have vs : vp_in (nI (24 * m + l)) 240 := vp_in_nI f6 (by decide)
  have ve : vp_in (nI e) 12 := vp_in_nI f3 (by decide)
  have cs : (nI (24 * m + l)).toNatClampNeg = 24 * m + l := nI_clamp (by omega)
  have ce : (nI e).toNatClampNeg = e := nI_clamp (by omega)
  obtain ⟨a, ha, ea⟩ := vp_in_of (show vp_in (B 11 (24 * m + l)) 4 from u1) (by decide)
  refine pv_52 _ _ σ _ ⟨vs, fun z => absurd z (by decide), fun _ => ⟨fun _ => ?_, fun z => absurd rfl z⟩⟩
  rw [cs, p1, ea, nI_add]
  refine rl_ft (f := 6 + a) ⟨by omega, by omega⟩ (fun T s hs => ?_)
  · refine pv_165 _ _ _ _ ?_
    rw [cs, ce, Ms_r (a := 64) (by decide), Ms_r (a := 65) (by decide), Ms_r (a := 66) (by decide), g0, g1, g2, h10, ea, nI_add]
    exact ⟨ve, vs, vs, vs, fun z => absurd z (by decide), fun z => absurd z (by decide), fun z => absurd z (by decide), fun z => absurd z (by decide), fun z => absurd z (by decide), fun z => absurd z (by decide), fun z => absurd z (by decide), fun z => absurd z (by decide), fun _ => ⟨vs, pz_kn hs⟩, trivial⟩
theorem w_op31 {σ : pz_Sg} {G : iv_F} (h : rL B nt nf ns nm m0 t1 t0 pb wv e nx dn fl pr m l σ.1 G) (h10 : B 10 (24 * m + l) = nI 31) : pz_WP 52 (0, pz_en 6 [.ref 39, .int (nI (24 * m + l)), .int (nI 31)], []) σ (rP B nt ns nm m0 t1 t0 pb wv e nx dn fl pr (W165 e (24 * m + l)) σ G) := by
  obtain ⟨⟨f1, f2, f3⟩, ⟨f4, f5, f6⟩, ⟨f7, f8, f9, f10⟩, ⟨p0, p1, p2, p3⟩, ⟨g0, g1, g2, g3⟩, floc, b60⟩ := rl h
  obtain ⟨u1, u2, u3⟩ := rl_op h (by decide) h10
  have vs : vp_in (nI (24 * m + l)) 240 := vp_in_nI f6 (by decide)
  have ve : vp_in (nI e) 12 := vp_in_nI f3 (by decide)
  have cs : (nI (24 * m + l)).toNatClampNeg = 24 * m + l := nI_clamp (by omega)
  have ce : (nI e).toNatClampNeg = e := nI_clamp (by omega)
  have u1 : B 8 m = 0 ∨ vp_in (B 11 (24 * m + l)) 8 := u1
  have bm := h.1.1.1.2.2.2
  have hm := h.2.2.1.1
  have a1 := h.2.1.1
  have vm : vp_in (nI m) 10 := vp_in_nI (by omega) (by decide)
  have cm : (nI m).toNatClampNeg = m := nI_clamp (by omega)
  have q62 : G 62 m = B 8 m := by rw [rKg a1 62 (by decide) rfl, ← (h.1.1.2.1.1 m hm).2.2.1.1]
  obtain ⟨-, k, hk, e8⟩ := (h.1.1.2.1.1 m hm).2.2.1
  have en : ∀ v, (B 8 m = nI 2 → iv_rv nx v) → (B 8 m = 0 → v = 0) → (∀ T s, pz_WP 151 (0, pz_en 5 [.ref 55, .int v], []) (Ms T G) (pz_is none s) → W165 e (24 * m + l) (Ms T G) (pz_is none s)) → ∃ Q : pz_Ps, pz_WP 37 (0, pz_en 4 [.ref 39, .int v], []) σ Q ∧ ∀ σ5, Q none σ5 → rP B nt ns nm m0 t1 t0 pb wv e nx dn fl pr (W165 e (24 * m + l)) σ G (some (.int 0)) σ5 := fun v h2 h0 hW => by
    refine ⟨_, w_leave h.1 h.2.1 f7 hm h2 h0, ?_⟩
    rintro σ5 ⟨-, G', hG, R, q2, q3⟩
    exact ⟨0, rfl, q2, Or.inl ⟨rfl, G', e, nx, pr, fun T => hW T _ (hG T), R, by omega, by omega, q3⟩⟩
  refine pv_52 _ _ σ _ ⟨vs, fun z => absurd z (by decide), fun _ => ⟨fun z => absurd z (by decide), fun _ => ?_⟩⟩
  rw [f1, qz_m1, ce, f7, cm, rKn a1 8 (by decide) rfl, cs, p1]
  refine ⟨ve, vm, fun z => en 0 (fun k2 => absurd (z.symm.trans k2) (by decide)) (fun _ => rfl) (fun T s hs => ?_), fun z => ?_⟩
  · refine pv_165 _ _ _ _ ?_
    rw [cs, ce, Ms_r (a := 64) (by decide), Ms_r (a := 65) (by decide), Ms_r (a := 66) (by decide), g0, g1, g2, h10, Ms_r (a := 89) (by decide), f8, cm, Ms_r (a := 62) (by decide), q62, z]
    exact ⟨ve, vs, vs, vs, fun _ => ⟨vm, fun k => absurd k (by decide), fun _ => ⟨vm, fun k => absurd k (by decide), fun _ => pz_kn hs⟩⟩, fun z => absurd z (by decide), fun z => absurd z (by decide), fun z => absurd z (by decide), fun z => absurd z (by decide), fun z => absurd z (by decide), fun z => absurd z (by decide), fun z => absurd z (by decide), fun z => absurd z (by decide), trivial⟩
  · obtain ⟨a, ha, ea⟩ := vp_in_of (u1.resolve_left z) (by decide)
    have va : vp_in (nI (8 * e + a)) 96 := vp_in_nI (by omega) (by decide)
    have ca : (nI (8 * e + a)).toNatClampNeg = 8 * e + a := nI_clamp (by omega)
    rw [ea]
    refine ⟨fun z1 => pz_ki (w_locals f1) ?_, fun z1 => pz_ki (w_locals f1) ?_⟩
    · rw [nI_add, ca]
      refine ⟨va, en _ (fun k2 => absurd (z1.symm.trans k2) (by decide)) (fun k0 => absurd k0 z) (fun T s hs => ?_)⟩
      refine pv_165 _ _ _ _ ?_
      rw [cs, ce, Ms_r (a := 64) (by decide), Ms_r (a := 65) (by decide), Ms_r (a := 66) (by decide), g0, g1, g2, h10, ea, nI_a7 a ha, pk_mul, nI_add, ca, Ms_r (a := 89) (by decide), f8, cm, Ms_r (a := 62) (by decide), q62, z1, Ms_r (a := 91) (by decide), ← (floc a ha).1]
      exact ⟨ve, vs, vs, vs, fun _ => ⟨vm, fun _ => ⟨va, pz_kn hs⟩, fun k => absurd rfl k⟩, fun z => absurd z (by decide), fun z => absurd z (by decide), fun z => absurd z (by decide), fun z => absurd z (by decide), fun z => absurd z (by decide), fun z => absurd z (by decide), fun z => absurd z (by decide), fun z => absurd z (by decide), trivial⟩
    · rw [nI_add, ca]
      have e2 : B 8 m = nI 2 := by
        have : k = 2 := by
          rcases (show k = 0 ∨ k = 1 ∨ k = 2 by omega) with rfl | rfl | rfl
          · exact absurd e8 z
          · exact absurd e8 z1
          · rfl
        rw [e8, this]
      refine ⟨va, en _ (fun _ => (floc a ha).2.2) (fun k0 => absurd k0 z) (fun T s hs => ?_)⟩
      refine pv_165 _ _ _ _ ?_
      rw [cs, ce, Ms_r (a := 64) (by decide), Ms_r (a := 65) (by decide), Ms_r (a := 66) (by decide), g0, g1, g2, h10, ea, nI_a7 a ha, pk_mul, nI_add, ca, Ms_r (a := 89) (by decide), f8, cm, Ms_r (a := 62) (by decide), q62, e2, Ms_r (a := 92) (by decide), ← (floc a ha).2.1]
      exact ⟨ve, vs, vs, vs, fun _ => ⟨vm, fun k => absurd k (by decide), fun _ => ⟨vm, fun _ => ⟨va, pz_kn hs⟩, fun k => absurd rfl k⟩⟩, fun z => absurd z (by decide), fun z => absurd z (by decide), fun z => absurd z (by decide), fun z => absurd z (by decide), fun z => absurd z (by decide), fun z => absurd z (by decide), fun z => absurd z (by decide), fun z => absurd z (by decide), trivial⟩
end
