section
variable {B : iv_F} {nt nf ns nm m0 t1 t0 pb : Nat} {wv : Int32} {e nx dn fl pr m l : Nat}
theorem iv_fl_e {F B : iv_F} {nt nf : Nat} (h3 : F 3 = B 3) (h56 : F 56 = B 56) (h57 : F 57 = B 57) (H : iv_fl B nt nf) : iv_fl F nt nf := by
  refine ⟨fun f hf => by rw [h57]; exact H.1 f hf, fun t ht f hf => ?_⟩
  rw [h3, h57, iv_bl_c (fun t => congrFun h56 t)]
  exact H.2 t ht f hf
theorem qz_hs_e {F B : iv_F} {nt nf : Nat} {c : Int32} {p : Nat} (h56 : F 56 = B 56) (h57 : F 57 = B 57) : qz_hs F nt nf c p ↔ qz_hs B nt nf c p := by
  unfold qz_hs
  rw [h57]
  simp only [iv_bl_c (fun t => congrFun h56 t)]
theorem iv_ty_e {F B : iv_F} {nt : Nat} (h2 : F 2 = B 2) (h56 : F 56 = B 56) (H : iv_ty B nt) : iv_ty F nt := by
  intro t ht
  refine ⟨by rw [h56]; exact (H t ht).1, fun u hu => ?_⟩
  rw [h2, iv_bl_c (fun t => congrFun h56 t)]
  exact (H t ht).2 u hu
theorem nt33_cm {t0 x a i : Nat} {bit v : Int32} {G : iv_F} (h1 : a ≠ 55) (h2 : a ≠ 93) : ntG33 t0 (fu G a i v) x bit = fu (ntG33 t0 G x bit) a i v := by
  unfold ntG33
  split
  · rw [fu_o (Ne.symm h1), fu_o (Ne.symm h2), fu_cm h1, fu_cm h2]
  · rfl
theorem nt34_cm {t0 x a i : Nat} {bit v : Int32} {G : iv_F} (h1 : a ≠ 55) (h2 : a ≠ 94) : ntG34 t0 (fu G a i v) x bit = fu (ntG34 t0 G x bit) a i v := by
  unfold ntG34
  split
  · rw [fu_o (Ne.symm h1), fu_o (Ne.symm h2), fu_cm h1, fu_cm h2]
  · rfl
theorem nt33_o {t0 x y : Nat} {bit : Int32} {G : iv_F} (h1 : y ≠ 55) (h2 : y ≠ 93) : ntG33 t0 G x bit y = G y := by
  unfold ntG33
  split
  · rw [fu_o h2, fu_o h1]
  · rfl
theorem nt34_o {t0 x y : Nat} {bit : Int32} {G : iv_F} (h1 : y ≠ 55) (h2 : y ≠ 94) : ntG34 t0 G x bit y = G y := by
  unfold ntG34
  split
  · rw [fu_o h2, fu_o h1]
  · rfl
theorem w_op16 {σ : pz_Sg} {G : iv_F} (h : rL B nt nf ns nm m0 t1 t0 pb wv e nx dn fl pr m l σ.1 G) (h10 : B 10 (24 * m + l) = nI 16) : pz_WP 47 (0, pz_en 6 [.ref 39, .int (nI (24 * m + l)), .int (nI 16)], []) σ (rP B nt ns nm m0 t1 t0 pb wv e nx dn fl pr (W160 e (24 * m + l)) σ G) := by
  obtain ⟨⟨f1, f2, f3⟩, ⟨f4, f5, f6⟩, ⟨f7, f8, f9, f10⟩, ⟨p0, p1, p2, p3⟩, ⟨g0, g1, g2, g3⟩, floc, b60⟩ := rl h
  obtain ⟨u1, u2, u3⟩ := rl_op h (by decide) h10
  have vs : vp_in (nI (24 * m + l)) 240 := vp_in_nI f6 (by decide)
  have ve : vp_in (nI e) 12 := vp_in_nI f3 (by decide)
  have cs : (nI (24 * m + l)).toNatClampNeg = 24 * m + l := nI_clamp (by omega)
  have ce : (nI e).toNatClampNeg = e := nI_clamp (by omega)
  have bs := h.1.1.1.2.2.1
  obtain ⟨-, H, -⟩ := id h
  obtain ⟨a1, ⟨-, -, -, w4, -, w6⟩, -⟩ := id H
  obtain ⟨a, ha, ea⟩ := vp_in_of (show vp_in (B 11 (24 * m + l)) 8 from u1) (by decide)
  obtain ⟨u2, u2'⟩ := (show vp_in (B 12 (24 * m + l)) ns ∧ B 5 (B 12 (24 * m + l)).toNatClampNeg = 0 from u2)
  obtain ⟨b, hb, eb⟩ := vp_in_of u2 (by omega)
  have wb : vp_in (nI b) 8 := vp_in_nI (by omega) (by decide)
  have db : (nI b).toNatClampNeg = b := nI_clamp (by omega)
  rw [eb, db] at u2'
  have va : vp_in (nI (8 * e + a)) 96 := vp_in_nI (by omega) (by decide)
  have ca : (nI (8 * e + a)).toNatClampNeg = 8 * e + a := nI_clamp (by omega)
  have k19 : σ.1 19 b = G 76 b := w4 b (by omega)
  refine pv_47 _ _ σ _ ?_
  rw [p1, p2, cs, ea, eb]
  refine ⟨vs, vs, fun z => absurd z (by decide), fun _ => pz_ki (w_locals f1) ?_, fun z => absurd z (by decide), fun z => absurd z (by decide), trivial⟩
  rw [nI_add, ca, db]
  refine ⟨wb, va, ?_⟩
  rintro σ4 rfl
  refine pv_47_141 _ _ _ _ _ ⟨fun z => absurd z (by decide), fun _ => ⟨fun z => absurd z (by decide), fun _ => pv_47_158 _ _ _ _ _ ⟨fun _ => ?_, fun z => absurd rfl z⟩⟩⟩
  rw [nI_add]
  obtain ⟨F', hF, R, hk⟩ := n_st33 h.1 (σ := pz_up σ 43 (8 * e + a) (σ.1 19 b)) (G := fu G 91 (8 * e + a) (σ.1 19 b)) (rr_num H (8 * e + a) _) (p := 16 + b) (by omega)
  refine pz_kv hF ?_
  refine pz_kq (rl_go (σ1 := (F', σ.2)) h rfl R (congrFun (hk 41 (by decide)) e) (congrFun (hk 42 (by decide)) e) rfl (by omega) (fun T => ?_))
  refine pv_160 _ _ _ _ ?_
  rw [cs, Ms_r (a := 64) (by decide), Ms_r (a := 65) (by decide), Ms_r (a := 66) (by decide), Ms_r (a := 67) (by decide), g0, g1, g2, g3, h10, ea, eb, nI_a7 a ha, pk_mul, nI_add, nI_add, nI_add, nI_add, ca, ce]
  refine ⟨vs, vs, vs, vs, fun z => absurd z (by decide), fun z => absurd z (by decide), fun z => absurd z (by decide), fun z => absurd z (by decide), fun z => absurd z (by decide), fun z => absurd z (by decide), fun z => absurd z (by decide), fun z => absurd z (by decide), fun z => absurd z (by decide), fun z => absurd z (by decide), fun z => absurd z (by decide), fun z => absurd z (by decide), fun z => absurd z (by decide), fun z => absurd z (by decide), fun z => absurd z (by decide), fun z => absurd z (by decide), fun z => absurd z (by decide), fun _ => ?_, fun z => absurd z (by decide), fun z => absurd z (by decide), fun z => absurd z (by decide), fun z => absurd z (by decide), fun z => absurd z (by decide), trivial⟩
  rintro σ5 rfl
  rw [db]
  refine ⟨wb, va, ?_⟩
  rintro σ6 rfl
  refine ⟨ve, ve, ?_⟩
  rintro σ7 rfl
  refine ⟨rfl, ?_⟩
  rw [Ms_u (by decide), Ms_u (by decide), Ms_u (by decide), k19, fu_cm (F := G) (a := 91) (b := 55) (by decide)]
  rfl
theorem w_op17 {σ : pz_Sg} {G : iv_F} (h : rL B nt nf ns nm m0 t1 t0 pb wv e nx dn fl pr m l σ.1 G) (h10 : B 10 (24 * m + l) = nI 17) : pz_WP 47 (0, pz_en 6 [.ref 39, .int (nI (24 * m + l)), .int (nI 17)], []) σ (rP B nt ns nm m0 t1 t0 pb wv e nx dn fl pr (W160 e (24 * m + l)) σ G) := by
  obtain ⟨⟨f1, f2, f3⟩, ⟨f4, f5, f6⟩, ⟨f7, f8, f9, f10⟩, ⟨p0, p1, p2, p3⟩, ⟨g0, g1, g2, g3⟩, floc, b60⟩ := rl h
  obtain ⟨u1, u2, u3⟩ := rl_op h (by decide) h10
  have vs : vp_in (nI (24 * m + l)) 240 := vp_in_nI f6 (by decide)
  have ve : vp_in (nI e) 12 := vp_in_nI f3 (by decide)
  have cs : (nI (24 * m + l)).toNatClampNeg = 24 * m + l := nI_clamp (by omega)
  have ce : (nI e).toNatClampNeg = e := nI_clamp (by omega)
  have bs := h.1.1.1.2.2.1
  obtain ⟨-, H, -⟩ := id h
  obtain ⟨a1, ⟨-, -, -, w4, -, w6⟩, -⟩ := id H
  obtain ⟨b, hb, eb⟩ := vp_in_of (show vp_in (B 12 (24 * m + l)) 8 from u2) (by decide)
  obtain ⟨u1, u1'⟩ := (show vp_in (B 11 (24 * m + l)) ns ∧ B 5 (B 11 (24 * m + l)).toNatClampNeg = 0 from u1)
  obtain ⟨a, ha, ea⟩ := vp_in_of u1 (by omega)
  have wa : vp_in (nI a) 8 := vp_in_nI (by omega) (by decide)
  have da : (nI a).toNatClampNeg = a := nI_clamp (by omega)
  rw [ea, da] at u1'
  have vb : vp_in (nI (8 * e + b)) 96 := vp_in_nI (by omega) (by decide)
  have cb : (nI (8 * e + b)).toNatClampNeg = 8 * e + b := nI_clamp (by omega)
  refine pv_47 _ _ σ _ ?_
  rw [p1, p2, cs, ea, eb]
  refine ⟨vs, vs, fun z => absurd z (by decide), fun z => absurd z (by decide), fun _ => pz_ki (w_locals f1) ?_, fun z => absurd z (by decide), trivial⟩
  rw [nI_add, cb, da]
  refine ⟨vb, wa, ?_⟩
  rintro σ4 rfl
  refine pv_47_141 _ _ _ _ _ ⟨fun _ => pv_47_158 _ _ _ _ _ ⟨fun z => absurd z (by decide), fun _ => ?_⟩, fun z => absurd rfl z⟩
  rw [nI_add]
  obtain ⟨F', hF, R, hk⟩ := n_st34 h.1 (σ := pz_up σ 19 a (σ.1 43 (8 * e + b))) (G := fu G 76 a (σ.1 43 (8 * e + b))) (rr_stat H (fun z => absurd (u1'.symm.trans z) (by decide))) (p := 16 + a) (by omega)
  refine pz_kv hF ?_
  refine pz_kq (rl_go (σ1 := (F', σ.2)) h rfl R (congrFun (hk 41 (by decide)) e) (congrFun (hk 42 (by decide)) e) rfl (by omega) (fun T => ?_))
  refine pv_160 _ _ _ _ ?_
  rw [cs, Ms_r (a := 64) (by decide), Ms_r (a := 65) (by decide), Ms_r (a := 66) (by decide), Ms_r (a := 67) (by decide), g0, g1, g2, g3, h10, ea, eb, nI_a7 a (by omega), pk_mul, nI_add, nI_add, nI_add, nI_add, cb, ce]
  refine ⟨vs, vs, vs, vs, fun z => absurd z (by decide), fun z => absurd z (by decide), fun z => absurd z (by decide), fun z => absurd z (by decide), fun z => absurd z (by decide), fun z => absurd z (by decide), fun z => absurd z (by decide), fun z => absurd z (by decide), fun z => absurd z (by decide), fun z => absurd z (by decide), fun z => absurd z (by decide), fun z => absurd z (by decide), fun z => absurd z (by decide), fun z => absurd z (by decide), fun z => absurd z (by decide), fun z => absurd z (by decide), fun z => absurd z (by decide), fun z => absurd z (by decide), fun _ => ⟨vs, ?_⟩, fun z => absurd z (by decide), fun z => absurd z (by decide), fun z => absurd z (by decide), fun z => absurd z (by decide), trivial⟩
  rintro σ5 rfl
  rw [Ms_u (by decide), Ms_r (a := 65) (by decide), fu_o (x := 65) (a := 55) (by decide), g1, ea, da]
  refine ⟨vs, vb, wa, ?_⟩
  rintro σ6 rfl
  refine ⟨ve, ve, ?_⟩
  rintro σ7 rfl
  refine ⟨rfl, ?_⟩
  rw [Ms_u (by decide), Ms_u (by decide), (floc b hb).1, fu_cm (F := G) (a := 76) (b := 55) (by decide)]
  rfl
theorem w_op18 {σ : pz_Sg} {G : iv_F} (h : rL B nt nf ns nm m0 t1 t0 pb wv e nx dn fl pr m l σ.1 G) (h10 : B 10 (24 * m + l) = nI 18) : pz_WP 47 (0, pz_en 6 [.ref 39, .int (nI (24 * m + l)), .int (nI 18)], []) σ (rP B nt ns nm m0 t1 t0 pb wv e nx dn fl pr (W160 e (24 * m + l)) σ G) := by
  obtain ⟨⟨f1, f2, f3⟩, ⟨f4, f5, f6⟩, ⟨f7, f8, f9, f10⟩, ⟨p0, p1, p2, p3⟩, ⟨g0, g1, g2, g3⟩, floc, b60⟩ := rl h
  obtain ⟨u1, u2, u3⟩ := rl_op h (by decide) h10
  have vs : vp_in (nI (24 * m + l)) 240 := vp_in_nI f6 (by decide)
  have ve : vp_in (nI e) 12 := vp_in_nI f3 (by decide)
  have cs : (nI (24 * m + l)).toNatClampNeg = 24 * m + l := nI_clamp (by omega)
  have ce : (nI e).toNatClampNeg = e := nI_clamp (by omega)
  have bs := h.1.1.1.2.2.1
  obtain ⟨-, H, -⟩ := id h
  obtain ⟨a1, ⟨-, -, -, w4, -, w6⟩, -⟩ := id H
  obtain ⟨a, ha, ea⟩ := vp_in_of (show vp_in (B 11 (24 * m + l)) 8 from u1) (by decide)
  obtain ⟨u2, u2'⟩ := (show vp_in (B 12 (24 * m + l)) ns ∧ B 5 (B 12 (24 * m + l)).toNatClampNeg = 1 from u2)
  obtain ⟨b, hb, eb⟩ := vp_in_of u2 (by omega)
  have wb : vp_in (nI b) 8 := vp_in_nI (by omega) (by decide)
  have db : (nI b).toNatClampNeg = b := nI_clamp (by omega)
  rw [eb, db] at u2'
  have va : vp_in (nI (8 * e + a)) 96 := vp_in_nI (by omega) (by decide)
  have ca : (nI (8 * e + a)).toNatClampNeg = 8 * e + a := nI_clamp (by omega)
  have k19 : σ.1 19 b = G 76 b := w4 b (by omega)
  refine pv_47 _ _ σ _ ?_
  rw [p1, p2, cs, ea, eb]
  refine ⟨vs, vs, fun z => absurd z (by decide), fun z => absurd z (by decide), fun z => absurd z (by decide), fun _ => pz_ki (w_locals f1) ?_, trivial⟩
  rw [nI_add, ca, db]
  refine ⟨wb, va, ?_⟩
  rintro σ4 rfl
  refine pv_47_141 _ _ _ _ _ ⟨fun z => absurd z (by decide), fun _ => ⟨fun z => absurd z (by decide), fun _ => pv_47_158 _ _ _ _ _ ⟨fun _ => ?_, fun z => absurd rfl z⟩⟩⟩
  rw [nI_add]
  obtain ⟨F', hF, R, hk⟩ := n_st33 h.1 (σ := pz_up σ 44 (8 * e + a) (σ.1 19 b)) (G := fu G 92 (8 * e + a) (σ.1 19 b)) (rr_ref H (8 * e + a) (w6 b hb ((congrFun (rKn a1 5 (by decide) rfl) b).trans u2'))) (p := 16 + b) (by omega)
  refine pz_kv hF ?_
  refine pz_kq (rl_go (σ1 := (F', σ.2)) h rfl R (congrFun (hk 41 (by decide)) e) (congrFun (hk 42 (by decide)) e) rfl (by omega) (fun T => ?_))
  refine pv_160 _ _ _ _ ?_
  rw [cs, Ms_r (a := 64) (by decide), Ms_r (a := 65) (by decide), Ms_r (a := 66) (by decide), Ms_r (a := 67) (by decide), g0, g1, g2, g3, h10, ea, eb, nI_a7 a ha, pk_mul, nI_add, nI_add, nI_add, nI_add, ca, ce]
  refine ⟨vs, vs, vs, vs, fun z => absurd z (by decide), fun z => absurd z (by decide), fun z => absurd z (by decide), fun z => absurd z (by decide), fun z => absurd z (by decide), fun z => absurd z (by decide), fun z => absurd z (by decide), fun z => absurd z (by decide), fun z => absurd z (by decide), fun z => absurd z (by decide), fun z => absurd z (by decide), fun z => absurd z (by decide), fun z => absurd z (by decide), fun z => absurd z (by decide), fun z => absurd z (by decide), fun z => absurd z (by decide), fun z => absurd z (by decide), fun z => absurd z (by decide), fun z => absurd z (by decide), fun _ => ?_, fun z => absurd z (by decide), fun z => absurd z (by decide), fun z => absurd z (by decide), trivial⟩
  rintro σ5 rfl
  rw [db]
  refine ⟨wb, va, ?_⟩
  rintro σ6 rfl
  refine ⟨ve, ve, ?_⟩
  rintro σ7 rfl
  refine ⟨rfl, ?_⟩
  rw [Ms_u (by decide), Ms_u (by decide), Ms_u (by decide), k19, fu_cm (F := G) (a := 92) (b := 55) (by decide)]
  rfl
theorem w_op19 {σ : pz_Sg} {G : iv_F} (h : rL B nt nf ns nm m0 t1 t0 pb wv e nx dn fl pr m l σ.1 G) (h10 : B 10 (24 * m + l) = nI 19) : pz_WP 47 (0, pz_en 6 [.ref 39, .int (nI (24 * m + l)), .int (nI 19)], []) σ (rP B nt ns nm m0 t1 t0 pb wv e nx dn fl pr (W160 e (24 * m + l)) σ G) := by
  obtain ⟨⟨f1, f2, f3⟩, ⟨f4, f5, f6⟩, ⟨f7, f8, f9, f10⟩, ⟨p0, p1, p2, p3⟩, ⟨g0, g1, g2, g3⟩, floc, b60⟩ := rl h
  obtain ⟨u1, u2, u3⟩ := rl_op h (by decide) h10
  have vs : vp_in (nI (24 * m + l)) 240 := vp_in_nI f6 (by decide)
  have ve : vp_in (nI e) 12 := vp_in_nI f3 (by decide)
  have cs : (nI (24 * m + l)).toNatClampNeg = 24 * m + l := nI_clamp (by omega)
  have ce : (nI e).toNatClampNeg = e := nI_clamp (by omega)
  have bs := h.1.1.1.2.2.1
  obtain ⟨-, H, -⟩ := id h
  obtain ⟨a1, ⟨-, -, -, w4, -, w6⟩, -⟩ := id H
  obtain ⟨b, hb, eb⟩ := vp_in_of (show vp_in (B 12 (24 * m + l)) 8 from u2) (by decide)
  obtain ⟨u1, u1'⟩ := (show vp_in (B 11 (24 * m + l)) ns ∧ B 5 (B 11 (24 * m + l)).toNatClampNeg = 1 from u1)
  obtain ⟨a, ha, ea⟩ := vp_in_of u1 (by omega)
  have wa : vp_in (nI a) 8 := vp_in_nI (by omega) (by decide)
  have da : (nI a).toNatClampNeg = a := nI_clamp (by omega)
  rw [ea, da] at u1'
  have vb : vp_in (nI (8 * e + b)) 96 := vp_in_nI (by omega) (by decide)
  have cb : (nI (8 * e + b)).toNatClampNeg = 8 * e + b := nI_clamp (by omega)
  refine pv_47 _ _ σ _ ?_
  rw [p1, p2, cs, ea, eb]
  refine ⟨vs, vs, fun _ => pz_ki (w_locals f1) ?_, fun z => absurd z (by decide), fun z => absurd z (by decide), fun z => absurd z (by decide), trivial⟩
  rw [nI_add, cb, da]
  refine ⟨vb, wa, ?_⟩
  rintro σ4 rfl
  refine pv_47_141 _ _ _ _ _ ⟨fun z => absurd z (by decide), fun _ => ⟨fun _ => pv_47_158 _ _ _ _ _ ⟨fun z => absurd z (by decide), fun _ => ?_⟩, fun z => absurd rfl z⟩⟩
  rw [nI_add]
  obtain ⟨F', hF, R, hk⟩ := n_st34 h.1 (σ := pz_up σ 19 a (σ.1 44 (8 * e + b))) (G := fu G 76 a (σ.1 44 (8 * e + b))) (rr_stat H (fun _ => (floc b hb).2.2)) (p := 16 + a) (by omega)
  refine pz_kv hF ?_
  refine pz_kq (rl_go (σ1 := (F', σ.2)) h rfl R (congrFun (hk 41 (by decide)) e) (congrFun (hk 42 (by decide)) e) rfl (by omega) (fun T => ?_))
  refine pv_160 _ _ _ _ ?_
  rw [cs, Ms_r (a := 64) (by decide), Ms_r (a := 65) (by decide), Ms_r (a := 66) (by decide), Ms_r (a := 67) (by decide), g0, g1, g2, g3, h10, ea, eb, nI_a7 a (by omega), pk_mul, nI_add, nI_add, nI_add, nI_add, cb, ce]
  refine ⟨vs, vs, vs, vs, fun z => absurd z (by decide), fun z => absurd z (by decide), fun z => absurd z (by decide), fun z => absurd z (by decide), fun z => absurd z (by decide), fun z => absurd z (by decide), fun z => absurd z (by decide), fun z => absurd z (by decide), fun z => absurd z (by decide), fun z => absurd z (by decide), fun z => absurd z (by decide), fun z => absurd z (by decide), fun z => absurd z (by decide), fun z => absurd z (by decide), fun z => absurd z (by decide), fun z => absurd z (by decide), fun z => absurd z (by decide), fun z => absurd z (by decide), fun z => absurd z (by decide), fun z => absurd z (by decide), fun _ => ⟨vs, ?_⟩, fun z => absurd z (by decide), fun z => absurd z (by decide), trivial⟩
  rintro σ5 rfl
  rw [Ms_u (by decide), Ms_r (a := 65) (by decide), fu_o (x := 65) (a := 55) (by decide), g1, ea, da]
  refine ⟨vs, vb, wa, ?_⟩
  rintro σ6 rfl
  refine ⟨ve, ve, ?_⟩
  rintro σ7 rfl
  refine ⟨rfl, ?_⟩
  rw [Ms_u (by decide), Ms_u (by decide), (floc b hb).2.1, fu_cm (F := G) (a := 76) (b := 55) (by decide)]
  rfl
end
