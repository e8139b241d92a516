section
variable {B : iv_F} {nt nf ns nm m0 t1 t0 pb : Nat} {wv : Int32} {e nx dn fl pr m l : Nat}
/-! ===== a step: doNext beside the reference's ===== -/
def rN (B : iv_F) (nt ns nm m0 t1 t0 pb : Nat) (wv : Int32) (e nx dn fl pr : Nat) (G : iv_F) (r : Int32) (F' : iv_F) : Prop :=
  (r = 0 ∧ ∃ G' d' nx' dn' pr', (∀ T, pz_WP 157 (0, pz_en 4 [.ref 55], []) (Ms T G) (pz_is none (Ms T G'))) ∧ RR B nt ns nm m0 t1 t0 pb wv d' nx' dn' fl pr' F' G' ∧ pr' ≤ pb + dn' ∧ d' + 2 * dn + 1 ≤ e + 1 + 2 * dn' ∧ (d' = 0 → rFn B m0 nx' F')) ∨
  (r = -(nI 4) ∧ ∃ G', (∀ T, pz_WP 157 (0, pz_en 4 [.ref 55], []) (Ms T G) (pz_is none (Ms T G'))) ∧ rFr B F' G' ∧ ¬ G' 55 46 = 0 ∧ ¬ F' 39 8 ≤ 0) ∨
  ∃ f, (1 ≤ f ∧ f ≤ 9) ∧ r = nI f ∧ ∃ G1, (∀ T s, pz_WP 152 (0, pz_en 4 [.ref 55, .int (nI f)], []) (Ms T G1) (pz_is none s) → pz_WP 157 (0, pz_en 4 [.ref 55], []) (Ms T G) (pz_is none s)) ∧ RR B nt ns nm m0 t1 t0 pb wv (e + 1) nx (dn + 1) fl pr F' G1 ∧ pr ≤ pb + (dn + 1) ∧ ∃ m l, rFm B nm F' G1 e m l l ∧ l < (B 9 m).toNatClampNeg
/-- the reference's step as far as the LINE -/
theorem m_157 {F G : iv_F} (hQ : rQ B nt nf ns nm m0 t1) (H : RR B nt ns nm m0 t1 t0 pb wv (e + 1) nx dn fl pr F G) (hf : rFm B nm F G e m l l) (hl : l < (B 9 m).toNatClampNeg) (hd : dn < 500) {o : Nat} (ho : o < 32) (h10 : B 10 (24 * m + l) = nI o) {T s : pz_Sg} (h8 : ((10 ≤ o ∧ o ≤ 15) ∨ o = 20) → W158 e (24 * m + l) (Ms T (fu G 55 47 (nI (dn + 1)))) (pz_is none s)) (h0 : (o < 10 ∨ (15 < o ∧ o < 23 ∧ ¬ o = 20)) → W160 e (24 * m + l) (Ms T (fu G 55 47 (nI (dn + 1)))) (pz_is none s)) (h5 : 23 ≤ o → W165 e (24 * m + l) (Ms T (fu G 55 47 (nI (dn + 1)))) (pz_is none s)) : pz_WP 157 (0, pz_en 4 [.ref 55], []) (Ms T G) (pz_is none s) := by
  obtain ⟨m1, ⟨m2, m2'⟩, ⟨l1, l1'⟩, -, -⟩ := hf
  obtain ⟨a1, -, -, ⟨⟨s1, s1', s1''⟩, -⟩, ⟨⟨c1, c1', c1''⟩, -⟩, -⟩ := id H
  have bm := hQ.1.1.2.2.2
  have bl := fP_L' hQ.1 m m1
  obtain ⟨⟨q1, -⟩, -⟩ := hQ.1.2.2.1 m m1 l hl
  have g64 : fu G 55 47 (nI (dn + 1)) 64 (24 * m + l) = nI o := by
    rw [fu_o (by decide), rKg a1 64 (by decide) rfl, ← q1, h10]
  have g63 : G 63 m = nI (B 9 m).toNatClampNeg := by
    obtain ⟨w, p, hp, ep⟩ := (hQ.1.2.1.1 m m1).2.2.2.1
    rw [rKg a1 63 (by decide) rfl, ← w, ep, nI_clamp (by omega)]
  have ve : vp_in (nI e) 12 := vp_in_nI (by omega) (by decide)
  have vm : vp_in (nI m) 10 := vp_in_nI (by omega) (by decide)
  have vs : vp_in (nI (24 * m + l)) 240 := vp_in_nI (by omega) (by decide)
  have cs : (nI (24 * m + l)).toNatClampNeg = 24 * m + l := nI_clamp (by omega)
  have L109 : (¬ (10 ≤ o ∧ o ≤ 15)) → pz_WP 157 (109, [some (.ref 55), some (.int (nI e)), none, some (.int (nI (24 * m + l)))], []) (Ms T (fu G 55 47 (nI (dn + 1)))) (pz_is none s) := fun hn => by
    refine pv_157_109 _ _ _ _ ?_
    rw [cs, Ms_r (a := 64) (by decide), g64]
    refine ⟨vs, fun z => pz_kn (h8 (Or.inr ((nI_eq (by omega) (by decide)).mp z))), fun z => ⟨vs, fun y => pz_kn (h5 ((nI_leI (by decide) (by omega)).mp y)), fun y => pz_kn (h0 ?_)⟩⟩
    have y1 : ¬ 23 ≤ o := fun q => y ((nI_leI (by decide) (by omega)).mpr q)
    have z1 : ¬ o = 20 := fun q => z (by rw [q])
    omega
  refine pv_157 _ _ ?_
  rw [Ms_r (a := 55) (by decide), s1', qz_m1, nI_clamp (show e < 2 ^ 31 by omega), Ms_r (a := 89) (by decide), m2', nI_clamp (show m < 2 ^ 31 by omega), Ms_r (a := 90) (by decide), l1', Ms_r (a := 63) (by decide), g63, c1', nI_1, pk_mul]
  refine ⟨ve, ve, vm, fun _ => ⟨fun z => absurd ((nI_eq (by omega) (by decide)).mp z) (by omega), fun _ => ?_⟩, fun z => absurd (nI_lt hl (by omega)) z⟩
  rintro σ1 rfl
  rw [Ms_u (by decide), Ms_r (a := 90) (by decide), show fu G 55 47 (nI (dn + 1)) 90 e = nI l from l1', nI_add, cs, Ms_r (a := 64) (by decide), g64]
  refine ⟨ve, vs, fun z => L109 ?_, fun z => ⟨vs, fun y => pz_kn (h8 ?_), fun y => L109 ?_⟩⟩
  · have := (nI_ltI (by omega) (by decide)).mp z
    omega
  · have y1 := (nI_leI (by omega) (by decide)).mp y
    have z1 : ¬ o < 10 := fun q => z (nI_lt q (by decide))
    omega
  · have y1 : ¬ o ≤ 15 := fun q => y (nI_le q (by decide))
    omega
theorem w_next {σ : pz_Sg} {G : iv_F} (hQ : rQ B nt nf ns nm m0 t1) (H : RR B nt ns nm m0 t1 t0 pb wv (e + 1) nx dn fl pr σ.1 G) (hpr : pr ≤ pb + dn) (hpb : pb + 500 < 1000000) : pz_WP 42 (0, pz_en 5 [.ref 39], []) σ (fun v σ' => ∃ r, v = some (.int r) ∧ σ'.2 = σ.2 ∧ rN B nt ns nm m0 t1 t0 pb wv e nx dn fl pr G r σ'.1) := by
  obtain ⟨a1, -, -, ⟨⟨s1, s1', s1''⟩, -, s3⟩, ⟨⟨c1, c1', c1''⟩, -⟩, -⟩ := id H
  obtain ⟨m, l, l', ⟨m1, ⟨m2, m2'⟩, ⟨l1, l1'⟩, l2, l3⟩, -⟩ := s3 e (by omega)
  have bm := hQ.1.1.2.2.2
  have bl := fP_L' hQ.1 m m1
  have ve : vp_in (nI e) 12 := vp_in_nI (by omega) (by decide)
  have vm : vp_in (nI m) 10 := vp_in_nI (by omega) (by decide)
  obtain ⟨w9, p9, hp9, ep9⟩ := (hQ.1.2.1.1 m m1).2.2.2.1
  have n9 : σ.1 9 m = nI (B 9 m).toNatClampNeg := by rw [rKn a1 9 (by decide) rfl, ep9, nI_clamp (by omega)]
  have g63 : G 63 m = nI (B 9 m).toNatClampNeg := by rw [rKg a1 63 (by decide) rfl, ← w9, ep9, nI_clamp (by omega)]
  have f8 : σ.1 8 m = B 8 m := by rw [rKn a1 8 (by decide) rfl]
  have g62 : G 62 m = B 8 m := by rw [rKg a1 62 (by decide) rfl]; exact ((hQ.1.2.1.1 m m1).2.2.1.1).symm
  refine pv_42 σ _ ?_
  rw [s1, qz_m1, nI_clamp (show e < 2 ^ 31 by omega), m2, nI_clamp (show m < 2 ^ 31 by omega), l1, n9, f8, c1]
  refine ⟨ve, ve, vm, fun hl => ?_, fun hl => ?_⟩
  · have hl : l < (B 9 m).toNatClampNeg := (nI_ltI (by omega) (by omega)).mp hl
    have ll : l' = l := by
      rcases l3 with q | q
      · exact q.symm
      · exact absurd hl (by omega)
    subst ll
    have hfm : rFm B nm σ.1 G e m l' l' := ⟨m1, ⟨m2, m2'⟩, ⟨l1, l1'⟩, l2, l3⟩
    by_cases hd : dn < 500
    · refine ⟨fun _ => ?_, fun z => absurd (nI_lt hd (by decide)) z⟩
      rintro σ1 rfl
      rw [nI_1, pk_mul, nI_add, Nat.mul_comm m 24]
      have R1 := rr_cnt H hd
      have hL : rL B nt nf ns nm m0 t1 t0 pb wv e nx (dn + 1) fl pr m l' (pz_up σ 40 3 (nI (dn + 1))).1 (fu G 55 47 (nI (dn + 1))) := ⟨hQ, R1, ⟨m1, ⟨m2, m2'⟩, ⟨l1, l1'⟩, l2, l3⟩, hl, by omega⟩
      have vs : vp_in (nI (24 * m + l')) 240 := vp_in_nI (by omega) (by decide)
      have cs : (nI (24 * m + l')).toNatClampNeg = 24 * m + l' := nI_clamp (by omega)
      obtain ⟨o, ho, e10, -⟩ := fOp hQ.1.2.2.1 m1 hl
      rw [cs, show (pz_up σ 40 3 (nI (dn + 1))).1 10 (24 * m + l') = nI o by rw [← e10]; exact congrFun (rKn a1 10 (by decide) rfl) _]
      have core : ∀ {W : pz_Sg → pz_Ps → Prop}, (∀ T s, W (Ms T (fu G 55 47 (nI (dn + 1)))) (pz_is none s) → pz_WP 157 (0, pz_en 4 [.ref 55], []) (Ms T G) (pz_is none s)) → ∀ (r : Int32) (σ' : pz_Sg), rP B nt ns nm m0 t1 t0 pb wv e nx (dn + 1) fl pr W (pz_up σ 40 3 (nI (dn + 1))) (fu G 55 47 (nI (dn + 1))) (some (.int r)) σ' → ∃ r', (some (.int r) : Option Value) = some (.int r') ∧ σ'.2 = σ.2 ∧ rN B nt ns nm m0 t1 t0 pb wv e nx dn fl pr G r' σ'.1 := fun hW => by
        rintro r σ' ⟨r', er, h2, hO⟩
        refine ⟨r', er, h2, ?_⟩
        rcases hO with ⟨r0, G', d', nx', pr', hG, hR, hp, hdd, hfn⟩ | ⟨r4, G', hG, hr, h46, h39⟩ | ⟨f, hf, rf, hF, hG⟩
        · exact Or.inl ⟨r0, G', d', nx', dn + 1, pr', fun T => hW T _ (hG T), hR, by omega, by omega, hfn⟩
        · exact Or.inr (Or.inl ⟨r4, G', fun T => hW T _ (hG T), hr, h46, h39⟩)
        · refine Or.inr (Or.inr ⟨f, hf, rf, fu G 55 47 (nI (dn + 1)), fun T s hs => hW T s (hG T s hs), ?_, by omega, m, l', ?_, hl⟩)
          · rw [hF]; exact R1
          · rw [hF]; exact ⟨m1, ⟨m2, m2'⟩, ⟨l1, l1'⟩, l2, l3⟩
      have fin : ∀ {t : Nat} {f : pz_Fr} {W : pz_Sg → pz_Ps → Prop}, pz_WP t f (pz_up σ 40 3 (nI (dn + 1))) (rP B nt ns nm m0 t1 t0 pb wv e nx (dn + 1) fl pr W (pz_up σ 40 3 (nI (dn + 1))) (fu G 55 47 (nI (dn + 1)))) → (∀ T s, W (Ms T (fu G 55 47 (nI (dn + 1)))) (pz_is none s) → pz_WP 157 (0, pz_en 4 [.ref 55], []) (Ms T G) (pz_is none s)) → ∃ Q : pz_Ps, pz_WP t f (pz_up σ 40 3 (nI (dn + 1))) Q ∧ ∀ r σ', Q (some (.int r)) σ' → ∃ r', (some (.int r) : Option Value) = some (.int r') ∧ σ'.2 = σ.2 ∧ rN B nt ns nm m0 t1 t0 pb wv e nx dn fl pr G r' σ'.1 := fun hC hW => ⟨_, hC, core hW⟩
      have finJ : ∀ {s' : Nat} {o' : Int32} {W : pz_Sg → pz_Ps → Prop}, rJ (pz_up σ 40 3 (nI (dn + 1))) s' o' (rP B nt ns nm m0 t1 t0 pb wv e nx (dn + 1) fl pr W (pz_up σ 40 3 (nI (dn + 1))) (fu G 55 47 (nI (dn + 1)))) → (∀ T s, W (Ms T (fu G 55 47 (nI (dn + 1)))) (pz_is none s) → pz_WP 157 (0, pz_en 4 [.ref 55], []) (Ms T G) (pz_is none s)) → rJ (pz_up σ 40 3 (nI (dn + 1))) s' o' (fun v σ' => ∃ r, v = some (.int r) ∧ σ'.2 = σ.2 ∧ rN B nt ns nm m0 t1 t0 pb wv e nx dn fl pr G r σ'.1) := fun hC hW => rJ_mono hC (core hW)
      refine ⟨vs, ?_⟩
      rcases (show o = 0 ∨ o = 1 ∨ o = 2 ∨ o = 3 ∨ o = 4 ∨ o = 5 ∨ o = 6 ∨ o = 7 ∨ o = 8 ∨ o = 9 ∨ o = 10 ∨ o = 11 ∨ o = 12 ∨ o = 13 ∨ o = 14 ∨ o = 15 ∨ o = 16 ∨ o = 17 ∨ o = 18 ∨ o = 19 ∨ o = 20 ∨ o = 21 ∨ o = 22 ∨ o = 23 ∨ o = 24 ∨ o = 25 ∨ o = 26 ∨ o = 27 ∨ o = 28 ∨ o = 29 ∨ o = 30 ∨ o = 31 by omega) with rfl | rfl | rfl | rfl | rfl | rfl | rfl | rfl | rfl | rfl | rfl | rfl | rfl | rfl | rfl | rfl | rfl | rfl | rfl | rfl | rfl | rfl | rfl | rfl | rfl | rfl | rfl | rfl | rfl | rfl | rfl | rfl
      · exact ⟨fun z => absurd z (by decide), fun _ => fin (w_op0 hL e10) (fun T s hs => m_157 hQ H hfm hl hd (by decide) e10 (fun z => absurd z (by decide)) (fun _ => hs) (fun z => absurd z (by decide)))⟩
      · exact ⟨fun z => absurd z (by decide), fun _ => fin (w_op1 hL e10) (fun T s hs => m_157 hQ H hfm hl hd (by decide) e10 (fun z => absurd z (by decide)) (fun _ => hs) (fun z => absurd z (by decide)))⟩
      · exact ⟨fun z => absurd z (by decide), fun _ => fin (w_op2 hL e10) (fun T s hs => m_157 hQ H hfm hl hd (by decide) e10 (fun z => absurd z (by decide)) (fun _ => hs) (fun z => absurd z (by decide)))⟩
      · exact ⟨fun z => absurd z (by decide), fun _ => fin (w_op3 hL e10) (fun T s hs => m_157 hQ H hfm hl hd (by decide) e10 (fun z => absurd z (by decide)) (fun _ => hs) (fun z => absurd z (by decide)))⟩
      · exact ⟨fun z => absurd z (by decide), fun _ => fin (w_op4 hL e10) (fun T s hs => m_157 hQ H hfm hl hd (by decide) e10 (fun z => absurd z (by decide)) (fun _ => hs) (fun z => absurd z (by decide)))⟩
      · exact ⟨fun z => absurd z (by decide), fun _ => fin (w_op5 hL e10) (fun T s hs => m_157 hQ H hfm hl hd (by decide) e10 (fun z => absurd z (by decide)) (fun _ => hs) (fun z => absurd z (by decide)))⟩
      · exact ⟨fun _ => ⟨fun z => absurd z (by decide), fun _ => fin (w_op6 hL e10) (fun T s hs => m_157 hQ H hfm hl hd (by decide) e10 (fun z => absurd z (by decide)) (fun _ => hs) (fun z => absurd z (by decide)))⟩, fun z => absurd (by decide) z⟩
      · exact ⟨fun _ => ⟨fun z => absurd z (by decide), fun _ => fin (w_op7 hL e10) (fun T s hs => m_157 hQ H hfm hl hd (by decide) e10 (fun z => absurd z (by decide)) (fun _ => hs) (fun z => absurd z (by decide)))⟩, fun z => absurd (by decide) z⟩
      · exact ⟨fun _ => ⟨fun z => absurd z (by decide), fun _ => fin (w_op8 hL e10) (fun T s hs => m_157 hQ H hfm hl hd (by decide) e10 (fun z => absurd z (by decide)) (fun _ => hs) (fun z => absurd z (by decide)))⟩, fun z => absurd (by decide) z⟩
      · exact ⟨fun _ => ⟨fun z => absurd z (by decide), fun _ => fin (w_op9 hL e10) (fun T s hs => m_157 hQ H hfm hl hd (by decide) e10 (fun z => absurd z (by decide)) (fun _ => hs) (fun z => absurd z (by decide)))⟩, fun z => absurd (by decide) z⟩
      · exact ⟨fun _ => ⟨fun _ => ⟨fun z => absurd z (by decide), fun _ => fin (w_op10 hL e10) (fun T s hs => m_157 hQ H hfm hl hd (by decide) e10 (fun _ => hs) (fun z => absurd z (by decide)) (fun z => absurd z (by decide)))⟩, fun z => absurd (by decide) z⟩, fun z => absurd (by decide) z⟩
      · exact ⟨fun _ => ⟨fun _ => ⟨fun z => absurd z (by decide), fun _ => fin (w_op11 hL e10) (fun T s hs => m_157 hQ H hfm hl hd (by decide) e10 (fun _ => hs) (fun z => absurd z (by decide)) (fun z => absurd z (by decide)))⟩, fun z => absurd (by decide) z⟩, fun z => absurd (by decide) z⟩
      · exact ⟨fun _ => ⟨fun _ => ⟨fun z => absurd z (by decide), fun _ => fin (w_op12 hL e10) (fun T s hs => m_157 hQ H hfm hl hd (by decide) e10 (fun _ => hs) (fun z => absurd z (by decide)) (fun z => absurd z (by decide)))⟩, fun z => absurd (by decide) z⟩, fun z => absurd (by decide) z⟩
      · exact ⟨fun _ => ⟨fun _ => ⟨fun z => absurd z (by decide), fun _ => fin (w_op13 hL e10) (fun T s hs => m_157 hQ H hfm hl hd (by decide) e10 (fun _ => hs) (fun z => absurd z (by decide)) (fun z => absurd z (by decide)))⟩, fun z => absurd (by decide) z⟩, fun z => absurd (by decide) z⟩
      · exact ⟨fun _ => ⟨fun _ => ⟨fun _ => ⟨fun z => absurd z (by decide), fun _ => fin (w_op14 hL e10) (fun T s hs => m_157 hQ H hfm hl hd (by decide) e10 (fun _ => hs) (fun z => absurd z (by decide)) (fun z => absurd z (by decide)))⟩, fun z => absurd (by decide) z⟩, fun z => absurd (by decide) z⟩, fun z => absurd (by decide) z⟩
      · exact ⟨fun _ => ⟨fun _ => ⟨fun _ => ⟨fun z => absurd z (by decide), fun _ => fin (w_op15 hL e10) (fun T s hs => m_157 hQ H hfm hl hd (by decide) e10 (fun _ => hs) (fun z => absurd z (by decide)) (fun z => absurd z (by decide)))⟩, fun z => absurd (by decide) z⟩, fun z => absurd (by decide) z⟩, fun z => absurd (by decide) z⟩
      · exact ⟨fun _ => ⟨fun _ => ⟨fun _ => ⟨fun _ => ⟨fun z => absurd z (by decide), fun _ => fin (w_op16 hL e10) (fun T s hs => m_157 hQ H hfm hl hd (by decide) e10 (fun z => absurd z (by decide)) (fun _ => hs) (fun z => absurd z (by decide)))⟩, fun z => absurd (by decide) z⟩, fun z => absurd (by decide) z⟩, fun z => absurd (by decide) z⟩, fun z => absurd (by decide) z⟩
      · exact ⟨fun _ => ⟨fun _ => ⟨fun _ => ⟨fun _ => ⟨fun z => absurd z (by decide), fun _ => fin (w_op17 hL e10) (fun T s hs => m_157 hQ H hfm hl hd (by decide) e10 (fun z => absurd z (by decide)) (fun _ => hs) (fun z => absurd z (by decide)))⟩, fun z => absurd (by decide) z⟩, fun z => absurd (by decide) z⟩, fun z => absurd (by decide) z⟩, fun z => absurd (by decide) z⟩
      · exact ⟨fun _ => ⟨fun _ => ⟨fun _ => ⟨fun _ => ⟨fun z => absurd z (by decide), fun _ => fin (w_op18 hL e10) (fun T s hs => m_157 hQ H hfm hl hd (by decide) e10 (fun z => absurd z (by decide)) (fun _ => hs) (fun z => absurd z (by decide)))⟩, fun z => absurd (by decide) z⟩, fun z => absurd (by decide) z⟩, fun z => absurd (by decide) z⟩, fun z => absurd (by decide) z⟩
      · exact ⟨fun _ => ⟨fun _ => ⟨fun _ => ⟨fun _ => ⟨fun z => absurd z (by decide), fun _ => fin (w_op19 hL e10) (fun T s hs => m_157 hQ H hfm hl hd (by decide) e10 (fun z => absurd z (by decide)) (fun _ => hs) (fun z => absurd z (by decide)))⟩, fun z => absurd (by decide) z⟩, fun z => absurd (by decide) z⟩, fun z => absurd (by decide) z⟩, fun z => absurd (by decide) z⟩
      · exact ⟨fun _ => ⟨fun _ => ⟨fun _ => ⟨fun _ => ⟨fun _ => ⟨fun _ => fin (w_op20 hL e10) (fun T s hs => m_157 hQ H hfm hl hd (by decide) e10 (fun _ => hs) (fun z => absurd z (by decide)) (fun z => absurd z (by decide))), fun z => absurd rfl z⟩, fun z => absurd (by decide) z⟩, fun z => absurd (by decide) z⟩, fun z => absurd (by decide) z⟩, fun z => absurd (by decide) z⟩, fun z => absurd (by decide) z⟩
      · exact ⟨fun _ => ⟨fun _ => ⟨fun _ => ⟨fun _ => ⟨fun _ => ⟨fun z => absurd z (by decide), fun _ => ⟨fun _ => fin (w_op21 hL e10) (fun T s hs => m_157 hQ H hfm hl hd (by decide) e10 (fun z => absurd z (by decide)) (fun _ => hs) (fun z => absurd z (by decide))), fun z => absurd rfl z⟩⟩, fun z => absurd (by decide) z⟩, fun z => absurd (by decide) z⟩, fun z => absurd (by decide) z⟩, fun z => absurd (by decide) z⟩, fun z => absurd (by decide) z⟩
      · exact ⟨fun _ => ⟨fun _ => ⟨fun _ => ⟨fun _ => ⟨fun _ => ⟨fun z => absurd z (by decide), fun _ => ⟨fun z => absurd z (by decide), fun _ => ⟨fun _ => fin (w_op22 hL e10) (fun T s hs => m_157 hQ H hfm hl hd (by decide) e10 (fun z => absurd z (by decide)) (fun _ => hs) (fun z => absurd z (by decide))), fun z => absurd rfl z⟩⟩⟩, fun z => absurd (by decide) z⟩, fun z => absurd (by decide) z⟩, fun z => absurd (by decide) z⟩, fun z => absurd (by decide) z⟩, fun z => absurd (by decide) z⟩
      · exact ⟨fun _ => ⟨fun _ => ⟨fun _ => ⟨fun _ => ⟨fun _ => ⟨fun z => absurd z (by decide), fun _ => ⟨fun z => absurd z (by decide), fun _ => ⟨fun z => absurd z (by decide), fun _ => ⟨fun z => absurd z (by decide), fun _ => finJ (w_op23 hL e10) (fun T s hs => m_157 hQ H hfm hl hd (by decide) e10 (fun z => absurd z (by decide)) (fun z => absurd z (by decide)) (fun _ => hs))⟩⟩⟩⟩, fun z => absurd (by decide) z⟩, fun z => absurd (by decide) z⟩, fun z => absurd (by decide) z⟩, fun z => absurd (by decide) z⟩, fun z => absurd (by decide) z⟩
      · exact ⟨fun _ => ⟨fun _ => ⟨fun _ => ⟨fun _ => ⟨fun _ => ⟨fun z => absurd z (by decide), fun _ => ⟨fun z => absurd z (by decide), fun _ => ⟨fun z => absurd z (by decide), fun _ => ⟨fun z => absurd z (by decide), fun _ => finJ (w_op24 hL e10) (fun T s hs => m_157 hQ H hfm hl hd (by decide) e10 (fun z => absurd z (by decide)) (fun z => absurd z (by decide)) (fun _ => hs))⟩⟩⟩⟩, fun z => absurd (by decide) z⟩, fun z => absurd (by decide) z⟩, fun z => absurd (by decide) z⟩, fun z => absurd (by decide) z⟩, fun z => absurd (by decide) z⟩
      · exact ⟨fun _ => ⟨fun _ => ⟨fun _ => ⟨fun _ => ⟨fun _ => ⟨fun z => absurd z (by decide), fun _ => ⟨fun z => absurd z (by decide), fun _ => ⟨fun z => absurd z (by decide), fun _ => ⟨fun z => absurd z (by decide), fun _ => finJ (w_op25 hL e10) (fun T s hs => m_157 hQ H hfm hl hd (by decide) e10 (fun z => absurd z (by decide)) (fun z => absurd z (by decide)) (fun _ => hs))⟩⟩⟩⟩, fun z => absurd (by decide) z⟩, fun z => absurd (by decide) z⟩, fun z => absurd (by decide) z⟩, fun z => absurd (by decide) z⟩, fun z => absurd (by decide) z⟩
      · exact ⟨fun _ => ⟨fun _ => ⟨fun _ => ⟨fun _ => ⟨fun _ => ⟨fun z => absurd z (by decide), fun _ => ⟨fun z => absurd z (by decide), fun _ => ⟨fun z => absurd z (by decide), fun _ => ⟨fun z => absurd z (by decide), fun _ => finJ (w_op26 hL e10) (fun T s hs => m_157 hQ H hfm hl hd (by decide) e10 (fun z => absurd z (by decide)) (fun z => absurd z (by decide)) (fun _ => hs))⟩⟩⟩⟩, fun z => absurd (by decide) z⟩, fun z => absurd (by decide) z⟩, fun z => absurd (by decide) z⟩, fun z => absurd (by decide) z⟩, fun z => absurd (by decide) z⟩
      · exact ⟨fun _ => ⟨fun _ => ⟨fun _ => ⟨fun _ => ⟨fun _ => ⟨fun z => absurd z (by decide), fun _ => ⟨fun z => absurd z (by decide), fun _ => ⟨fun z => absurd z (by decide), fun _ => ⟨fun z => absurd z (by decide), fun _ => finJ (w_op27 hL e10) (fun T s hs => m_157 hQ H hfm hl hd (by decide) e10 (fun z => absurd z (by decide)) (fun z => absurd z (by decide)) (fun _ => hs))⟩⟩⟩⟩, fun z => absurd (by decide) z⟩, fun z => absurd (by decide) z⟩, fun z => absurd (by decide) z⟩, fun z => absurd (by decide) z⟩, fun z => absurd (by decide) z⟩
      · exact ⟨fun _ => ⟨fun _ => ⟨fun _ => ⟨fun _ => ⟨fun _ => ⟨fun z => absurd z (by decide), fun _ => ⟨fun z => absurd z (by decide), fun _ => ⟨fun z => absurd z (by decide), fun _ => ⟨fun z => absurd z (by decide), fun _ => finJ (w_op28 hL e10) (fun T s hs => m_157 hQ H hfm hl hd (by decide) e10 (fun z => absurd z (by decide)) (fun z => absurd z (by decide)) (fun _ => hs))⟩⟩⟩⟩, fun z => absurd (by decide) z⟩, fun z => absurd (by decide) z⟩, fun z => absurd (by decide) z⟩, fun z => absurd (by decide) z⟩, fun z => absurd (by decide) z⟩
      · exact ⟨fun _ => ⟨fun _ => ⟨fun _ => ⟨fun _ => ⟨fun _ => ⟨fun z => absurd z (by decide), fun _ => ⟨fun z => absurd z (by decide), fun _ => ⟨fun z => absurd z (by decide), fun _ => ⟨fun _ => fin (w_op29 hL e10) (fun T s hs => m_157 hQ H hfm hl hd (by decide) e10 (fun z => absurd z (by decide)) (fun z => absurd z (by decide)) (fun _ => hs)), fun z => absurd (by decide) z⟩⟩⟩⟩, fun z => absurd (by decide) z⟩, fun z => absurd (by decide) z⟩, fun z => absurd (by decide) z⟩, fun z => absurd (by decide) z⟩, fun z => absurd (by decide) z⟩
      · exact ⟨fun _ => ⟨fun _ => ⟨fun _ => ⟨fun _ => ⟨fun _ => ⟨fun z => absurd z (by decide), fun _ => ⟨fun z => absurd z (by decide), fun _ => ⟨fun z => absurd z (by decide), fun _ => ⟨fun _ => fin (w_op30 hL e10) (fun T s hs => m_157 hQ H hfm hl hd (by decide) e10 (fun z => absurd z (by decide)) (fun z => absurd z (by decide)) (fun _ => hs)), fun z => absurd (by decide) z⟩⟩⟩⟩, fun z => absurd (by decide) z⟩, fun z => absurd (by decide) z⟩, fun z => absurd (by decide) z⟩, fun z => absurd (by decide) z⟩, fun z => absurd (by decide) z⟩
      · exact ⟨fun _ => ⟨fun _ => ⟨fun _ => ⟨fun _ => ⟨fun _ => ⟨fun z => absurd z (by decide), fun _ => ⟨fun z => absurd z (by decide), fun _ => ⟨fun z => absurd z (by decide), fun _ => ⟨fun _ => fin (w_op31 hL e10) (fun T s hs => m_157 hQ H hfm hl hd (by decide) e10 (fun z => absurd z (by decide)) (fun z => absurd z (by decide)) (fun _ => hs)), fun z => absurd (by decide) z⟩⟩⟩⟩, fun z => absurd (by decide) z⟩, fun z => absurd (by decide) z⟩, fun z => absurd (by decide) z⟩, fun z => absurd (by decide) z⟩, fun z => absurd (by decide) z⟩
    · have : dn = 500 := by omega
      subst this
      refine ⟨fun z => absurd z (by decide), fun _ => ⟨-(nI 4), rfl, rfl, Or.inr (Or.inl ⟨rfl, fu G 55 46 1, fun T => ?_, rFr_5 a1 rfl, by show ¬ (1 : Int32) = 0; decide, ?_⟩)⟩⟩
      · refine pv_157 _ _ ?_
        rw [Ms_r (a := 55) (by decide), s1', qz_m1, nI_clamp (show e < 2 ^ 31 by omega), Ms_r (a := 89) (by decide), m2', nI_clamp (show m < 2 ^ 31 by omega), Ms_r (a := 90) (by decide), l1', Ms_r (a := 63) (by decide), g63, c1']
        refine ⟨ve, ve, vm, fun _ => ⟨fun _ => ?_, fun z => absurd rfl z⟩, fun z => absurd (nI_lt hl (by omega)) z⟩
        rintro σ3 rfl
        exact ⟨rfl, Ms_u (by decide)⟩
      · rw [s1]
        exact fun z => absurd ((nI_leI (by omega) (by decide)).mp (show nI (e + 1) ≤ nI 0 from z)) (by omega)
  · have hl : (B 9 m).toNatClampNeg ≤ l := Nat.not_lt.mp fun q => hl (nI_lt q (by omega))
    have hl' : (B 9 m).toNatClampNeg ≤ l' := by
      rcases l3 with q | q
      · omega
      · exact q.2
    have en : ∀ v, (B 8 m = nI 2 → iv_rv nx v) → (B 8 m = 0 → v = 0) → (∀ T s, pz_WP 151 (0, pz_en 5 [.ref 55, .int v], []) (Ms T G) (pz_is none s) → pz_WP 157 (0, pz_en 4 [.ref 55], []) (Ms T G) (pz_is none s)) → ∃ Q : pz_Ps, pz_WP 37 (0, pz_en 4 [.ref 39, .int v], []) σ Q ∧ ∀ σ5, Q none σ5 → ∃ r', (some (.int 0) : Option Value) = some (.int r') ∧ σ5.2 = σ.2 ∧ rN B nt ns nm m0 t1 t0 pb wv e nx dn fl pr G r' σ5.1 := fun v h2 h0 hW => by
      refine ⟨_, w_leave hQ H m2 m1 h2 h0, ?_⟩
      rintro σ5 ⟨-, G', hG, R, q2, q3⟩
      exact ⟨0, rfl, q2, Or.inl ⟨rfl, G', e, nx, dn, pr, fun T => hW T _ (hG T), R, hpr, by omega, q3⟩⟩
    refine ⟨vm, fun z => en (-1) (fun _ => Or.inl rfl) (fun k => absurd (k.symm.trans z) (by decide)) (fun T s hs => ?_), fun z => en 0 (fun k => absurd k z) (fun _ => rfl) (fun T s hs => ?_)⟩
    · refine pv_157 _ _ ?_
      rw [Ms_r (a := 55) (by decide), s1', qz_m1, nI_clamp (show e < 2 ^ 31 by omega), Ms_r (a := 89) (by decide), m2', nI_clamp (show m < 2 ^ 31 by omega), Ms_r (a := 90) (by decide), l1', Ms_r (a := 63) (by decide), g63, Ms_r (a := 62) (by decide), g62]
      exact ⟨ve, ve, vm, fun y => absurd ((nI_ltI (by omega) (by omega)).mp y) (by omega), fun _ => ⟨vm, fun _ => pz_kn hs, fun y => absurd z y⟩⟩
    · refine pv_157 _ _ ?_
      rw [Ms_r (a := 55) (by decide), s1', qz_m1, nI_clamp (show e < 2 ^ 31 by omega), Ms_r (a := 89) (by decide), m2', nI_clamp (show m < 2 ^ 31 by omega), Ms_r (a := 90) (by decide), l1', Ms_r (a := 63) (by decide), g63, Ms_r (a := 62) (by decide), g62]
      exact ⟨ve, ve, vm, fun y => absurd ((nI_ltI (by omega) (by omega)).mp y) (by omega), fun _ => ⟨vm, fun y => absurd y z, fun _ => pz_kn hs⟩⟩
/-! ===== all steps ===== -/
theorem w_loop (hQ : rQ B nt nf ns nm m0 t1) (hpb : pb + 500 < 1000000) {v1 : Int32} {W : pz_Sg → pz_Ps → Prop} {Gs : iv_F} {x2 : Nat → Nat → Int64} {Post : pz_Ps}
    (hEnd : ∀ (σ' : pz_Sg) (G' : iv_F) nx' dn' fl' pr', RR B nt ns nm m0 t1 t0 pb wv 0 nx' dn' fl' pr' σ'.1 G' → rFn B m0 nx' σ'.1 → pr' ≤ pb + dn' → σ'.2 = x2 → (∀ T P, P (some (.int 1)) (Ms T G') → W (Ms T Gs) P) → pz_WP 34 (180, [some (.ref 39), some (.int v1), none, none, none, none, none, none], []) σ' Post)
    (hFull : ∀ (σ' : pz_Sg) (G' : iv_F), rFr B σ'.1 G' → ¬ σ'.1 39 8 ≤ 0 → σ'.2 = x2 → (∀ T P, P (some (.int 0)) (Ms T G') → W (Ms T Gs) P) → pz_WP 34 (180, [some (.ref 39), some (.int v1), none, none, none, none, none, none], []) σ' Post) :
    ∀ N k d nx dn fl pr (σ : pz_Sg) (G : iv_F), k + N = 1002 → σ.2 = x2 → RR B nt ns nm m0 t1 t0 pb wv d nx dn fl pr σ.1 G → k + d ≤ 2 * dn + 1 → pr ≤ pb + dn → (d = 0 → rFn B m0 nx σ.1) → (∀ T P, pz_WP 166 (183, [some (.ref 55), none, none, some (.int 1), none], []) (Ms T G) P → W (Ms T Gs) P) → pz_WP 34 (133, [some (.ref 39), some (.int v1), none, none, none, none, some (.int 0), some (.int (nI k))], []) σ Post := by
  intro N
  induction N with
  | zero =>
    intro k d nx dn fl pr σ G hN h2 R hk
    have := R.2.2.2.2.1.1.2.2
    omega
  | succ N ih =>
    intro k d nx dn fl pr σ G hN h2 R hk hpr hfn hW
    obtain ⟨a1, -, -, ⟨⟨s1, s1', s1''⟩, -⟩, -, -, -, -, -, a46, -⟩ := id R
    have fullC : ∀ (σ' : pz_Sg) (j : Nat), pz_WP 34 (180, [some (.ref 39), some (.int v1), none, none, none, none, none, none], []) σ' Post → pz_WP 34 (133, [some (.ref 39), some (.int v1), none, none, none, none, some (.int (-(nI 4))), some (.int (nI j))], []) σ' Post := fun σ' j h => pv_34_133 _ _ _ σ' _ ⟨fun _ => h, fun _ => ⟨fun _ => h, fun _ => ⟨fun _ => h, fun z => absurd rfl z⟩⟩⟩
    have fullG : ∀ (T : pz_Sg) (G' : iv_F) (P : pz_Ps), ¬ G' 55 46 = 0 → P (some (.int 0)) (Ms T G') → pz_WP 166 (183, [some (.ref 55), none, none, some (.int 1), none], []) (Ms T G') P := fun T G' P h46 hP => pv_166_183 _ _ _ ⟨fun z => absurd z (by decide), fun _ => ⟨fun _ => ⟨fun z => absurd z h46, fun _ => hP⟩, fun _ => ⟨fun z => absurd z h46, fun _ => ⟨fun z => absurd z h46, fun _ => hP⟩⟩⟩⟩
    refine pv_34_133 _ _ _ σ _ ⟨fun z => absurd ((nI_leI (by decide) (by omega)).mp z) (by omega), fun _ => ?_⟩
    cases d with
    | zero =>
      refine ⟨fun _ => hEnd σ G nx dn fl pr R (hfn rfl) hpr h2 (fun T P hP => hW T P (pv_166_183 _ _ _ ⟨fun z => absurd z (by decide), fun _ => ⟨fun _ => ⟨fun _ => hP, fun z => absurd a46 z⟩, fun z => absurd (show (Ms T G).1 55 41 ≤ 0 by rw [Ms_r (by decide), s1']; decide) z⟩⟩)), fun z => absurd (by rw [s1]; decide) z⟩
    | succ e =>
      have n0 : ¬ nI (e + 1) ≤ 0 := fun z => absurd ((nI_leI (by omega) (by decide)).mp (show nI (e + 1) ≤ nI 0 from z)) (by omega)
      have stepG : ∀ T P, (∃ Q : pz_Ps, pz_WP 157 (0, pz_en 4 [.ref 55], []) (Ms T G) Q ∧ ∀ σ1, Q none σ1 → pz_WP 166 (183, [some (.ref 55), none, none, some (.int 1), none], []) σ1 P) → W (Ms T Gs) P := fun T P h => hW T P (pv_166_183 _ _ _ ⟨fun z => absurd z (by decide), fun _ => ⟨fun z => absurd (by rw [Ms_r (by decide), s1'] at z; exact z) n0, fun _ => ⟨fun _ => h, fun z => absurd a46 z⟩⟩⟩)
      refine ⟨fun z => absurd (by rw [s1] at z; exact z) n0, fun _ => ⟨fun z => absurd z (by decide), fun _ => ⟨_, w_next hQ R hpr hpb, ?_⟩⟩⟩
      rintro r σ1 ⟨r', er, q2, hN'⟩
      cases er
      rw [nI_1]
      rcases hN' with ⟨rfl, G', d', nx', dn', pr', hG, hR, hp, hdd, hfn'⟩ | ⟨rfl, G', hG, hr, h46, h39⟩ | ⟨f, hf, rfl, G1, hG, hR, hp, m, l, hfm, hll⟩
      · refine ⟨fun _ => ih (k + 1) d' nx' dn' fl pr' σ1 G' (by omega) (q2.trans h2) hR (by omega) hp hfn' (fun T P hP => stepG T P (pz_kv (hG T) hP)), fun z => absurd (by decide) z⟩
      · refine ⟨fun _ => fullC _ _ (hFull σ1 G' hr h39 (q2.trans h2) (fun T P hP => stepG T P (pz_kv (hG T) (fullG T G' P h46 hP)))), fun z => absurd (by decide) z⟩
      · refine ⟨fun z => absurd ((nI_leI (by omega) (by decide)).mp (show nI f ≤ nI 0 from z)) (by omega), fun _ => ⟨_, pv_38 _ σ1 _ (w_throw (pb := pb) (t0 := t0) (wv := wv) (nx := nx) (dn := dn + 1) (pr := pr) hQ hf (e + 1) 0 fl σ1 G1 (by omega) hR (fun _ => ⟨m, l, hfm, hll⟩) (hR.2.2.2.2.2.2.2.1.2.2.1 (by omega)).2), ?_⟩⟩
        rintro r2 σ2 ⟨q3, r', er, G', hG', hE⟩
        cases er
        rcases hE with ⟨rfl, d', fl', hd', hR', hfn'⟩ | ⟨rfl, hr, h46, h39⟩
        · exact ih (k + 1) d' nx (dn + 1) fl' pr σ2 G' (by omega) (q3.trans (q2.trans h2)) hR' (by omega) hp hfn' (fun T P hP => stepG T P (pz_kv (hG T _ (hG' T)) hP))
        · exact fullC _ _ (hFull σ2 G' hr h39 (q3.trans (q2.trans h2)) (fun T P hP => stepG T P (pz_kv (hG T _ (hG' T)) (fullG T G' P h46 hP))))
end
