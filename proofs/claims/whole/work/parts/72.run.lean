/-! ===== what a RUN notes ===== -/
theorem or_sw {a b c : Int32} : (a ||| b) ||| c = (a ||| c) ||| b := b_ext fun i _ => by
  rw [b_or, b_or, b_or, b_or, Bool.or_assoc, Bool.or_assoc, Bool.or_comm (bt b i)]
theorem or_as {a b c : Int32} : (a ||| b) ||| c = a ||| (b ||| c) := b_ext fun i _ => by
  rw [b_or, b_or, b_or, b_or, Bool.or_assoc]
theorem w_fore33 {B : iv_F} {m0 t1 q : Nat} {σ : pz_Sg} (hm : m0 < 10) (h41 : σ.1 41 0 = nI m0) (h7 : σ.1 7 m0 = nI q) (e7 : B 7 m0 = nI q) (hq : q ≤ 3) (hc : σ.1 33 = B 33) (h45 : ∀ k, k < q → σ.1 45 k = B 54 (t1 + k)) (th : Int32) : pz_WP 54 (0, pz_en 7 [.ref 39, .int th, .int 0], []) σ (fun v σ' => σ' = σ ∧ ∃ r, v = some (.int r) ∧ ∀ p, bB r p ↔ bB (B 33 (4 * m0 + 3)) p ∨ (¬ th = -1 ∧ ∃ k, k < (B 7 m0).toNatClampNeg ∧ B 54 (t1 + k) = th ∧ bB (B 33 (4 * m0 + k)) p)) := by
  have vm : vp_in (nI m0) 10 := vp_in_nI hm (by decide)
  have cm : (nI m0).toNatClampNeg = m0 := nI_clamp (by omega)
  have eq : (B 7 m0).toNatClampNeg = q := by rw [e7]; exact nI_clamp (by omega)
  have go : ∀ dd k r, k + dd = q → (∀ p, bB r p ↔ bB (B 33 (4 * m0 + 3)) p ∨ (¬ th = -1 ∧ ∃ j, j < k ∧ B 54 (t1 + j) = th ∧ bB (B 33 (4 * m0 + j)) p)) → pz_WP 54 (43, [some (.ref 39), some (.int th), none, some (.int (nI m0)), some (.ref 33), some (.int r), some (.int (nI k))], []) σ (fun v σ' => σ' = σ ∧ ∃ r, v = some (.int r) ∧ ∀ p, bB r p ↔ bB (B 33 (4 * m0 + 3)) p ∨ (¬ th = -1 ∧ ∃ k, k < (B 7 m0).toNatClampNeg ∧ B 54 (t1 + k) = th ∧ bB (B 33 (4 * m0 + k)) p)) := by
    intro dd
    induction dd with
    | zero =>
      intro k r hk hr
      have hk : k = q := by omega
      subst hk
      refine pv_54_43 _ _ _ _ σ _ ?_
      rw [cm, h7]
      refine ⟨vm, fun _ => ⟨rfl, r, rfl, fun p => ?_⟩, fun z => absurd (Int32.le_refl _) z⟩
      rw [eq]
      exact hr p
    | succ dd ih =>
      intro k r hk hr
      obtain ⟨i4, c4, v4⟩ := ix4 (m := m0) (k := k) hm (by omega)
      refine pv_54_43 _ _ _ _ σ _ ?_
      rw [cm, h7, nI_clamp (show k < 2 ^ 31 by omega), h45 k (by omega), i4, c4, hc, nI_1]
      have skip : ¬ (¬ th = -1 ∧ B 54 (t1 + k) = th) → ∀ p, bB r p ↔ bB (B 33 (4 * m0 + 3)) p ∨ (¬ th = -1 ∧ ∃ j, j < k + 1 ∧ B 54 (t1 + j) = th ∧ bB (B 33 (4 * m0 + j)) p) := fun hs p => by
        rw [hr]
        refine or_congr Iff.rfl (and_congr_right fun ht => ⟨fun ⟨j, h1, h2⟩ => ⟨j, by omega, h2⟩, fun ⟨j, h1, h2, h3⟩ => ⟨j, ?_, h2, h3⟩⟩)
        have : ¬ j = k := fun e => hs ⟨ht, by rw [← e]; exact h2⟩
        omega
      refine ⟨vm, fun z => absurd z (nI_ge (by omega) (by omega)), fun _ => ⟨fun z => ih (k + 1) r (by omega) (skip (fun y => y.1 z)), fun z => ⟨vp_in_nI (by omega) (by decide), fun y => ⟨v4, ih (k + 1) _ (by omega) (fun p => ?_)⟩, fun y => ih (k + 1) r (by omega) (skip (fun u => y u.2))⟩⟩⟩
      rw [bB_o, hr]
      constructor
      · rintro ((h | ⟨h1, j, h2, h3⟩) | h)
        · exact Or.inl h
        · exact Or.inr ⟨h1, j, by omega, h3⟩
        · exact Or.inr ⟨z, k, by omega, y, h⟩
      · rintro (h | ⟨h1, j, h2, h3, h4⟩)
        · exact Or.inl (Or.inl h)
        · by_cases e : j = k
          · subst e
            exact Or.inr h4
          · exact Or.inl (Or.inr ⟨h1, j, by omega, h3, h4⟩)
  obtain ⟨i4, c4, v4⟩ := ix4 (m := m0) (k := 3) hm (by decide)
  refine pv_54 _ _ σ _ ?_
  rw [show (0 : Int32).toNatClampNeg = 0 from rfl, h41]
  refine ⟨(show vp_in (nI 0) 12 from vp_in_nI (by decide) (by decide)), fun _ => ?_, fun z => absurd rfl z⟩
  refine pv_54_28 _ _ σ _ ?_
  rw [i4, c4, hc]
  exact ⟨v4, go q 0 _ (by omega) (fun p => ⟨fun h => Or.inl h, fun h => h.elim id (fun ⟨_, j, h1, _⟩ => absurd h1 (Nat.not_lt_zero _))⟩)⟩
def ntG33 (t0 : Nat) (G : iv_F) (x : Nat) (bit : Int32) : iv_F := if x < t0 then fu (fu G 55 54 (G 55 54 ||| bit)) 93 x (G 93 x ||| bit) else G
theorem w_nt33 {T : pz_Sg} {G : iv_F} {t0 x : Nat} (h : G 55 49 = nI t0) (bt : t0 ≤ 60) (hx : x < 60) (bit : Int32) : pz_WP 154 (0, pz_en 3 [.ref 55, .int (nI x), .int bit], []) (Ms T G) (pz_is none (Ms T (ntG33 t0 G x bit))) := by
  have vx : vp_in (nI x) 60 := vp_in_nI hx (by decide)
  refine pv_154 _ _ _ _ ?_
  rw [Ms_r (by decide), h]
  refine ⟨fun z => ?_, fun z => ?_⟩
  · have : ¬ x < t0 := Nat.not_lt.mpr ((nI_leI (by omega) (by omega)).mp z)
    exact ⟨rfl, by unfold ntG33; rw [if_neg this]⟩
  · have : x < t0 := Nat.not_le.mp fun y => z (nI_le y (by omega))
    rintro σ1 rfl
    refine ⟨vx, vx, ?_⟩
    rintro σ2 rfl
    rw [nI_clamp (by omega), Ms_u (by decide), Ms_r (by decide), Ms_u (by decide)]
    refine ⟨rfl, ?_⟩
    unfold ntG33
    rw [if_pos this]
    rfl
/-- how the flag of surprise and what is foreseen go together, once more is known -/
theorem rSu_n33 {B : iv_F} {nt nf ns nm m0 t1 t0 pb : Nat} {wv : Int32} {d nx dn fl pr : Nat} {F G F' G' : iv_F} (H : rSu B m0 t1 t0 wv F G) (h11 : F' 39 11 = F 39 11) (h41 : F' 41 0 = F 41 0) (h45 : F' 45 = F 45) {bad : Prop} (hb : rBd B m0 t1 t0 G' ↔ rBd B m0 t1 t0 G ∨ bad) (h7 : (F 39 11 = 0 ∨ ¬ bad → F' 40 7 = F 40 7) ∧ (¬ F 39 11 = 0 → bad → F' 40 7 = 1)) : rSu B m0 t1 t0 wv F' G' := by
  obtain ⟨s1, s2, s3, s4, s5, s6⟩ := H
  refine ⟨h11.trans s1, s2, h41.trans s3, fun k hk => by rw [h45]; exact s4 k hk, fun z => ?_, fun z => ?_⟩
  · rw [h7.1 (Or.inl (s1.trans z))]
    exact s5 z
  · obtain ⟨u1, u2⟩ := s6 z
    by_cases hbad : bad
    · have e : F' 40 7 = 1 := h7.2 (by rw [s1, z]; decide) hbad
      exact ⟨Or.inr e, ⟨fun _ => hb.mpr (Or.inr hbad), fun _ => e⟩⟩
    · rw [h7.1 (Or.inr hbad)]
      refine ⟨u1, u2.trans ⟨fun y => hb.mpr (Or.inl y), fun y => (hb.mp y).elim id (fun y => absurd y hbad)⟩⟩
/-- the class's note of a THING -/
theorem n_th33 {B : iv_F} {nt nf ns nm m0 t1 t0 pb : Nat} {wv : Int32} {d nx dn fl pr : Nat} (hQ : rQ B nt nf ns nm m0 t1) {σ : pz_Sg} {G : iv_F} (H : RR B nt ns nm m0 t1 t0 pb wv d nx dn fl pr σ.1 G) {x p : Nat} (hx : x < nx) (hp : p < 32) : ∃ F', pz_WP 53 (0, pz_en 5 [.ref 39, .int (nI x), .int (nI p), .int 0], []) σ (pz_is none (F', σ.2)) ∧ RR B nt ns nm m0 t1 t0 pb wv d nx dn fl pr F' (ntG33 t0 G x ((1 : Int32) <<< (nI p &&& 31))) ∧ ∀ a, a ≠ 40 → F' a = σ.1 a := by
  obtain ⟨a1, a2, a3, a4, a5, ⟨⟨u1, u2, u3⟩, u4⟩, a7, a8, a9, a10⟩ := id H
  have nb : nx ≤ 60 := a2.1.2.2
  by_cases ht : x < t0
  · have eN : ntG33 t0 G x ((1 : Int32) <<< (nI p &&& 31)) = fu (fu G 55 54 (G 55 54 ||| ((1 : Int32) <<< (nI p &&& 31)))) 93 x (G 93 x ||| ((1 : Int32) <<< (nI p &&& 31))) := if_pos ht
    rw [eN]
    have bm := hQ.1.1.2.2.2
    obtain ⟨q, hq, e7⟩ := fP_q hQ.1 m0 hQ.2.2.2.2.2.1
    have eq : (B 7 m0).toNatClampNeg = q := by rw [e7]; exact nI_clamp (by omega)
    have bd : rBd B m0 t1 t0 (fu (fu G 55 54 (G 55 54 ||| ((1 : Int32) <<< (nI p &&& 31)))) 93 x (G 93 x ||| ((1 : Int32) <<< (nI p &&& 31)))) ↔ rBd B m0 t1 t0 G ∨ ¬ rOk B m0 t1 33 x p := by
      have eo : fu (fu G 55 54 (G 55 54 ||| ((1 : Int32) <<< (nI p &&& 31)))) 93 x (G 93 x ||| ((1 : Int32) <<< (nI p &&& 31))) 94 = G 94 := by rw [fu_o (by decide), fu_o (by decide)]
      have en : ∀ y i, bB (fu (fu G 55 54 (G 55 54 ||| ((1 : Int32) <<< (nI p &&& 31)))) 93 x (G 93 x ||| ((1 : Int32) <<< (nI p &&& 31))) 93 y) i ↔ bB (G 93 y) i ∨ (y = x ∧ i = p) := fun y i => by
        rw [fu_w, fu_o (by decide)]
        by_cases ey : y = x
        · subst ey
          rw [if_pos rfl, bB_o, bB_sh hp]
          exact or_congr Iff.rfl ⟨fun h => ⟨rfl, h⟩, fun h => h.2⟩
        · rw [if_neg ey]
          exact ⟨fun h => Or.inl h, fun h => h.elim id (fun h => absurd h.1 ey)⟩
      unfold rBd
      rw [eo]
      constructor
      · rintro (h | h | ⟨y, i, h1, h2⟩)
        · exact Or.inl (Or.inl h)
        · exact Or.inl (Or.inr (Or.inl h))
        · rcases h2 with h2 | h2
          · rcases (en y i).mp h2.1 with h3 | ⟨h3, h4⟩
            · exact Or.inl (Or.inr (Or.inr ⟨y, i, h1, Or.inl ⟨h3, h2.2⟩⟩))
            · subst h3
              subst h4
              exact Or.inr h2.2
          · exact Or.inl (Or.inr (Or.inr ⟨y, i, h1, Or.inr h2⟩))
      · rintro ((h | h | ⟨y, i, h1, h2⟩) | h)
        · exact Or.inl h
        · exact Or.inr (Or.inl h)
        · exact Or.inr (Or.inr ⟨y, i, h1, h2.imp (fun h => ⟨(en y i).mpr (Or.inl h.1), h.2⟩) id⟩)
        · exact Or.inr (Or.inr ⟨x, p, ht, Or.inl ⟨(en x p).mpr (Or.inr ⟨rfl, rfl⟩), h⟩⟩)
    -- what stands behind, but for the flag of surprise
    have mk : ∀ F', (∀ a, a ≠ 40 → F' a = σ.1 a) → (∀ j, j ≠ 0 → j ≠ 7 → F' 40 j = σ.1 40 j) → F' 40 0 = σ.1 40 0 ||| ((1 : Int32) <<< (nI p &&& 31)) → ((σ.1 39 11 = 0 ∨ ¬ ¬ rOk B m0 t1 33 x p → F' 40 7 = σ.1 40 7) ∧ (¬ σ.1 39 11 = 0 → ¬ rOk B m0 t1 33 x p → F' 40 7 = 1)) → RR B nt ns nm m0 t1 t0 pb wv d nx dn fl pr F' (fu (fu G 55 54 (G 55 54 ||| ((1 : Int32) <<< (nI p &&& 31)))) 93 x (G 93 x ||| ((1 : Int32) <<< (nI p &&& 31)))) := by
      intro F' o1 o2 o3 o7
      have fr : rFr B F' G := ⟨fun a h1 h2 => by rw [o1 a (fun e => by rw [e] at h2; cases h2)]; exact a1.1 a h1 h2, a1.2⟩
      refine ⟨rFr_g (rFr_5 fr rfl) rfl (by decide), rWd_c (F := σ.1) (G := G) (fun a h _ => o1 a (fun e => by rw [e] at h; cases h)) (fun a h _ => by rw [fu_o (fun e => by rw [e] at h; cases h), fu_o (fun e => by rw [e] at h; cases h)]) (by rw [o1 16 (by decide)]) rfl a2, ?_, rSt_c (F := σ.1) (G := G) (by rw [o1 39 (by decide)]) (o1 41 (by decide)) (o1 42 (by decide)) (o1 43 (by decide)) (o1 44 (by decide)) rfl rfl rfl rfl rfl a4, ?_, ⟨⟨by rw [o1 39 (by decide)]; exact u1, u2, u3⟩, ?_⟩, ?_, ?_, rSu_n33 (nt := nt) (nf := nf) (ns := ns) (nm := nm) (pb := pb) (d := d) (nx := nx) (dn := dn) (fl := fl) (pr := pr) a9 (by rw [o1 39 (by decide)]) (by rw [o1 41 (by decide)]) (o1 45 (by decide)) bd o7, a10.1, fun y hy => (congrFun (o1 17 (by decide)) y).trans (a10.2 y hy)⟩
      · unfold rPr at *
        rw [o1 16 (by decide), o1 20 (by decide)]
        exact a3
      · unfold rCt at *
        rw [o2 3 (by decide) (by decide), o1 39 (by decide)]
        exact a5
      · rw [o2 2 (by decide) (by decide)]
        exact u4
      · obtain ⟨r1, r2⟩ := a7
        refine ⟨?_, by rw [o2 1 (by decide) (by decide)]; exact r2⟩
        rw [o3]
        show _ = (G 55 54 ||| _) ||| G 55 58
        rw [r1, or_sw]
      · unfold rEn at *
        rw [o2 6 (by decide) (by decide), o2 5 (by decide) (by decide)]
        exact a8
    have lt : nI x < σ.1 39 10 := by rw [u1]; exact (nI_ltI (by omega) (by omega)).mpr ht
    by_cases hw : σ.1 39 11 = 0
    · refine ⟨fu σ.1 40 0 (σ.1 40 0 ||| ((1 : Int32) <<< (nI p &&& 31))), pv_53 _ _ _ σ _ ⟨fun _ => ⟨fun _ => ?_, fun z => absurd rfl z⟩, fun z => absurd lt z⟩, mk _ (fun a h => fu_o h) (fun j h1 h2 => fu_j h1) fu_s ⟨fun _ => fu_j (by decide), fun z => absurd hw z⟩, fun a h => fu_o h⟩
      rintro σ1 rfl
      exact pv_53_49 _ _ _ _ _ ⟨fun _ => ⟨rfl, rfl⟩, fun z => absurd hw z⟩
    · have go : ∀ F', (rOk B m0 t1 33 x p → F' = fu σ.1 40 0 (σ.1 40 0 ||| ((1 : Int32) <<< (nI p &&& 31)))) → (¬ rOk B m0 t1 33 x p → F' = fu (fu σ.1 40 0 (σ.1 40 0 ||| ((1 : Int32) <<< (nI p &&& 31)))) 40 7 1) → pz_WP 53 (0, pz_en 5 [.ref 39, .int (nI x), .int (nI p), .int 0], []) σ (pz_is none (F', σ.2)) := by
        intro F' k1 k2
        refine pv_53 _ _ _ σ _ ⟨fun _ => ⟨fun _ => ?_, fun z => absurd rfl z⟩, fun z => absurd lt z⟩
        rintro σ1 rfl
        refine pv_53_49 _ _ _ _ _ ⟨fun z => absurd z hw, fun _ => ⟨_, w_fore33 (σ := pz_up σ 40 0 (σ.1 40 0 ||| ((1 : Int32) <<< (nI p &&& 31)))) (B := B) (m0 := m0) (t1 := t1) (q := q) (by have := hQ.2.2.2.2.2.1; omega) a9.2.2.1 (by show σ.1 7 m0 = nI q; rw [rKn a1 7 (by decide) rfl]; exact e7) e7 hq (rKn a1 33 (by decide) rfl) (fun k hk => a9.2.2.2.1 k (by rw [eq]; exact hk)) (nI x), ?_⟩⟩
        rintro r1 σ2 ⟨rfl, r, h1, h2⟩
        cases h1
        have ok : bB r1 p ↔ rOk B m0 t1 33 x p := by
          rw [h2]
          unfold rOk
          exact or_congr Iff.rfl ⟨fun h => h.2, fun h => ⟨nI_ne1 (by omega), h⟩⟩
        refine ⟨fun z => ?_, fun z => ?_⟩
        · have nk : ¬ rOk B m0 t1 33 x p := fun y => by
            have := (b_an1 hp).mp z
            rw [show bt r1 p = true from ok.mpr y] at this
            cases this
          rintro σ3 rfl
          exact ⟨rfl, by rw [k2 nk]; rfl⟩
        · have yk : rOk B m0 t1 33 x p := ok.mp (by
            show bt r1 p = true
            cases y : bt r1 p
            · exact absurd ((b_an1 hp).mpr y) z
            · rfl)
          exact ⟨rfl, by rw [k1 yk]; rfl⟩
      by_cases hk : rOk B m0 t1 33 x p
      · exact ⟨_, go _ (fun _ => rfl) (fun z => absurd hk z), mk _ (fun a h => fu_o h) (fun j h1 h2 => fu_j h1) fu_s ⟨fun _ => fu_j (by decide), fun _ z => absurd hk z⟩, fun a h => fu_o h⟩
      · exact ⟨_, go _ (fun z => absurd z hk) (fun _ => rfl), mk _ (fun a h => by rw [fu_o h, fu_o h]) (fun j h1 h2 => by rw [fu_j h2, fu_j h1]) (by rw [fu_j (by decide), fu_s]) ⟨fun z => z.elim (fun z => absurd z hw) (fun z => absurd hk z), fun _ _ => fu_s⟩, fun a h => by rw [fu_o h, fu_o h]⟩
  · refine ⟨σ.1, pv_53 _ _ _ σ _ ⟨fun z => absurd ?_ ht, fun _ => ⟨rfl, rfl⟩⟩, ?_, fun _ _ => rfl⟩
    · rw [u1] at z
      exact (nI_ltI (by omega) (by omega)).mp z
    · rw [show ntG33 t0 G x ((1 : Int32) <<< (nI p &&& 31)) = G from if_neg ht]
      exact H
/-- the class's note of a STATIC -/
theorem n_st33 {B : iv_F} {nt nf ns nm m0 t1 t0 pb : Nat} {wv : Int32} {d nx dn fl pr : Nat} (hQ : rQ B nt nf ns nm m0 t1) {σ : pz_Sg} {G : iv_F} (H : RR B nt ns nm m0 t1 t0 pb wv d nx dn fl pr σ.1 G) {p : Nat} (hp : p < 32) : ∃ F', pz_WP 53 (0, pz_en 5 [.ref 39, .int (-1), .int (nI p), .int 0], []) σ (pz_is none (F', σ.2)) ∧ RR B nt ns nm m0 t1 t0 pb wv d nx dn fl pr F' (fu G 55 58 (G 55 58 ||| ((1 : Int32) <<< (nI p &&& 31)))) ∧ ∀ a, a ≠ 40 → F' a = σ.1 a := by
  obtain ⟨a1, a2, a3, a4, a5, ⟨⟨u1, u2, u3⟩, u4⟩, a7, a8, a9, a10⟩ := id H
  have nb : nx ≤ 60 := a2.1.2.2
  have bm := hQ.1.1.2.2.2
  obtain ⟨q, hq, e7⟩ := fP_q hQ.1 m0 hQ.2.2.2.2.2.1
  have eq : (B 7 m0).toNatClampNeg = q := by rw [e7]; exact nI_clamp (by omega)
  have bd : rBd B m0 t1 t0 (fu G 55 58 (G 55 58 ||| ((1 : Int32) <<< (nI p &&& 31)))) ↔ rBd B m0 t1 t0 G ∨ ¬ bB (B 33 (4 * m0 + 3)) p := by
    have en : ∀ i, bB (fu G 55 58 (G 55 58 ||| ((1 : Int32) <<< (nI p &&& 31))) 55 58) i ↔ bB (G 55 58) i ∨ i = p := fun i => by
      rw [fu_s, bB_o, bB_sh hp]
    have eo : fu G 55 58 (G 55 58 ||| ((1 : Int32) <<< (nI p &&& 31))) 55 59 = G 55 59 := fu_j (by decide)
    unfold rBd
    rw [eo]
    constructor
    · rintro (⟨i, h1, h2⟩ | ⟨i, h1, h2⟩ | h)
      · rcases (en i).mp h1 with h3 | h3
        · exact Or.inl (Or.inl ⟨i, h3, h2⟩)
        · subst h3
          exact Or.inr h2
      · exact Or.inl (Or.inr (Or.inl ⟨i, h1, h2⟩))
      · exact Or.inl (Or.inr (Or.inr h))
    · rintro ((⟨i, h1, h2⟩ | ⟨i, h1, h2⟩ | h) | h)
      · exact Or.inl ⟨i, (en i).mpr (Or.inl h1), h2⟩
      · exact Or.inr (Or.inl ⟨i, h1, h2⟩)
      · exact Or.inr (Or.inr h)
      · exact Or.inl ⟨p, (en p).mpr (Or.inr rfl), h⟩
  have mk : ∀ F', (∀ a, a ≠ 40 → F' a = σ.1 a) → (∀ j, j ≠ 0 → j ≠ 7 → F' 40 j = σ.1 40 j) → F' 40 0 = σ.1 40 0 ||| ((1 : Int32) <<< (nI p &&& 31)) → ((σ.1 39 11 = 0 ∨ ¬ ¬ bB (B 33 (4 * m0 + 3)) p → F' 40 7 = σ.1 40 7) ∧ (¬ σ.1 39 11 = 0 → ¬ bB (B 33 (4 * m0 + 3)) p → F' 40 7 = 1)) → RR B nt ns nm m0 t1 t0 pb wv d nx dn fl pr F' (fu G 55 58 (G 55 58 ||| ((1 : Int32) <<< (nI p &&& 31)))) := by
    intro F' o1 o2 o3 o7
    have fr : rFr B F' G := ⟨fun a h1 h2 => by rw [o1 a (fun e => by rw [e] at h2; cases h2)]; exact a1.1 a h1 h2, a1.2⟩
    refine ⟨rFr_5 fr rfl, rWd_c (F := σ.1) (G := G) (fun a h _ => o1 a (fun e => by rw [e] at h; cases h)) (fun a h _ => by rw [fu_o (fun e => by rw [e] at h; cases h)]) (by rw [o1 16 (by decide)]) rfl a2, ?_, rSt_c (F := σ.1) (G := G) (by rw [o1 39 (by decide)]) (o1 41 (by decide)) (o1 42 (by decide)) (o1 43 (by decide)) (o1 44 (by decide)) rfl rfl rfl rfl rfl a4, ?_, ⟨⟨by rw [o1 39 (by decide)]; exact u1, u2, u3⟩, ?_⟩, ?_, ?_, rSu_n33 (nt := nt) (nf := nf) (ns := ns) (nm := nm) (pb := pb) (d := d) (nx := nx) (dn := dn) (fl := fl) (pr := pr) a9 (by rw [o1 39 (by decide)]) (by rw [o1 41 (by decide)]) (o1 45 (by decide)) bd o7, a10.1, fun y hy => (congrFun (o1 17 (by decide)) y).trans (a10.2 y hy)⟩
    · unfold rPr at *
      rw [o1 16 (by decide), o1 20 (by decide)]
      exact a3
    · unfold rCt at *
      rw [o2 3 (by decide) (by decide), o1 39 (by decide)]
      exact a5
    · rw [o2 2 (by decide) (by decide)]
      exact u4
    · obtain ⟨r1, r2⟩ := a7
      refine ⟨?_, by rw [o2 1 (by decide) (by decide)]; exact r2⟩
      rw [o3]
      show _ = G 55 54 ||| (G 55 58 ||| _)
      rw [r1, or_as]
    · unfold rEn at *
      rw [o2 6 (by decide) (by decide), o2 5 (by decide) (by decide)]
      exact a8
  have lt : (-1 : Int32) < σ.1 39 10 := by
    rw [u1, Int32.lt_iff_toInt_lt, nI_toInt (by omega)]
    have : (-1 : Int32).toInt = -1 := by decide
    omega
  by_cases hw : σ.1 39 11 = 0
  · refine ⟨fu σ.1 40 0 (σ.1 40 0 ||| ((1 : Int32) <<< (nI p &&& 31))), pv_53 _ _ _ σ _ ⟨fun _ => ⟨fun _ => ?_, fun z => absurd rfl z⟩, fun z => absurd lt z⟩, mk _ (fun a h => fu_o h) (fun j h1 h2 => fu_j h1) fu_s ⟨fun _ => fu_j (by decide), fun z => absurd hw z⟩, fun a h => fu_o h⟩
    rintro σ1 rfl
    exact pv_53_49 _ _ _ _ _ ⟨fun _ => ⟨rfl, rfl⟩, fun z => absurd hw z⟩
  · have go : ∀ F', (bB (B 33 (4 * m0 + 3)) p → F' = fu σ.1 40 0 (σ.1 40 0 ||| ((1 : Int32) <<< (nI p &&& 31)))) → (¬ bB (B 33 (4 * m0 + 3)) p → F' = fu (fu σ.1 40 0 (σ.1 40 0 ||| ((1 : Int32) <<< (nI p &&& 31)))) 40 7 1) → pz_WP 53 (0, pz_en 5 [.ref 39, .int (-1), .int (nI p), .int 0], []) σ (pz_is none (F', σ.2)) := by
      intro F' k1 k2
      refine pv_53 _ _ _ σ _ ⟨fun _ => ⟨fun _ => ?_, fun z => absurd rfl z⟩, fun z => absurd lt z⟩
      rintro σ1 rfl
      refine pv_53_49 _ _ _ _ _ ⟨fun z => absurd z hw, fun _ => ⟨_, w_fore33 (σ := pz_up σ 40 0 (σ.1 40 0 ||| ((1 : Int32) <<< (nI p &&& 31)))) (B := B) (m0 := m0) (t1 := t1) (q := q) (by have := hQ.2.2.2.2.2.1; omega) a9.2.2.1 (by show σ.1 7 m0 = nI q; rw [rKn a1 7 (by decide) rfl]; exact e7) e7 hq (rKn a1 33 (by decide) rfl) (fun k hk => a9.2.2.2.1 k (by rw [eq]; exact hk)) (-1), ?_⟩⟩
      rintro r1 σ2 ⟨rfl, r, h1, h2⟩
      cases h1
      have ok : bB r1 p ↔ bB (B 33 (4 * m0 + 3)) p := by
        rw [h2]
        exact ⟨fun h => h.elim id (fun h => absurd rfl h.1), fun h => Or.inl h⟩
      refine ⟨fun z => ?_, fun z => ?_⟩
      · have nk : ¬ bB (B 33 (4 * m0 + 3)) p := fun y => by
          have := (b_an1 hp).mp z
          rw [show bt r1 p = true from ok.mpr y] at this
          cases this
        rintro σ3 rfl
        exact ⟨rfl, by rw [k2 nk]; rfl⟩
      · have yk : bB (B 33 (4 * m0 + 3)) p := ok.mp (by
          show bt r1 p = true
          cases y : bt r1 p
          · exact absurd ((b_an1 hp).mpr y) z
          · rfl)
        exact ⟨rfl, by rw [k1 yk]; rfl⟩
    by_cases hk : bB (B 33 (4 * m0 + 3)) p
    · exact ⟨_, go _ (fun _ => rfl) (fun z => absurd hk z), mk _ (fun a h => fu_o h) (fun j h1 h2 => fu_j h1) fu_s ⟨fun _ => fu_j (by decide), fun _ z => absurd hk z⟩, fun a h => fu_o h⟩
    · exact ⟨_, go _ (fun z => absurd z hk) (fun _ => rfl), mk _ (fun a h => by rw [fu_o h, fu_o h]) (fun j h1 h2 => by rw [fu_j h2, fu_j h1]) (by rw [fu_j (by decide), fu_s]) ⟨fun z => z.elim (fun z => absurd z hw) (fun z => absurd hk z), fun _ _ => fu_s⟩, fun a h => by rw [fu_o h, fu_o h]⟩
theorem w_fore34 {B : iv_F} {m0 t1 q : Nat} {σ : pz_Sg} (hm : m0 < 10) (h41 : σ.1 41 0 = nI m0) (h7 : σ.1 7 m0 = nI q) (e7 : B 7 m0 = nI q) (hq : q ≤ 3) (hc : σ.1 34 = B 34) (h45 : ∀ k, k < q → σ.1 45 k = B 54 (t1 + k)) (th : Int32) : pz_WP 54 (0, pz_en 7 [.ref 39, .int th, .int 1], []) σ (fun v σ' => σ' = σ ∧ ∃ r, v = some (.int r) ∧ ∀ p, bB r p ↔ bB (B 34 (4 * m0 + 3)) p ∨ (¬ th = -1 ∧ ∃ k, k < (B 7 m0).toNatClampNeg ∧ B 54 (t1 + k) = th ∧ bB (B 34 (4 * m0 + k)) p)) := by
  have vm : vp_in (nI m0) 10 := vp_in_nI hm (by decide)
  have cm : (nI m0).toNatClampNeg = m0 := nI_clamp (by omega)
  have eq : (B 7 m0).toNatClampNeg = q := by rw [e7]; exact nI_clamp (by omega)
  have go : ∀ dd k r, k + dd = q → (∀ p, bB r p ↔ bB (B 34 (4 * m0 + 3)) p ∨ (¬ th = -1 ∧ ∃ j, j < k ∧ B 54 (t1 + j) = th ∧ bB (B 34 (4 * m0 + j)) p)) → pz_WP 54 (43, [some (.ref 39), some (.int th), none, some (.int (nI m0)), some (.ref 34), some (.int r), some (.int (nI k))], []) σ (fun v σ' => σ' = σ ∧ ∃ r, v = some (.int r) ∧ ∀ p, bB r p ↔ bB (B 34 (4 * m0 + 3)) p ∨ (¬ th = -1 ∧ ∃ k, k < (B 7 m0).toNatClampNeg ∧ B 54 (t1 + k) = th ∧ bB (B 34 (4 * m0 + k)) p)) := by
    intro dd
    induction dd with
    | zero =>
      intro k r hk hr
      have hk : k = q := by omega
      subst hk
      refine pv_54_43a _ _ _ _ σ _ ?_
      rw [cm, h7]
      refine ⟨vm, fun _ => ⟨rfl, r, rfl, fun p => ?_⟩, fun z => absurd (Int32.le_refl _) z⟩
      rw [eq]
      exact hr p
    | succ dd ih =>
      intro k r hk hr
      obtain ⟨i4, c4, v4⟩ := ix4 (m := m0) (k := k) hm (by omega)
      refine pv_54_43a _ _ _ _ σ _ ?_
      rw [cm, h7, nI_clamp (show k < 2 ^ 31 by omega), h45 k (by omega), i4, c4, hc, nI_1]
      have skip : ¬ (¬ th = -1 ∧ B 54 (t1 + k) = th) → ∀ p, bB r p ↔ bB (B 34 (4 * m0 + 3)) p ∨ (¬ th = -1 ∧ ∃ j, j < k + 1 ∧ B 54 (t1 + j) = th ∧ bB (B 34 (4 * m0 + j)) p) := fun hs p => by
        rw [hr]
        refine or_congr Iff.rfl (and_congr_right fun ht => ⟨fun ⟨j, h1, h2⟩ => ⟨j, by omega, h2⟩, fun ⟨j, h1, h2, h3⟩ => ⟨j, ?_, h2, h3⟩⟩)
        have : ¬ j = k := fun e => hs ⟨ht, by rw [← e]; exact h2⟩
        omega
      refine ⟨vm, fun z => absurd z (nI_ge (by omega) (by omega)), fun _ => ⟨fun z => ih (k + 1) r (by omega) (skip (fun y => y.1 z)), fun z => ⟨vp_in_nI (by omega) (by decide), fun y => ⟨v4, ih (k + 1) _ (by omega) (fun p => ?_)⟩, fun y => ih (k + 1) r (by omega) (skip (fun u => y u.2))⟩⟩⟩
      rw [bB_o, hr]
      constructor
      · rintro ((h | ⟨h1, j, h2, h3⟩) | h)
        · exact Or.inl h
        · exact Or.inr ⟨h1, j, by omega, h3⟩
        · exact Or.inr ⟨z, k, by omega, y, h⟩
      · rintro (h | ⟨h1, j, h2, h3, h4⟩)
        · exact Or.inl (Or.inl h)
        · by_cases e : j = k
          · subst e
            exact Or.inr h4
          · exact Or.inl (Or.inr ⟨h1, j, by omega, h3, h4⟩)
  obtain ⟨i4, c4, v4⟩ := ix4 (m := m0) (k := 3) hm (by decide)
  refine pv_54 _ _ σ _ ?_
  rw [show (0 : Int32).toNatClampNeg = 0 from rfl, h41]
  refine ⟨(show vp_in (nI 0) 12 from vp_in_nI (by decide) (by decide)), fun z => absurd z (by decide), fun _ => ?_⟩
  refine pv_54_28a _ _ σ _ ?_
  rw [i4, c4, hc]
  exact ⟨v4, go q 0 _ (by omega) (fun p => ⟨fun h => Or.inl h, fun h => h.elim id (fun ⟨_, j, h1, _⟩ => absurd h1 (Nat.not_lt_zero _))⟩)⟩
def ntG34 (t0 : Nat) (G : iv_F) (x : Nat) (bit : Int32) : iv_F := if x < t0 then fu (fu G 55 55 (G 55 55 ||| bit)) 94 x (G 94 x ||| bit) else G
theorem w_nt34 {T : pz_Sg} {G : iv_F} {t0 x : Nat} (h : G 55 49 = nI t0) (bt : t0 ≤ 60) (hx : x < 60) (bit : Int32) : pz_WP 155 (0, pz_en 3 [.ref 55, .int (nI x), .int bit], []) (Ms T G) (pz_is none (Ms T (ntG34 t0 G x bit))) := by
  have vx : vp_in (nI x) 60 := vp_in_nI hx (by decide)
  refine pv_155 _ _ _ _ ?_
  rw [Ms_r (by decide), h]
  refine ⟨fun z => ?_, fun z => ?_⟩
  · have : ¬ x < t0 := Nat.not_lt.mpr ((nI_leI (by omega) (by omega)).mp z)
    exact ⟨rfl, by unfold ntG34; rw [if_neg this]⟩
  · have : x < t0 := Nat.not_le.mp fun y => z (nI_le y (by omega))
    rintro σ1 rfl
    refine ⟨vx, vx, ?_⟩
    rintro σ2 rfl
    rw [nI_clamp (by omega), Ms_u (by decide), Ms_r (by decide), Ms_u (by decide)]
    refine ⟨rfl, ?_⟩
    unfold ntG34
    rw [if_pos this]
    rfl
/-- how the flag of surprise and what is foreseen go together, once more is known -/
theorem rSu_n34 {B : iv_F} {nt nf ns nm m0 t1 t0 pb : Nat} {wv : Int32} {d nx dn fl pr : Nat} {F G F' G' : iv_F} (H : rSu B m0 t1 t0 wv F G) (h11 : F' 39 11 = F 39 11) (h41 : F' 41 0 = F 41 0) (h45 : F' 45 = F 45) {bad : Prop} (hb : rBd B m0 t1 t0 G' ↔ rBd B m0 t1 t0 G ∨ bad) (h7 : (F 39 11 = 0 ∨ ¬ bad → F' 40 7 = F 40 7) ∧ (¬ F 39 11 = 0 → bad → F' 40 7 = 1)) : rSu B m0 t1 t0 wv F' G' := by
  obtain ⟨s1, s2, s3, s4, s5, s6⟩ := H
  refine ⟨h11.trans s1, s2, h41.trans s3, fun k hk => by rw [h45]; exact s4 k hk, fun z => ?_, fun z => ?_⟩
  · rw [h7.1 (Or.inl (s1.trans z))]
    exact s5 z
  · obtain ⟨u1, u2⟩ := s6 z
    by_cases hbad : bad
    · have e : F' 40 7 = 1 := h7.2 (by rw [s1, z]; decide) hbad
      exact ⟨Or.inr e, ⟨fun _ => hb.mpr (Or.inr hbad), fun _ => e⟩⟩
    · rw [h7.1 (Or.inr hbad)]
      refine ⟨u1, u2.trans ⟨fun y => hb.mpr (Or.inl y), fun y => (hb.mp y).elim id (fun y => absurd y hbad)⟩⟩
/-- the class's note of a THING -/
theorem n_th34 {B : iv_F} {nt nf ns nm m0 t1 t0 pb : Nat} {wv : Int32} {d nx dn fl pr : Nat} (hQ : rQ B nt nf ns nm m0 t1) {σ : pz_Sg} {G : iv_F} (H : RR B nt ns nm m0 t1 t0 pb wv d nx dn fl pr σ.1 G) {x p : Nat} (hx : x < nx) (hp : p < 32) : ∃ F', pz_WP 53 (0, pz_en 5 [.ref 39, .int (nI x), .int (nI p), .int 1], []) σ (pz_is none (F', σ.2)) ∧ RR B nt ns nm m0 t1 t0 pb wv d nx dn fl pr F' (ntG34 t0 G x ((1 : Int32) <<< (nI p &&& 31))) ∧ ∀ a, a ≠ 40 → F' a = σ.1 a := by
  obtain ⟨a1, a2, a3, a4, a5, ⟨⟨u1, u2, u3⟩, u4⟩, a7, a8, a9, a10⟩ := id H
  have nb : nx ≤ 60 := a2.1.2.2
  by_cases ht : x < t0
  · have eN : ntG34 t0 G x ((1 : Int32) <<< (nI p &&& 31)) = fu (fu G 55 55 (G 55 55 ||| ((1 : Int32) <<< (nI p &&& 31)))) 94 x (G 94 x ||| ((1 : Int32) <<< (nI p &&& 31))) := if_pos ht
    rw [eN]
    have bm := hQ.1.1.2.2.2
    obtain ⟨q, hq, e7⟩ := fP_q hQ.1 m0 hQ.2.2.2.2.2.1
    have eq : (B 7 m0).toNatClampNeg = q := by rw [e7]; exact nI_clamp (by omega)
    have bd : rBd B m0 t1 t0 (fu (fu G 55 55 (G 55 55 ||| ((1 : Int32) <<< (nI p &&& 31)))) 94 x (G 94 x ||| ((1 : Int32) <<< (nI p &&& 31)))) ↔ rBd B m0 t1 t0 G ∨ ¬ rOk B m0 t1 34 x p := by
      have eo : fu (fu G 55 55 (G 55 55 ||| ((1 : Int32) <<< (nI p &&& 31)))) 94 x (G 94 x ||| ((1 : Int32) <<< (nI p &&& 31))) 93 = G 93 := by rw [fu_o (by decide), fu_o (by decide)]
      have en : ∀ y i, bB (fu (fu G 55 55 (G 55 55 ||| ((1 : Int32) <<< (nI p &&& 31)))) 94 x (G 94 x ||| ((1 : Int32) <<< (nI p &&& 31))) 94 y) i ↔ bB (G 94 y) i ∨ (y = x ∧ i = p) := fun y i => by
        rw [fu_w, fu_o (by decide)]
        by_cases ey : y = x
        · subst ey
          rw [if_pos rfl, bB_o, bB_sh hp]
          exact or_congr Iff.rfl ⟨fun h => ⟨rfl, h⟩, fun h => h.2⟩
        · rw [if_neg ey]
          exact ⟨fun h => Or.inl h, fun h => h.elim id (fun h => absurd h.1 ey)⟩
      unfold rBd
      rw [eo]
      constructor
      · rintro (h | h | ⟨y, i, h1, h2⟩)
        · exact Or.inl (Or.inl h)
        · exact Or.inl (Or.inr (Or.inl h))
        · rcases h2 with h2 | h2
          · exact Or.inl (Or.inr (Or.inr ⟨y, i, h1, Or.inl h2⟩))
          · rcases (en y i).mp h2.1 with h3 | ⟨h3, h4⟩
            · exact Or.inl (Or.inr (Or.inr ⟨y, i, h1, Or.inr ⟨h3, h2.2⟩⟩))
            · subst h3
              subst h4
              exact Or.inr h2.2
      · rintro ((h | h | ⟨y, i, h1, h2⟩) | h)
        · exact Or.inl h
        · exact Or.inr (Or.inl h)
        · exact Or.inr (Or.inr ⟨y, i, h1, h2.imp id (fun h => ⟨(en y i).mpr (Or.inl h.1), h.2⟩)⟩)
        · exact Or.inr (Or.inr ⟨x, p, ht, Or.inr ⟨(en x p).mpr (Or.inr ⟨rfl, rfl⟩), h⟩⟩)
    -- what stands behind, but for the flag of surprise
    have mk : ∀ F', (∀ a, a ≠ 40 → F' a = σ.1 a) → (∀ j, j ≠ 1 → j ≠ 7 → F' 40 j = σ.1 40 j) → F' 40 1 = σ.1 40 1 ||| ((1 : Int32) <<< (nI p &&& 31)) → ((σ.1 39 11 = 0 ∨ ¬ ¬ rOk B m0 t1 34 x p → F' 40 7 = σ.1 40 7) ∧ (¬ σ.1 39 11 = 0 → ¬ rOk B m0 t1 34 x p → F' 40 7 = 1)) → RR B nt ns nm m0 t1 t0 pb wv d nx dn fl pr F' (fu (fu G 55 55 (G 55 55 ||| ((1 : Int32) <<< (nI p &&& 31)))) 94 x (G 94 x ||| ((1 : Int32) <<< (nI p &&& 31)))) := by
      intro F' o1 o2 o3 o7
      have fr : rFr B F' G := ⟨fun a h1 h2 => by rw [o1 a (fun e => by rw [e] at h2; cases h2)]; exact a1.1 a h1 h2, a1.2⟩
      refine ⟨rFr_g (rFr_5 fr rfl) rfl (by decide), rWd_c (F := σ.1) (G := G) (fun a h _ => o1 a (fun e => by rw [e] at h; cases h)) (fun a h _ => by rw [fu_o (fun e => by rw [e] at h; cases h), fu_o (fun e => by rw [e] at h; cases h)]) (by rw [o1 16 (by decide)]) rfl a2, ?_, rSt_c (F := σ.1) (G := G) (by rw [o1 39 (by decide)]) (o1 41 (by decide)) (o1 42 (by decide)) (o1 43 (by decide)) (o1 44 (by decide)) rfl rfl rfl rfl rfl a4, ?_, ⟨⟨by rw [o1 39 (by decide)]; exact u1, u2, u3⟩, ?_⟩, ?_, ?_, rSu_n34 (nt := nt) (nf := nf) (ns := ns) (nm := nm) (pb := pb) (d := d) (nx := nx) (dn := dn) (fl := fl) (pr := pr) a9 (by rw [o1 39 (by decide)]) (by rw [o1 41 (by decide)]) (o1 45 (by decide)) bd o7, a10.1, fun y hy => (congrFun (o1 17 (by decide)) y).trans (a10.2 y hy)⟩
      · unfold rPr at *
        rw [o1 16 (by decide), o1 20 (by decide)]
        exact a3
      · unfold rCt at *
        rw [o2 3 (by decide) (by decide), o1 39 (by decide)]
        exact a5
      · rw [o2 2 (by decide) (by decide)]
        exact u4
      · obtain ⟨r1, r2⟩ := a7
        refine ⟨by rw [o2 0 (by decide) (by decide)]; exact r1, ?_⟩
        rw [o3]
        show _ = (G 55 55 ||| _) ||| G 55 59
        rw [r2, or_sw]
      · unfold rEn at *
        rw [o2 6 (by decide) (by decide), o2 5 (by decide) (by decide)]
        exact a8
    have lt : nI x < σ.1 39 10 := by rw [u1]; exact (nI_ltI (by omega) (by omega)).mpr ht
    by_cases hw : σ.1 39 11 = 0
    · refine ⟨fu σ.1 40 1 (σ.1 40 1 ||| ((1 : Int32) <<< (nI p &&& 31))), pv_53 _ _ _ σ _ ⟨fun _ => ⟨fun z => absurd z (by decide), fun _ => ?_⟩, fun z => absurd lt z⟩, mk _ (fun a h => fu_o h) (fun j h1 h2 => fu_j h1) fu_s ⟨fun _ => fu_j (by decide), fun z => absurd hw z⟩, fun a h => fu_o h⟩
      rintro σ1 rfl
      exact pv_53_49 _ _ _ _ _ ⟨fun _ => ⟨rfl, rfl⟩, fun z => absurd hw z⟩
    · have go : ∀ F', (rOk B m0 t1 34 x p → F' = fu σ.1 40 1 (σ.1 40 1 ||| ((1 : Int32) <<< (nI p &&& 31)))) → (¬ rOk B m0 t1 34 x p → F' = fu (fu σ.1 40 1 (σ.1 40 1 ||| ((1 : Int32) <<< (nI p &&& 31)))) 40 7 1) → pz_WP 53 (0, pz_en 5 [.ref 39, .int (nI x), .int (nI p), .int 1], []) σ (pz_is none (F', σ.2)) := by
        intro F' k1 k2
        refine pv_53 _ _ _ σ _ ⟨fun _ => ⟨fun z => absurd z (by decide), fun _ => ?_⟩, fun z => absurd lt z⟩
        rintro σ1 rfl
        refine pv_53_49 _ _ _ _ _ ⟨fun z => absurd z hw, fun _ => ⟨_, w_fore34 (σ := pz_up σ 40 1 (σ.1 40 1 ||| ((1 : Int32) <<< (nI p &&& 31)))) (B := B) (m0 := m0) (t1 := t1) (q := q) (by have := hQ.2.2.2.2.2.1; omega) a9.2.2.1 (by show σ.1 7 m0 = nI q; rw [rKn a1 7 (by decide) rfl]; exact e7) e7 hq (rKn a1 34 (by decide) rfl) (fun k hk => a9.2.2.2.1 k (by rw [eq]; exact hk)) (nI x), ?_⟩⟩
        rintro r1 σ2 ⟨rfl, r, h1, h2⟩
        cases h1
        have ok : bB r1 p ↔ rOk B m0 t1 34 x p := by
          rw [h2]
          unfold rOk
          exact or_congr Iff.rfl ⟨fun h => h.2, fun h => ⟨nI_ne1 (by omega), h⟩⟩
        refine ⟨fun z => ?_, fun z => ?_⟩
        · have nk : ¬ rOk B m0 t1 34 x p := fun y => by
            have := (b_an1 hp).mp z
            rw [show bt r1 p = true from ok.mpr y] at this
            cases this
          rintro σ3 rfl
          exact ⟨rfl, by rw [k2 nk]; rfl⟩
        · have yk : rOk B m0 t1 34 x p := ok.mp (by
            show bt r1 p = true
            cases y : bt r1 p
            · exact absurd ((b_an1 hp).mpr y) z
            · rfl)
          exact ⟨rfl, by rw [k1 yk]; rfl⟩
      by_cases hk : rOk B m0 t1 34 x p
      · exact ⟨_, go _ (fun _ => rfl) (fun z => absurd hk z), mk _ (fun a h => fu_o h) (fun j h1 h2 => fu_j h1) fu_s ⟨fun _ => fu_j (by decide), fun _ z => absurd hk z⟩, fun a h => fu_o h⟩
      · exact ⟨_, go _ (fun z => absurd z hk) (fun _ => rfl), mk _ (fun a h => by rw [fu_o h, fu_o h]) (fun j h1 h2 => by rw [fu_j h2, fu_j h1]) (by rw [fu_j (by decide), fu_s]) ⟨fun z => z.elim (fun z => absurd z hw) (fun z => absurd hk z), fun _ _ => fu_s⟩, fun a h => by rw [fu_o h, fu_o h]⟩
  · refine ⟨σ.1, pv_53 _ _ _ σ _ ⟨fun z => absurd ?_ ht, fun _ => ⟨rfl, rfl⟩⟩, ?_, fun _ _ => rfl⟩
    · rw [u1] at z
      exact (nI_ltI (by omega) (by omega)).mp z
    · rw [show ntG34 t0 G x ((1 : Int32) <<< (nI p &&& 31)) = G from if_neg ht]
      exact H
/-- the class's note of a STATIC -/
theorem n_st34 {B : iv_F} {nt nf ns nm m0 t1 t0 pb : Nat} {wv : Int32} {d nx dn fl pr : Nat} (hQ : rQ B nt nf ns nm m0 t1) {σ : pz_Sg} {G : iv_F} (H : RR B nt ns nm m0 t1 t0 pb wv d nx dn fl pr σ.1 G) {p : Nat} (hp : p < 32) : ∃ F', pz_WP 53 (0, pz_en 5 [.ref 39, .int (-1), .int (nI p), .int 1], []) σ (pz_is none (F', σ.2)) ∧ RR B nt ns nm m0 t1 t0 pb wv d nx dn fl pr F' (fu G 55 59 (G 55 59 ||| ((1 : Int32) <<< (nI p &&& 31)))) ∧ ∀ a, a ≠ 40 → F' a = σ.1 a := by
  obtain ⟨a1, a2, a3, a4, a5, ⟨⟨u1, u2, u3⟩, u4⟩, a7, a8, a9, a10⟩ := id H
  have nb : nx ≤ 60 := a2.1.2.2
  have bm := hQ.1.1.2.2.2
  obtain ⟨q, hq, e7⟩ := fP_q hQ.1 m0 hQ.2.2.2.2.2.1
  have eq : (B 7 m0).toNatClampNeg = q := by rw [e7]; exact nI_clamp (by omega)
  have bd : rBd B m0 t1 t0 (fu G 55 59 (G 55 59 ||| ((1 : Int32) <<< (nI p &&& 31)))) ↔ rBd B m0 t1 t0 G ∨ ¬ bB (B 34 (4 * m0 + 3)) p := by
    have en : ∀ i, bB (fu G 55 59 (G 55 59 ||| ((1 : Int32) <<< (nI p &&& 31))) 55 59) i ↔ bB (G 55 59) i ∨ i = p := fun i => by
      rw [fu_s, bB_o, bB_sh hp]
    have eo : fu G 55 59 (G 55 59 ||| ((1 : Int32) <<< (nI p &&& 31))) 55 58 = G 55 58 := fu_j (by decide)
    unfold rBd
    rw [eo]
    constructor
    · rintro (⟨i, h1, h2⟩ | ⟨i, h1, h2⟩ | h)
      · exact Or.inl (Or.inl ⟨i, h1, h2⟩)
      · rcases (en i).mp h1 with h3 | h3
        · exact Or.inl (Or.inr (Or.inl ⟨i, h3, h2⟩))
        · subst h3
          exact Or.inr h2
      · exact Or.inl (Or.inr (Or.inr h))
    · rintro ((⟨i, h1, h2⟩ | ⟨i, h1, h2⟩ | h) | h)
      · exact Or.inl ⟨i, h1, h2⟩
      · exact Or.inr (Or.inl ⟨i, (en i).mpr (Or.inl h1), h2⟩)
      · exact Or.inr (Or.inr h)
      · exact Or.inr (Or.inl ⟨p, (en p).mpr (Or.inr rfl), h⟩)
  have mk : ∀ F', (∀ a, a ≠ 40 → F' a = σ.1 a) → (∀ j, j ≠ 1 → j ≠ 7 → F' 40 j = σ.1 40 j) → F' 40 1 = σ.1 40 1 ||| ((1 : Int32) <<< (nI p &&& 31)) → ((σ.1 39 11 = 0 ∨ ¬ ¬ bB (B 34 (4 * m0 + 3)) p → F' 40 7 = σ.1 40 7) ∧ (¬ σ.1 39 11 = 0 → ¬ bB (B 34 (4 * m0 + 3)) p → F' 40 7 = 1)) → RR B nt ns nm m0 t1 t0 pb wv d nx dn fl pr F' (fu G 55 59 (G 55 59 ||| ((1 : Int32) <<< (nI p &&& 31)))) := by
    intro F' o1 o2 o3 o7
    have fr : rFr B F' G := ⟨fun a h1 h2 => by rw [o1 a (fun e => by rw [e] at h2; cases h2)]; exact a1.1 a h1 h2, a1.2⟩
    refine ⟨rFr_5 fr rfl, rWd_c (F := σ.1) (G := G) (fun a h _ => o1 a (fun e => by rw [e] at h; cases h)) (fun a h _ => by rw [fu_o (fun e => by rw [e] at h; cases h)]) (by rw [o1 16 (by decide)]) rfl a2, ?_, rSt_c (F := σ.1) (G := G) (by rw [o1 39 (by decide)]) (o1 41 (by decide)) (o1 42 (by decide)) (o1 43 (by decide)) (o1 44 (by decide)) rfl rfl rfl rfl rfl a4, ?_, ⟨⟨by rw [o1 39 (by decide)]; exact u1, u2, u3⟩, ?_⟩, ?_, ?_, rSu_n34 (nt := nt) (nf := nf) (ns := ns) (nm := nm) (pb := pb) (d := d) (nx := nx) (dn := dn) (fl := fl) (pr := pr) a9 (by rw [o1 39 (by decide)]) (by rw [o1 41 (by decide)]) (o1 45 (by decide)) bd o7, a10.1, fun y hy => (congrFun (o1 17 (by decide)) y).trans (a10.2 y hy)⟩
    · unfold rPr at *
      rw [o1 16 (by decide), o1 20 (by decide)]
      exact a3
    · unfold rCt at *
      rw [o2 3 (by decide) (by decide), o1 39 (by decide)]
      exact a5
    · rw [o2 2 (by decide) (by decide)]
      exact u4
    · obtain ⟨r1, r2⟩ := a7
      refine ⟨by rw [o2 0 (by decide) (by decide)]; exact r1, ?_⟩
      rw [o3]
      show _ = G 55 55 ||| (G 55 59 ||| _)
      rw [r2, or_as]
    · unfold rEn at *
      rw [o2 6 (by decide) (by decide), o2 5 (by decide) (by decide)]
      exact a8
  have lt : (-1 : Int32) < σ.1 39 10 := by
    rw [u1, Int32.lt_iff_toInt_lt, nI_toInt (by omega)]
    have : (-1 : Int32).toInt = -1 := by decide
    omega
  by_cases hw : σ.1 39 11 = 0
  · refine ⟨fu σ.1 40 1 (σ.1 40 1 ||| ((1 : Int32) <<< (nI p &&& 31))), pv_53 _ _ _ σ _ ⟨fun _ => ⟨fun z => absurd z (by decide), fun _ => ?_⟩, fun z => absurd lt z⟩, mk _ (fun a h => fu_o h) (fun j h1 h2 => fu_j h1) fu_s ⟨fun _ => fu_j (by decide), fun z => absurd hw z⟩, fun a h => fu_o h⟩
    rintro σ1 rfl
    exact pv_53_49 _ _ _ _ _ ⟨fun _ => ⟨rfl, rfl⟩, fun z => absurd hw z⟩
  · have go : ∀ F', (bB (B 34 (4 * m0 + 3)) p → F' = fu σ.1 40 1 (σ.1 40 1 ||| ((1 : Int32) <<< (nI p &&& 31)))) → (¬ bB (B 34 (4 * m0 + 3)) p → F' = fu (fu σ.1 40 1 (σ.1 40 1 ||| ((1 : Int32) <<< (nI p &&& 31)))) 40 7 1) → pz_WP 53 (0, pz_en 5 [.ref 39, .int (-1), .int (nI p), .int 1], []) σ (pz_is none (F', σ.2)) := by
      intro F' k1 k2
      refine pv_53 _ _ _ σ _ ⟨fun _ => ⟨fun z => absurd z (by decide), fun _ => ?_⟩, fun z => absurd lt z⟩
      rintro σ1 rfl
      refine pv_53_49 _ _ _ _ _ ⟨fun z => absurd z hw, fun _ => ⟨_, w_fore34 (σ := pz_up σ 40 1 (σ.1 40 1 ||| ((1 : Int32) <<< (nI p &&& 31)))) (B := B) (m0 := m0) (t1 := t1) (q := q) (by have := hQ.2.2.2.2.2.1; omega) a9.2.2.1 (by show σ.1 7 m0 = nI q; rw [rKn a1 7 (by decide) rfl]; exact e7) e7 hq (rKn a1 34 (by decide) rfl) (fun k hk => a9.2.2.2.1 k (by rw [eq]; exact hk)) (-1), ?_⟩⟩
      rintro r1 σ2 ⟨rfl, r, h1, h2⟩
      cases h1
      have ok : bB r1 p ↔ bB (B 34 (4 * m0 + 3)) p := by
        rw [h2]
        exact ⟨fun h => h.elim id (fun h => absurd rfl h.1), fun h => Or.inl h⟩
      refine ⟨fun z => ?_, fun z => ?_⟩
      · have nk : ¬ bB (B 34 (4 * m0 + 3)) p := fun y => by
          have := (b_an1 hp).mp z
          rw [show bt r1 p = true from ok.mpr y] at this
          cases this
        rintro σ3 rfl
        exact ⟨rfl, by rw [k2 nk]; rfl⟩
      · have yk : bB (B 34 (4 * m0 + 3)) p := ok.mp (by
          show bt r1 p = true
          cases y : bt r1 p
          · exact absurd ((b_an1 hp).mpr y) z
          · rfl)
        exact ⟨rfl, by rw [k1 yk]; rfl⟩
    by_cases hk : bB (B 34 (4 * m0 + 3)) p
    · exact ⟨_, go _ (fun _ => rfl) (fun z => absurd hk z), mk _ (fun a h => fu_o h) (fun j h1 h2 => fu_j h1) fu_s ⟨fun _ => fu_j (by decide), fun _ z => absurd hk z⟩, fun a h => fu_o h⟩
    · exact ⟨_, go _ (fun z => absurd z hk) (fun _ => rfl), mk _ (fun a h => by rw [fu_o h, fu_o h]) (fun j h1 h2 => by rw [fu_j h2, fu_j h1]) (by rw [fu_j (by decide), fu_s]) ⟨fun z => z.elim (fun z => absurd z hw) (fun z => absurd hk z), fun _ _ => fu_s⟩, fun a h => by rw [fu_o h, fu_o h]⟩
