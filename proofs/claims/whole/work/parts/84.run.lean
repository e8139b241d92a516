/-! ===== go and goes, from beginning to end ===== -/
theorem w_goRun {B : iv_F} {nt nf ns nm m0 t1 nx pr wh : Nat} {wv : Int32} {σ : pz_Sg} {G : iv_F} {Post : pz_Ps} (hQ : rQ B nt nf ns nm m0 t1) (ht : t1 = 3 * wh) (hwh : wh ≤ 1) (a1 : rFr B σ.1 G) (hw : iv_wd (mxf σ.1 G) nt ns nx) (hpr : rPr σ.1 G pr) (hpb : pr + 500 < 1000000) (har : ∀ j, j < 6 → σ.1 53 j = G 78 j ∧ G 79 j = σ.1 54 j + 1 ∧ iv_rv nx (σ.1 54 j)) (h17 : ∀ x, x < nx → σ.1 17 x = B 17 x) (hwv : wv = 0 ∨ wv = 1)
    (hEnd : ∀ (F1 F2 G' : iv_F) nx' dn fl pr' f, RR B nt ns nm m0 t1 nx pr wv 0 nx' dn fl pr' F1 G' → rFn B m0 nx' F1 → pr' ≤ pr + 500 → f ≤ 9 → F1 40 6 = nI f → (∀ a, a ≠ 40 → F2 a = F1 a) → (∀ j, j ≠ 4 → j ≠ 7 → F2 40 j = F1 40 j) → F2 40 4 = nI nx' - nI nx → (wv = 0 → F2 40 7 = 0) → (wv = 1 → (F2 40 7 = 0 ∨ F2 40 7 = 1) ∧ (F2 40 7 = 1 ↔ rBd B m0 t1 nx G' ∨ rHb B m0 (pr' - pr) f)) → (∀ T P, P (some (.int 1)) (Ms T G') → pz_WP 166 (0, pz_en 5 [.ref 55, .int (nI m0), .int (nI wh)], []) (Ms T G) P) → Post (some (.int (nI f))) (F2, σ.2))
    (hFull : ∀ (F' G' : iv_F), rFr B F' G' → (∀ T P, P (some (.int 0)) (Ms T G') → pz_WP 166 (0, pz_en 5 [.ref 55, .int (nI m0), .int (nI wh)], []) (Ms T G) P) → Post (some (.int (-(nI 4)))) (F', σ.2)) : pz_WP 34 (0, pz_en 8 [.ref 39, .int (nI m0), .ref 53, .ref 54, .int (nI t1), .int wv], []) σ Post := by
  have bm := hQ.1.1.2.2.2
  have hm := hQ.2.2.2.2.2.1
  have hm10 : m0 < 10 := by omega
  obtain ⟨⟨e60, p, hp, ep⟩, ⟨e61, q, hq, eq⟩, -⟩ := hQ.1.2.1.1 m0 hm
  refine w_goI hm10 hQ.2.2.2.2.2.2 (p := p) (q := q) (by rw [rKn a1 6 (by decide) rfl]; exact ep) hp (by rw [rKn a1 7 (by decide) rfl]; exact eq) hq hwv ?_
  refine w_loop hQ hpb (W := fun s P => pz_WP 166 (0, pz_en 5 [.ref 55, .int (nI m0), .int (nI wh)], []) s P) (Gs := G) (x2 := σ.2) ?_ ?_ 1002 0 1 nx 0 0 pr (goF σ.1 m0 t1 p q wv, σ.2) (goG G m0 t1 p q) (by omega) rfl (rr_go hQ a1 hw hpr har h17 ep hp eq hq hwv) (by omega) (by omega) (fun z => absurd z (by decide)) (fun T P h => w_goIM hm10 ht hwh (by rw [rKg a1 60 (by decide) rfl, ← e60]; exact ep) hp (by rw [rKg a1 61 (by decide) rfl, ← e61]; exact eq) hq h)
  · intro σ' G' nx' dn' fl' pr' R hfn hp' h2 hW
    obtain ⟨b1, ⟨⟨c16, -, -⟩, -⟩, -, ⟨⟨s1, -, -⟩, -, -⟩, ⟨⟨-, -, dn5⟩, -⟩, ⟨⟨t10, -, -⟩, -, t2, tp⟩, -, ⟨-, -, -, f, hf, ef, -⟩, ⟨r11, r01, -, -, r0, r1⟩, -⟩ := id R
    have c16 : σ'.1 16 0 = nI nx' := c16
    refine pv_34_180 _ σ' _ ⟨fun _ => ?_, fun z => absurd (by rw [s1]; decide) z⟩
    rintro σ1 rfl
    rw [c16, t10]
    have hb : rHb (pz_up σ' 40 4 (nI nx' - nI nx)).1 m0 (pr' - pr) f ↔ rHb B m0 (pr' - pr) f := by
      unfold rHb
      rw [show (pz_up σ' 40 4 (nI nx' - nI nx)).1 37 = B 37 from rKn b1 37 (by decide) rfl, show (pz_up σ' 40 4 (nI nx' - nI nx)).1 35 = B 35 from rKn b1 35 (by decide) rfl]
    refine ⟨_, w_hold (σ := pz_up σ' 40 4 (nI nx' - nI nx)) (k := pr' - pr) (f := f) hm10 (by omega) hf t2 ef, ?_⟩
    rintro σ2 ⟨-, ⟨⟨hz, hh⟩, rfl⟩ | ⟨hh, rfl⟩⟩
    · have hz : ¬ wv = 0 := by rw [← r11]; exact hz
      have w1 : wv = 1 := hwv.resolve_left hz
      have := hEnd σ'.1 (pz_up (pz_up σ' 40 4 (nI nx' - nI nx)) 40 7 1).1 G' nx' dn' fl' pr' f R hfn (by omega) hf ef (fun a ha => by rw [qz_rn _ _ _ _ ha, qz_rn _ _ _ _ ha]) (fun j h4 h7 => by rw [qz_rd, if_neg (fun z => h7 z.2), qz_rd, if_neg (fun z => h4 z.2)]) rfl (fun z => absurd z hz) (fun _ => ⟨Or.inr rfl, fun _ => Or.inr (hb.mp hh), fun _ => rfl⟩) hW
      rw [show (pz_up (pz_up σ' 40 4 (nI nx' - nI nx)) 40 7 1).1 40 6 = nI f from ef]
      rw [← h2] at this
      exact this
    · have := hEnd σ'.1 (pz_up σ' 40 4 (nI nx' - nI nx)).1 G' nx' dn' fl' pr' f R hfn (by omega) hf ef (fun a ha => by rw [qz_rn _ _ _ _ ha]) (fun j h4 h7 => by rw [qz_rd, if_neg (fun z => h4 z.2)]) rfl (fun z => r0 z) (fun z => ⟨(r1 z).1, fun y => Or.inl ((r1 z).2.mp y), fun y => y.elim (fun y => (r1 z).2.mpr y) (fun y => absurd ⟨show ¬ σ'.1 39 11 = 0 by rw [r11, z]; decide, hb.mpr y⟩ hh)⟩) hW
      rw [show (pz_up σ' 40 4 (nI nx' - nI nx)).1 40 6 = nI f from ef]
      rw [← h2] at this
      exact this
  · intro σ' G' hr h39 h2 hW
    refine pv_34_180 _ σ' _ ⟨fun z => absurd z h39, fun _ => ?_⟩
    have := hFull σ'.1 G' hr hW
    rw [← h2] at this
    exact this
/-! ===== save and restore, copyFrom ===== -/
def sv (G : iv_F) (y : Nat) : Int32 := if y < 120 then (if y % 2 = 0 then G 73 (y / 2) else G 74 (y / 2)) else if y < 1080 then G 75 (y - 120) else if y < 1088 then G 76 (y - 1080) else if y < 1288 then G 77 (y - 1088) else if y = 1288 then G 55 22 else G 55 27
theorem sv_0 {G : iv_F} {x : Nat} (h : x < 60) : sv G (2 * x) = G 73 x := by
  unfold sv
  rw [if_pos (by omega), if_pos (by omega), show 2 * x / 2 = x by omega]
theorem sv_1 {G : iv_F} {x : Nat} (h : x < 60) : sv G (2 * x + 1) = G 74 x := by
  unfold sv
  rw [if_pos (by omega), if_neg (by omega), show (2 * x + 1) / 2 = x by omega]
theorem sv_2 {G : iv_F} {x : Nat} (h : x < 960) : sv G (120 + x) = G 75 x := by
  unfold sv
  rw [if_neg (by omega), if_pos (by omega), show 120 + x - 120 = x by omega]
theorem sv_3 {G : iv_F} {x : Nat} (h : x < 8) : sv G (1080 + x) = G 76 x := by
  unfold sv
  rw [if_neg (by omega), if_neg (by omega), if_pos (by omega), show 1080 + x - 1080 = x by omega]
theorem sv_4 {G : iv_F} {x : Nat} (h : x < 200) : sv G (1088 + x) = G 77 x := by
  unfold sv
  rw [if_neg (by omega), if_neg (by omega), if_neg (by omega), if_pos (by omega), show 1088 + x - 1088 = x by omega]
theorem sv_5 {G : iv_F} : sv G 1288 = G 55 22 := rfl
theorem sv_6 {G : iv_F} : sv G 1289 = G 55 27 := rfl
theorem w_save95 {G : iv_F} {T : pz_Sg} : pz_WP 167 (0, pz_en 4 [.ref 55, .ref 95], []) (Ms T G) (pz_is none (Ms T (fi G 95 1290 (sv G)))) := by
  have L4 : ∀ d k, k + d = 200 → pz_WP 167 (101, [some (.ref 55), some (.ref 95), some (.int (nI 1088)), some (.int (nI k))], []) (Ms T (fi G 95 (1088 + k) (sv G))) (pz_is none (Ms T (fi G 95 1290 (sv G)))) := by
    intro d
    induction d with
    | zero =>
      intro k hk
      have : k = 200 := by omega
      subst this
      refine pv_167r55_95_101 _ _ _ _ ⟨fun _ => ?_, fun z => absurd (Int32.le_refl _) z⟩
      rw [nI_add, nI_1]
      refine ⟨vp_in_nI (by decide) (by decide), ?_⟩
      rintro σ1 rfl
      rw [Ms_r (a := 55) (by decide), fi_o (x := 55) (by decide), nI_clamp (by decide), nI_clamp (by decide), ← sv_5 (G := G), Ms_u (by decide)]
      refine ⟨vp_in_nI (by decide) (by decide), ?_⟩
      rintro σ2 rfl
      rw [Ms_r (a := 55) (by decide), fu_o (x := 55) (by decide), fi_o (x := 55) (by decide), ← sv_6 (G := G), Ms_u (by decide), show fu (fi G 95 (1088 + 200) (sv G)) 95 (1088 + 200) (sv G 1288) = fi G 95 (1288 + 1) (sv G) from fi_s]
      exact ⟨rfl, congrArg (Ms T) (fi_s (k := 1289))⟩
    | succ d ih =>
      intro k hk
      refine pv_167r55_95_101 _ _ _ _ ?_
      rw [nI_add 1088 k, nI_clamp (show 1088 + k < 2 ^ 31 by omega), nI_clamp (show k < 2 ^ 31 by omega), nI_1 k, Ms_r (a := 77) (by decide), fi_o (x := 77) (by decide), ← sv_4 (G := G) (x := k) (by omega)]
      refine ⟨fun z => absurd z (nI_ge (by omega) (by decide)), fun _ => ⟨vp_in_nI (by omega) (by decide), vp_in_nI (by omega) (by decide), ?_⟩⟩
      rintro σ1 rfl
      rw [Ms_u (by decide), fi_s]
      exact ih (k + 1) (by omega)
  have L3 : ∀ d k, k + d = 8 → pz_WP 167 (73, [some (.ref 55), some (.ref 95), some (.int (nI 1080)), some (.int (nI k))], []) (Ms T (fi G 95 (1080 + k) (sv G))) (pz_is none (Ms T (fi G 95 1290 (sv G)))) := by
    intro d
    induction d with
    | zero =>
      intro k hk
      have : k = 8 := by omega
      subst this
      refine pv_167r55_95_73 _ _ _ _ ⟨fun _ => ?_, fun z => absurd (Int32.le_refl _) z⟩
      rw [nI_add]
      exact L4 200 0 (by omega)
    | succ d ih =>
      intro k hk
      refine pv_167r55_95_73 _ _ _ _ ?_
      rw [nI_add 1080 k, nI_clamp (show 1080 + k < 2 ^ 31 by omega), nI_clamp (show k < 2 ^ 31 by omega), nI_1 k, Ms_r (a := 76) (by decide), fi_o (x := 76) (by decide), ← sv_3 (G := G) (x := k) (by omega)]
      refine ⟨fun z => absurd z (nI_ge (by omega) (by decide)), fun _ => ⟨vp_in_nI (by omega) (by decide), vp_in_nI (by omega) (by decide), ?_⟩⟩
      rintro σ1 rfl
      rw [Ms_u (by decide), fi_s]
      exact ih (k + 1) (by omega)
  have L2 : ∀ d k, k + d = 960 → pz_WP 167 (41, [some (.ref 55), some (.ref 95), some (.int (nI 120)), some (.int (nI k))], []) (Ms T (fi G 95 (120 + k) (sv G))) (pz_is none (Ms T (fi G 95 1290 (sv G)))) := by
    intro d
    induction d with
    | zero =>
      intro k hk
      have : k = 960 := by omega
      subst this
      refine pv_167r55_95_41 _ _ _ _ ⟨fun _ => ?_, fun z => absurd (Int32.le_refl _) z⟩
      rw [nI_add]
      exact L3 8 0 (by omega)
    | succ d ih =>
      intro k hk
      refine pv_167r55_95_41 _ _ _ _ ?_
      rw [nI_add 120 k, nI_clamp (show 120 + k < 2 ^ 31 by omega), nI_clamp (show k < 2 ^ 31 by omega), nI_1 k, Ms_r (a := 75) (by decide), fi_o (x := 75) (by decide), ← sv_2 (G := G) (x := k) (by omega)]
      refine ⟨fun z => absurd z (nI_ge (by omega) (by decide)), fun _ => ⟨vp_in_nI (by omega) (by decide), vp_in_nI (by omega) (by decide), ?_⟩⟩
      rintro σ1 rfl
      rw [Ms_u (by decide), fi_s]
      exact ih (k + 1) (by omega)
  have L1 : ∀ d k, k + d = 60 → pz_WP 167 (4, [some (.ref 55), some (.ref 95), some (.int (nI (2 * k))), some (.int (nI k))], []) (Ms T (fi G 95 (2 * k) (sv G))) (pz_is none (Ms T (fi G 95 1290 (sv G)))) := by
    intro d
    induction d with
    | zero =>
      intro k hk
      have : k = 60 := by omega
      subst this
      exact pv_167r55_95_4 _ _ _ _ ⟨fun _ => L2 960 0 (by omega), fun z => absurd (Int32.le_refl _) z⟩
    | succ d ih =>
      intro k hk
      refine pv_167r55_95_4 _ _ _ _ ?_
      rw [nI_add, nI_1, nI_1, nI_clamp (show 2 * k < 2 ^ 31 by omega), nI_clamp (show 2 * k + 1 < 2 ^ 31 by omega), nI_clamp (show k < 2 ^ 31 by omega), Ms_r (a := 73) (by decide), fi_o (x := 73) (by decide), ← sv_0 (G := G) (x := k) (by omega)]
      refine ⟨fun z => absurd z (nI_ge (by omega) (by decide)), fun _ => ⟨vp_in_nI (by omega) (by decide), vp_in_nI (by omega) (by decide), ?_⟩⟩
      rintro σ1 rfl
      rw [Ms_u (by decide), fi_s, Ms_r (a := 74) (by decide), fi_o (x := 74) (by decide), ← sv_1 (G := G) (x := k) (by omega)]
      refine ⟨vp_in_nI (by omega) (by decide), vp_in_nI (by omega) (by decide), ?_⟩
      rintro σ2 rfl
      rw [Ms_u (by decide), fi_s]
      exact ih (k + 1) (by omega)
  refine pv_167r55_95 _ _ ?_
  have := L1 60 0 (by omega)
  rw [show 2 * 0 = 0 from rfl, fi_0] at this
  exact this
theorem w_save96 {G : iv_F} {T : pz_Sg} : pz_WP 167 (0, pz_en 4 [.ref 55, .ref 96], []) (Ms T G) (pz_is none (Ms T (fi G 96 1290 (sv G)))) := by
  have L4 : ∀ d k, k + d = 200 → pz_WP 167 (101, [some (.ref 55), some (.ref 96), some (.int (nI 1088)), some (.int (nI k))], []) (Ms T (fi G 96 (1088 + k) (sv G))) (pz_is none (Ms T (fi G 96 1290 (sv G)))) := by
    intro d
    induction d with
    | zero =>
      intro k hk
      have : k = 200 := by omega
      subst this
      refine pv_167r55_96_101 _ _ _ _ ⟨fun _ => ?_, fun z => absurd (Int32.le_refl _) z⟩
      rw [nI_add, nI_1]
      refine ⟨vp_in_nI (by decide) (by decide), ?_⟩
      rintro σ1 rfl
      rw [Ms_r (a := 55) (by decide), fi_o (x := 55) (by decide), nI_clamp (by decide), nI_clamp (by decide), ← sv_5 (G := G), Ms_u (by decide)]
      refine ⟨vp_in_nI (by decide) (by decide), ?_⟩
      rintro σ2 rfl
      rw [Ms_r (a := 55) (by decide), fu_o (x := 55) (by decide), fi_o (x := 55) (by decide), ← sv_6 (G := G), Ms_u (by decide), show fu (fi G 96 (1088 + 200) (sv G)) 96 (1088 + 200) (sv G 1288) = fi G 96 (1288 + 1) (sv G) from fi_s]
      exact ⟨rfl, congrArg (Ms T) (fi_s (k := 1289))⟩
    | succ d ih =>
      intro k hk
      refine pv_167r55_96_101 _ _ _ _ ?_
      rw [nI_add 1088 k, nI_clamp (show 1088 + k < 2 ^ 31 by omega), nI_clamp (show k < 2 ^ 31 by omega), nI_1 k, Ms_r (a := 77) (by decide), fi_o (x := 77) (by decide), ← sv_4 (G := G) (x := k) (by omega)]
      refine ⟨fun z => absurd z (nI_ge (by omega) (by decide)), fun _ => ⟨vp_in_nI (by omega) (by decide), vp_in_nI (by omega) (by decide), ?_⟩⟩
      rintro σ1 rfl
      rw [Ms_u (by decide), fi_s]
      exact ih (k + 1) (by omega)
  have L3 : ∀ d k, k + d = 8 → pz_WP 167 (73, [some (.ref 55), some (.ref 96), some (.int (nI 1080)), some (.int (nI k))], []) (Ms T (fi G 96 (1080 + k) (sv G))) (pz_is none (Ms T (fi G 96 1290 (sv G)))) := by
    intro d
    induction d with
    | zero =>
      intro k hk
      have : k = 8 := by omega
      subst this
      refine pv_167r55_96_73 _ _ _ _ ⟨fun _ => ?_, fun z => absurd (Int32.le_refl _) z⟩
      rw [nI_add]
      exact L4 200 0 (by omega)
    | succ d ih =>
      intro k hk
      refine pv_167r55_96_73 _ _ _ _ ?_
      rw [nI_add 1080 k, nI_clamp (show 1080 + k < 2 ^ 31 by omega), nI_clamp (show k < 2 ^ 31 by omega), nI_1 k, Ms_r (a := 76) (by decide), fi_o (x := 76) (by decide), ← sv_3 (G := G) (x := k) (by omega)]
      refine ⟨fun z => absurd z (nI_ge (by omega) (by decide)), fun _ => ⟨vp_in_nI (by omega) (by decide), vp_in_nI (by omega) (by decide), ?_⟩⟩
      rintro σ1 rfl
      rw [Ms_u (by decide), fi_s]
      exact ih (k + 1) (by omega)
  have L2 : ∀ d k, k + d = 960 → pz_WP 167 (41, [some (.ref 55), some (.ref 96), some (.int (nI 120)), some (.int (nI k))], []) (Ms T (fi G 96 (120 + k) (sv G))) (pz_is none (Ms T (fi G 96 1290 (sv G)))) := by
    intro d
    induction d with
    | zero =>
      intro k hk
      have : k = 960 := by omega
      subst this
      refine pv_167r55_96_41 _ _ _ _ ⟨fun _ => ?_, fun z => absurd (Int32.le_refl _) z⟩
      rw [nI_add]
      exact L3 8 0 (by omega)
    | succ d ih =>
      intro k hk
      refine pv_167r55_96_41 _ _ _ _ ?_
      rw [nI_add 120 k, nI_clamp (show 120 + k < 2 ^ 31 by omega), nI_clamp (show k < 2 ^ 31 by omega), nI_1 k, Ms_r (a := 75) (by decide), fi_o (x := 75) (by decide), ← sv_2 (G := G) (x := k) (by omega)]
      refine ⟨fun z => absurd z (nI_ge (by omega) (by decide)), fun _ => ⟨vp_in_nI (by omega) (by decide), vp_in_nI (by omega) (by decide), ?_⟩⟩
      rintro σ1 rfl
      rw [Ms_u (by decide), fi_s]
      exact ih (k + 1) (by omega)
  have L1 : ∀ d k, k + d = 60 → pz_WP 167 (4, [some (.ref 55), some (.ref 96), some (.int (nI (2 * k))), some (.int (nI k))], []) (Ms T (fi G 96 (2 * k) (sv G))) (pz_is none (Ms T (fi G 96 1290 (sv G)))) := by
    intro d
    induction d with
    | zero =>
      intro k hk
      have : k = 60 := by omega
      subst this
      exact pv_167r55_96_4 _ _ _ _ ⟨fun _ => L2 960 0 (by omega), fun z => absurd (Int32.le_refl _) z⟩
    | succ d ih =>
      intro k hk
      refine pv_167r55_96_4 _ _ _ _ ?_
      rw [nI_add, nI_1, nI_1, nI_clamp (show 2 * k < 2 ^ 31 by omega), nI_clamp (show 2 * k + 1 < 2 ^ 31 by omega), nI_clamp (show k < 2 ^ 31 by omega), Ms_r (a := 73) (by decide), fi_o (x := 73) (by decide), ← sv_0 (G := G) (x := k) (by omega)]
      refine ⟨fun z => absurd z (nI_ge (by omega) (by decide)), fun _ => ⟨vp_in_nI (by omega) (by decide), vp_in_nI (by omega) (by decide), ?_⟩⟩
      rintro σ1 rfl
      rw [Ms_u (by decide), fi_s, Ms_r (a := 74) (by decide), fi_o (x := 74) (by decide), ← sv_1 (G := G) (x := k) (by omega)]
      refine ⟨vp_in_nI (by omega) (by decide), vp_in_nI (by omega) (by decide), ?_⟩
      rintro σ2 rfl
      rw [Ms_u (by decide), fi_s]
      exact ih (k + 1) (by omega)
  refine pv_167r55_96 _ _ ?_
  have := L1 60 0 (by omega)
  rw [show 2 * 0 = 0 from rfl, fi_0] at this
  exact this
def rs0 (G : iv_F) : iv_F := fi (fi G 73 60 (fun y => G 95 (2 * y))) 74 60 (fun y => G 95 (2 * y + 1))
def rs1 (G : iv_F) : iv_F := fi (rs0 G) 75 960 (fun y => G 95 (120 + y))
def rs2 (G : iv_F) : iv_F := fi (rs1 G) 76 8 (fun y => G 95 (1080 + y))
def rs3 (G : iv_F) : iv_F := fi (rs2 G) 77 200 (fun y => G 95 (1088 + y))
def rs (G : iv_F) : iv_F := fu (fu (rs3 G) 55 22 (G 95 1288)) 55 27 (G 95 1289)
theorem w_restM {G : iv_F} {T : pz_Sg} : pz_WP 168 (0, pz_en 4 [.ref 55, .ref 95], []) (Ms T G) (pz_is none (Ms T (rs G))) := by
  have L4 : ∀ d k, k + d = 200 → pz_WP 168 (101, [some (.ref 55), some (.ref 95), some (.int (nI 1088)), some (.int (nI k))], []) (Ms T (fi (rs2 G) 77 k (fun y => G 95 (1088 + y)))) (pz_is none (Ms T (rs G))) := by
    intro d
    induction d with
    | zero =>
      intro k hk
      have : k = 200 := by omega
      subst this
      refine pv_168_101 _ _ _ _ ⟨fun _ => ?_, fun z => absurd (Int32.le_refl _) z⟩
      rw [nI_add, nI_1]
      refine ⟨vp_in_nI (by decide) (by decide), ?_⟩
      rintro σ1 rfl
      rw [nI_clamp (by decide), nI_clamp (by decide), Ms_u (by decide)]
      refine ⟨vp_in_nI (by decide) (by decide), ?_⟩
      rintro σ2 rfl
      rw [Ms_u (by decide)]
      exact ⟨rfl, rfl⟩
    | succ d ih =>
      intro k hk
      refine pv_168_101 _ _ _ _ ?_
      rw [nI_add 1088 k, nI_clamp (show 1088 + k < 2 ^ 31 by omega), nI_clamp (show k < 2 ^ 31 by omega), nI_1 k]
      refine ⟨fun z => absurd z (nI_ge (by omega) (by decide)), fun _ => ⟨vp_in_nI (by omega) (by decide), vp_in_nI (by omega) (by decide), ?_⟩⟩
      rintro σ1 rfl
      have := ih (k + 1) (by omega)
      rw [← fi_s (a := 77) (k := k)] at this
      rw [Ms_u (by decide)]
      exact this
  have L3 : ∀ d k, k + d = 8 → pz_WP 168 (73, [some (.ref 55), some (.ref 95), some (.int (nI 1080)), some (.int (nI k))], []) (Ms T (fi (rs1 G) 76 k (fun y => G 95 (1080 + y)))) (pz_is none (Ms T (rs G))) := by
    intro d
    induction d with
    | zero =>
      intro k hk
      have : k = 8 := by omega
      subst this
      refine pv_168_73 _ _ _ _ ⟨fun _ => ?_, fun z => absurd (Int32.le_refl _) z⟩
      rw [nI_add]
      have := L4 200 0 (by omega)
      rw [fi_0] at this
      exact this
    | succ d ih =>
      intro k hk
      refine pv_168_73 _ _ _ _ ?_
      rw [nI_add 1080 k, nI_clamp (show 1080 + k < 2 ^ 31 by omega), nI_clamp (show k < 2 ^ 31 by omega), nI_1 k]
      refine ⟨fun z => absurd z (nI_ge (by omega) (by decide)), fun _ => ⟨vp_in_nI (by omega) (by decide), vp_in_nI (by omega) (by decide), ?_⟩⟩
      rintro σ1 rfl
      have := ih (k + 1) (by omega)
      rw [← fi_s (a := 76) (k := k)] at this
      rw [Ms_u (by decide)]
      exact this
  have L2 : ∀ d k, k + d = 960 → pz_WP 168 (41, [some (.ref 55), some (.ref 95), some (.int (nI 120)), some (.int (nI k))], []) (Ms T (fi (rs0 G) 75 k (fun y => G 95 (120 + y)))) (pz_is none (Ms T (rs G))) := by
    intro d
    induction d with
    | zero =>
      intro k hk
      have : k = 960 := by omega
      subst this
      refine pv_168_41 _ _ _ _ ⟨fun _ => ?_, fun z => absurd (Int32.le_refl _) z⟩
      rw [nI_add]
      have := L3 8 0 (by omega)
      rw [fi_0] at this
      exact this
    | succ d ih =>
      intro k hk
      refine pv_168_41 _ _ _ _ ?_
      rw [nI_add 120 k, nI_clamp (show 120 + k < 2 ^ 31 by omega), nI_clamp (show k < 2 ^ 31 by omega), nI_1 k]
      refine ⟨fun z => absurd z (nI_ge (by omega) (by decide)), fun _ => ⟨vp_in_nI (by omega) (by decide), vp_in_nI (by omega) (by decide), ?_⟩⟩
      rintro σ1 rfl
      have := ih (k + 1) (by omega)
      rw [← fi_s (a := 75) (k := k)] at this
      rw [Ms_u (by decide)]
      exact this
  have L1 : ∀ d k, k + d = 60 → pz_WP 168 (4, [some (.ref 55), some (.ref 95), some (.int (nI (2 * k))), some (.int (nI k))], []) (Ms T (fi (fi G 73 k (fun y => G 95 (2 * y))) 74 k (fun y => G 95 (2 * y + 1)))) (pz_is none (Ms T (rs G))) := by
    intro d
    induction d with
    | zero =>
      intro k hk
      have : k = 60 := by omega
      subst this
      refine pv_168_4 _ _ _ _ ⟨fun _ => ?_, fun z => absurd (Int32.le_refl _) z⟩
      have := L2 960 0 (by omega)
      rw [fi_0] at this
      exact this
    | succ d ih =>
      intro k hk
      refine pv_168_4 _ _ _ _ ?_
      rw [nI_add, nI_1, nI_1, nI_clamp (show 2 * k < 2 ^ 31 by omega), nI_clamp (show 2 * k + 1 < 2 ^ 31 by omega), nI_clamp (show k < 2 ^ 31 by omega)]
      refine ⟨fun z => absurd z (nI_ge (by omega) (by decide)), fun _ => ⟨vp_in_nI (by omega) (by decide), vp_in_nI (by omega) (by decide), ?_⟩⟩
      rintro σ1 rfl
      rw [Ms_u (by decide)]
      refine ⟨vp_in_nI (by omega) (by decide), vp_in_nI (by omega) (by decide), ?_⟩
      rintro σ2 rfl
      have := ih (k + 1) (by omega)
      rw [← fi_2 (a := 73) (b := 74) (k := k) (by decide)] at this
      rw [Ms_u (by decide)]
      exact this
  refine pv_168 _ _ ?_
  have := L1 60 0 (by omega)
  rw [fi_0, fi_0] at this
  exact this
