/-! ===== goThrough: calls, and the whole of it ===== -/
/-- by which way place w of the called METHOD's is reached -/
def gby (N : Nat → Int32) (c q w : Nat) : Int32 := if w = 3 then nI 32 else if w < q then N (c + w) else 0
theorem w_callM {F : iv_F} {nt nf ns nm : Nat} {X : fX} {m l : Nat} {N : Nat → Int32} (K : gK F nt nf ns nm X m l N) {a b c : Nat} {A : Int32} (hb : b < nm) (hc : c < 8) (hcq : c + (F 7 b).toNatClampNeg ≤ 8) (R : fRo F X m l a b c 21) {σ s : pz_Sg} {D : fX → Prop} (g : gG F nm X σ s D) (e : s.1 88 = N) : pz_WP 139 (0, pz_en 8 [.ref 55, .int (nI m), .int (nI l), .int A, .int (nI b), .int (nI c)], []) s (gQ F nm X m l N 21 a b c σ) := by
  obtain ⟨l1, l24, m10⟩ := gms24 K
  have bm := K.1.1.2.2.2
  have hN := K.2.2.2
  have hm := K.2.1.1
  have b10 : b < 10 := by omega
  have vb : vp_in (nI b) 10 := vp_in_nI b10 (by decide)
  have cb : (nI b).toNatClampNeg = b := nI_clamp (by omega)
  obtain ⟨q, hq, e7⟩ := fP_q K.1 b hb
  have eq : (F 7 b).toNatClampNeg = q := by rw [e7]; exact nI_clamp (by omega)
  have e61 : F 61 b = nI q := ((K.1.2.1.1 b hb).2.1.1).symm.trans e7
  have e62 : F 62 b = F 8 b := ((K.1.2.1.1 b hb).2.2.1.1).symm
  rw [eq] at hcq
  have hSX : ∀ r i, r < 8 → bB (N r) i → fL (X 1 m l) r i := fun r i hr hi => fL_m K.2.2.1 (by rw [eL hN hr]; exact hi)
  have R' : fCa F X m l b c := R
  obtain ⟨ra, ⟨rb6, rb7⟩, rp, re, rf⟩ := R'
  -- where it ends
  have t149 : ∀ (s : pz_Sg) (D : fX → Prop), gG F nm X σ s D → s.1 88 = N → (∀ Y, Y 1 m l = nB N → D Y → (∀ k, k < q → fTo Y 6 m (Y 6 b k) (bB (N (c + k))) ∧ fTo Y 7 m (Y 7 b k) (bB (N (c + k)))) ∧ (fTo Y 6 m (Y 6 b 3) (fun i => i = 5) ∧ fTo Y 7 m (Y 7 b 3) (fun i => i = 5)) ∧ (Y 3 b 0 0 → Y 3 m 0 0) ∧ ∀ f, 1 ≤ f → f ≤ 9 → Y 4 b f 0 → fTh F Y m l f) → pz_WP 139 (149, [some (.ref 55), some (.int (nI m)), some (.int (nI l)), none, some (.int (nI b)), some (.int (nI c)), none, none], []) s (gQ F nm X m l N 21 a b c σ) := by
    intro s D g e hD
    have H := g.2.1
    have all : ∀ Y, Y 1 m l = nB N → D Y → (Y 2 b 0 0 → (¬ F 8 b = nI 2 → fCm F Y m (l + 1) (nB N)) ∧ (F 8 b = nI 2 → fCm F Y m (l + 1) (fW (nB N) c (fS F Y b c (nB N))))) → fRo F Y m l a b c 21 := by
      intro Y hY dY eY
      obtain ⟨h1, h2, h3, h4⟩ := hD Y hY dY
      show fCa F Y m l b c
      unfold fCa
      rw [hY, eq]
      refine ⟨fun k hk => ?_, h2, h3, eY, h4⟩
      rw [eL hN (by omega)]
      exact h1 k hk
    refine pv_139_149 _ _ _ _ s _ ?_
    rw [cb, H.1.1 62 rfl, e62]
    refine ⟨vb, fun z => ?_, fun z => ⟨vb, fun z2 => ⟨vb, ?_⟩, fun z2 => ?_⟩⟩
    · refine ⟨rfl, _, gG_x g (D := fun Y => D Y ∧ ¬ Y 9 b 0 0) (fun _ cY => ⟨cY, fun u => u z⟩), fun Y hE hY dY => all Y hY dY.1 (fun u => absurd ((hE b hb).1 u) dY.2)⟩
    · refine ⟨_, w_seen (F := F) b10 (by rw [H.1.1 61 rfl]; exact e61) hq hcq (s.1 85 b), ?_⟩
      rintro r2 σ2 ⟨rfl, x, hx, hxB⟩
      cases hx
      have vc : vp_in (nI c) 8 := vp_in_nI hc (by decide)
      rw [nI_clamp (show c < 2 ^ 31 by omega)]
      refine ⟨vc, ?_⟩
      rintro σ3 rfl
      rw [e] at hxB
      have x6 : ∀ i, bB r2 i → i < 6 := fun i hi => by
        rcases (hxB i).mp hi with ⟨h1, -⟩ | ⟨k, k1, -, k3⟩
        · omega
        · exact hN (c + k) (by omega) i k3
      rw [nI_1]
      refine gQ_cm K (gG_s (gG_x g (D := fun Y => D Y ∧ ∀ i, Y 10 b i 0 → bB (σ2.1 85 b) i) (fun _ cY => ⟨cY, fun i hi => hi⟩)) (gG_88 H c r2)) (hN_W hN x6) (by rw [r_88, e]) l1 (st := fW (nB N) c (bB r2)) (nB_W hc) (fCm_w (fun i hi => fW_m K.2.2.1 (fun i _ (h : bB r2 i) => ?_) hi) ((re (((H.2.2.1 b hb).2.1) z)).2 z2)) (fun Y hE hY dY cY => all Y hY dY.1.1 (fun _ => ⟨fun u => absurd z2 u, fun _ => fCm_w (fun i hi => fW_m (fun _ h => h) (fun i _ (h : fS F Y b c (nB N) i) => ?_) hi) cY⟩))
      · show fS F X b c (X 1 m l) i
        rcases (hxB i).mp h with ⟨h1, h2⟩ | ⟨k, k1, k2, k3⟩
        · exact Or.inl ⟨h1, (H.2.2.1 b hb).2.2.2.2.1 i h2⟩
        · exact Or.inr ⟨k, by rw [eq]; exact k1, (H.2.2.1 b hb).2.2.2.2.1 _ k2, hSX _ i (by omega) k3⟩
      · show bB r2 i
        refine (hxB i).mpr ?_
        rcases h with ⟨h1, h2⟩ | ⟨k, k1, k2, k3⟩
        · exact Or.inl ⟨h1, dY.1.2 i ((hE b hb).2 i h2)⟩
        · rw [eq] at k1
          rw [eL hN (by omega)] at k3
          exact Or.inr ⟨k, k1, dY.1.2 _ ((hE b hb).2 _ k2), k3⟩
    · rw [nI_1]
      exact gQ_cm K g hN e l1 rfl (fCm_w K.2.2.1 ((re ((H.2.2.1 b hb).2.1 z)).1 z2)) (fun Y _ hY dY cY => all Y hY dY (fun _ => ⟨fun _ => cY, fun u => absurd u z2⟩))
  -- what it reads and writes
  have t43 : ∀ d w (s : pz_Sg) (D : fX → Prop), w + d = 4 → gG F nm X σ s D → s.1 88 = N → (∀ Y, Y 1 m l = nB N → D Y → (∀ j, j < w → fTo Y 6 m (Y 6 b j) (bB (gby N c q j)) ∧ fTo Y 7 m (Y 7 b j) (bB (gby N c q j))) ∧ ∀ f, 1 ≤ f → f ≤ 9 → Y 4 b f 0 → fTh F Y m l f) → pz_WP 139 (43, [some (.ref 55), some (.int (nI m)), some (.int (nI l)), none, some (.int (nI b)), some (.int (nI c)), some (.int (nI w)), none], []) s (gQ F nm X m l N 21 a b c σ) := by
    intro d
    induction d with
    | zero =>
      intro w s D hw g e hD
      have hw : w = 4 := by omega
      subst hw
      have H := g.2.1
      have three : ∀ Y, Y 1 m l = nB N → D Y → (∀ k, k < q → fTo Y 6 m (Y 6 b k) (bB (N (c + k))) ∧ fTo Y 7 m (Y 7 b k) (bB (N (c + k)))) ∧ (fTo Y 6 m (Y 6 b 3) (fun i => i = 5) ∧ fTo Y 7 m (Y 7 b 3) (fun i => i = 5)) := fun Y hY dY => by
        obtain ⟨h1, -⟩ := hD Y hY dY
        refine ⟨fun k hk => ?_, ?_⟩
        · have := h1 k (by omega)
          rw [show gby N c q k = N (c + k) by unfold gby; rw [if_neg (by omega), if_pos hk]] at this
          exact this
        · have := h1 3 (by decide)
          rw [show gby N c q 3 = nI 32 from if_pos rfl, bB_32] at this
          exact this
      refine pv_139_43 _ _ _ _ _ s _ ⟨fun _ => ?_, fun z => absurd (by decide) z⟩
      rw [cb]
      refine ⟨vb, fun z => t149 s (fun Y => D Y ∧ ¬ Y 3 b 0 0) (gG_x g (fun _ cY => ⟨cY, fun u => u z⟩)) e (fun Y hY dY => ⟨(three Y hY dY.1).1, (three Y hY dY.1).2, fun u => absurd u dY.2, (hD Y hY dY.1).2⟩), fun z => ?_⟩
      have g2 := gG_print H m10 hm (rp ((H.2.2.1 b hb).2.2.1 z))
      exact pz_kv (w_printM m10 H.2.2.2.2.2 (H.2.2.2.2.1 m hm).2) (t149 _ _ (gG_s g g2) ((fadd_o (by decide) (by decide)).trans e) (fun Y hY dY => ⟨(three Y hY dY.1).1, (three Y hY dY.1).2, fun _ => dY.2, (hD Y hY dY.1).2⟩))
    | succ d ih =>
      intro w s D hw g e hD
      have H := g.2.1
      have ix : nI 4 * nI b + nI w = nI (4 * b + w) := by rw [pk_mul, nI_add]
      have cx : (nI (4 * b + w)).toNatClampNeg = 4 * b + w := nI_clamp (by omega)
      have vx : vp_in (nI (4 * b + w)) 40 := vp_in_nI (by omega) (by decide)
      have t86 : pz_WP 139 (86, [some (.ref 55), some (.int (nI m)), some (.int (nI l)), none, some (.int (nI b)), some (.int (nI c)), some (.int (nI w)), none], [.int (gby N c q w)]) s (gQ F nm X m l N 21 a b c σ) := by
        have sX : fTo X 6 m (X 6 b w) (bB (gby N c q w)) ∧ fTo X 7 m (X 7 b w) (bB (gby N c q w)) := by
          unfold gby
          by_cases w3 : w = 3
          · subst w3
            rw [if_pos rfl, bB_32]
            exact ⟨rb6, rb7⟩
          · rw [if_neg w3]
            by_cases wq : w < q
            · rw [if_pos wq]
              obtain ⟨h6, h7⟩ := ra w (by rw [eq]; exact wq)
              exact ⟨fun w' hw' y => h6 w' hw' (hSX _ _ (by omega) y), fun w' hw' y => h7 w' hw' (hSX _ _ (by omega) y)⟩
            · rw [if_neg wq]
              exact ⟨fun w' hw' y => absurd y bB_n, fun w' hw' y => absurd y bB_n⟩
        have g1 := gG_touch H (a := 86) (k := 6) (Or.inl ⟨rfl, rfl⟩) m10 (pl := s.1 86 (4 * b + w)) (is := gby N c q w) rfl rfl (fun w' hw' y p hp => sX.1 w' hw' y p (((H.2.2.1 b hb).2.2.2.2.2 w (by omega) p).1 hp))
        have e1 : (gtouch 86 s m (gby N c q w) (s.1 86 (4 * b + w))).1 88 = N := (gtouch_88 (by decide)).trans e
        have g2 := gG_touch g1.2.1 (a := 87) (k := 7) (Or.inr ⟨rfl, rfl⟩) m10 (pl := (gtouch 86 s m (gby N c q w) (s.1 86 (4 * b + w))).1 87 (4 * b + w)) (is := gby N c q w) rfl rfl (fun w' hw' y p hp => sX.2 w' hw' y p (((g1.2.1.2.2.1 b hb).2.2.2.2.2 w (by omega) p).2 hp))
        have g1' := gG_x g1 (D := fun Y => fTo Y 6 m (Y 6 b w) (bB (gby N c q w))) (fun sa c' w' hw' y p hp => c' w' hw' y p (by
          have e : (gtouch 86 s m (gby N c q w) (s.1 86 (4 * b + w))).1 86 = s.1 86 := sa.2 6 (by decide)
          have h2 := hp.2
          rw [e] at h2
          exact h2))
        have g2' := gG_x g2 (D := fun Y => fTo Y 7 m (Y 7 b w) (bB (gby N c q w))) (fun sa c' w' hw' y p hp => c' w' hw' y p (by
          have e : (gtouch 87 (gtouch 86 s m (gby N c q w) (s.1 86 (4 * b + w))) m (gby N c q w) ((gtouch 86 s m (gby N c q w) (s.1 86 (4 * b + w))).1 87 (4 * b + w))).1 87 = (gtouch 86 s m (gby N c q w) (s.1 86 (4 * b + w))).1 87 := sa.2 7 (by decide)
          have h2 := hp.2
          rw [e] at h2
          exact h2))
        refine pv_139_86 _ _ _ _ _ _ s _ ?_
        rw [ix, cx, nI_1]
        refine ⟨vx, pz_kv (w_touchM (a := 86) m10 H.2.2.2.2.2 (Or.inl ⟨rfl, rfl⟩) _ _) ⟨vx, pz_kv (w_touchM (a := 87) m10 g1.2.1.2.2.2.2.2 (Or.inr ⟨rfl, rfl⟩) _ _) (ih (w + 1) _ _ (by omega) (gG_s g (gG_s g1' g2')) ((gtouch_88 (by decide)).trans e1) (fun Y hY dY => ⟨fun j hj => ?_, (hD Y hY dY.1).2⟩))⟩⟩
        by_cases ej : j = w
        · subst ej
          exact dY.2
        · exact (hD Y hY dY.1).1 j (by omega)
      refine pv_139_43 _ _ _ _ _ s _ ⟨fun z => absurd z (nI_ge (by omega) (by decide)), fun _ => ⟨fun z => ?_, fun z => ?_⟩⟩
      · have w3 : w = 3 := (nI_eq (by omega) (by decide)).mp z
        have t := t86
        rw [show gby N c q w = nI 32 from if_pos w3] at t
        exact t
      · have w3 : ¬ w = 3 := fun y => z (by rw [y])
        rw [cb, H.1.1 61 rfl, e61]
        refine ⟨vb, fun y => ?_, fun y => ?_⟩
        · have wq : ¬ w < q := fun u => nI_ge u (by omega) y
          have t := t86
          rw [show gby N c q w = 0 by unfold gby; rw [if_neg w3, if_neg wq]] at t
          exact t
        · have wq : w < q := Nat.not_le.mp fun u => y (nI_le u (by omega))
          have t := t86
          rw [show gby N c q w = N (c + w) by unfold gby; rw [if_neg w3, if_pos wq]] at t
          rw [nI_add, nI_clamp (show c + w < 2 ^ 31 by omega), e]
          exact ⟨vp_in_nI (by omega) (by decide), t⟩
  -- what it throws
  have t3 : ∀ d f (s : pz_Sg) (D : fX → Prop), f + d = 10 → 1 ≤ f → gG F nm X σ s D → s.1 88 = N → (∀ Y, Y 1 m l = nB N → D Y → ∀ g, 1 ≤ g → g < f → Y 4 b g 0 → fTh F Y m l g) → pz_WP 139 (3, [some (.ref 55), some (.int (nI m)), some (.int (nI l)), none, some (.int (nI b)), some (.int (nI c)), some (.int (nI f)), none], []) s (gQ F nm X m l N 21 a b c σ) := by
    intro d
    induction d with
    | zero =>
      intro f s D hf _ g e hD
      have hf : f = 10 := by omega
      subst hf
      exact pv_139_3 _ _ _ _ _ s _ ⟨fun _ => t43 4 0 s D (by decide) g e (fun Y hY dY => ⟨fun j hj => absurd hj (Nat.not_lt_zero _), fun f f1 f2 => hD Y hY dY f f1 (by omega)⟩), fun z => absurd (by decide) z⟩
    | succ d ih =>
      intro f s D hf f1 g e hD
      have H := g.2.1
      refine pv_139_3 _ _ _ _ _ s _ ⟨fun z => absurd z (nI_ge (by omega) (by decide)), fun _ => ?_⟩
      rw [cb, nI_1]
      refine ⟨vb, fun z => ?_, fun z => ?_⟩
      · have y : bB (s.1 84 b) f := (b_is (by omega)).mp z
        have g2 := gG_ft K H e (f := f) (by omega) (rf f f1 (by omega) ((H.2.2.1 b hb).2.2.2.1 f y))
        refine pz_kv (w_ft K H (by omega)) (ih (f + 1) _ _ (by omega) (by omega) (gG_s g g2) (gthr_88.trans e) (fun Y hY dY h h1 h2 h3 => ?_))
        by_cases eh : h = f
        · subst eh
          exact dY.2 hY
        · exact hD Y hY dY.1 h h1 (by omega) h3
      · have y : ¬ bB (s.1 84 b) f := fun u => z ((b_is (by omega)).mpr u)
        refine ih (f + 1) s (fun Y => D Y ∧ ¬ Y 4 b f 0) (by omega) (by omega) (gG_x g (fun _ cY => ⟨cY, y⟩)) e (fun Y hY dY h h1 h2 h3 => ?_)
        by_cases eh : h = f
        · subst eh
          exact absurd h3 dY.2
        · exact hD Y hY dY.1 h h1 (by omega) h3
  exact pv_139 _ _ _ _ _ s _ (t3 9 1 s D (by decide) (by decide) g e (fun Y _ _ h h1 h2 => absurd h2 (by omega)))
theorem w_go21 {m l : Nat} {A B C : Int32} {s : pz_Sg} {P : pz_Ps} (h : ∃ Q : pz_Ps, pz_WP 139 (0, pz_en 8 [.ref 55, .int (nI m), .int (nI l), .int A, .int B, .int C], []) s Q ∧ ∀ σ1, Q none σ1 → P none σ1) : pz_WP 140 (392, [some (.ref 55), some (.int (nI m)), some (.int (nI l)), none, none, some (.int (nI 21)), some (.int A), some (.int B), some (.int C), none, none, none], []) s P := by
  refine pv_140_392 _ _ _ _ _ _ s _ ⟨?_, ?_, ?_, ?_, ?_, ?_, ?_, ?_, ?_, ?_, ?_, ?_, ?_, ?_, ?_, ?_, fun _ => h, ?_, ?_, ?_, ?_, ?_, ?_, ?_, ?_, ?_, ?_, trivial⟩
  all_goals (intro z; exact absurd z (by decide))
theorem w_through {F : iv_F} {nt nf ns nm : Nat} {X : fX} (hP : fP F nt nf ns nm) (hX : fCl F nm X) {σ : pz_Sg} (H : gI F nm X σ) {m l : Nat} (hm : m < nm) (hl : l < (F 9 m).toNatClampNeg) (hr : ¬ σ.1 81 (25 * m + l) = 0) : pz_WP 140 (0, pz_en 12 [.ref 55, .int (nI m), .int (nI l)], []) σ (fun v σ' => v = none ∧ gG F nm X σ σ' (fun Y => gE nm Y → fRu F Y m l)) := by
  have bm := hP.1.2.2.2
  have bl := fP_L' hP m hm
  obtain ⟨x1, x0⟩ := H.2.1 m hm l hl
  have ix : nI 24 * nI m + nI l = nI (24 * m + l) := by rw [pk_mul, nI_add]
  have cx : (nI (24 * m + l)).toNatClampNeg = 24 * m + l := nI_clamp (by omega)
  have vx : vp_in (nI (24 * m + l)) 240 := vp_in_nI (by omega) (by decide)
  have i25 : nI 25 * nI m + nI l = nI (25 * m + l) := by rw [pk_mul, nI_add]
  obtain ⟨o, ho, e10, u1, u2, u3, u21⟩ := fOp hP.2.2.1 hm hl
  obtain ⟨⟨q10, q11, q12, q13⟩, -⟩ := hP.2.2.1 m hm l hl
  have R := (hX m hm).2 l hl (x0 hr)
  unfold fRu at R
  rw [e10, nI_clamp (by omega)] at R
  have eR : ∀ Y, fRu F Y m l = fRo F Y m l (F 11 (24 * m + l)).toNatClampNeg (F 12 (24 * m + l)).toNatClampNeg (F 13 (24 * m + l)).toNatClampNeg o := fun Y => by
    unfold fRu
    rw [e10, nI_clamp (by omega)]
  obtain ⟨k1, k2, k3, k4⟩ := qz_Wg1 o ho
  obtain ⟨k5, k6⟩ := qz_Wg2 o ho
  obtain ⟨k7, k8, k9, k10, k11⟩ := qz_Wg3 o ho
  -- behind the copying
  have main : ∀ s : pz_Sg, gG F nm X σ s (fun _ => True) → s.1 80 = σ.1 80 → (∀ r, r < 8 → s.1 88 r = σ.1 80 (8 * (25 * m + l) + r)) → pz_WP 140 (54, [some (.ref 55), some (.int (nI m)), some (.int (nI l)), some (.int (nI (25 * m + l))), none, some (.int (nI o)), some (.int (F 11 (24 * m + l))), some (.int (F 12 (24 * m + l))), some (.int (F 13 (24 * m + l))), some (.int (nI 8)), none, none], []) s (fun v σ' => v = none ∧ gG F nm X σ σ' (fun Y => gE nm Y → fRu F Y m l)) := by
    intro s g e80 e88
    have eS : nB (s.1 88) = gCs F σ 1 m l := funext fun i => propext (by
      show (i < 48 ∧ bB (s.1 88 (i / 6)) (i % 6)) ↔ (i < 48 ∧ bB (σ.1 80 (8 * (25 * m + l) + i / 6)) (i % 6))
      refine and_congr_right fun hi => ?_
      rw [e88 (i / 6) (by omega)])
    have K : gK F nt nf ns nm X m l (s.1 88) := ⟨hP, ⟨hm, hl⟩, fun i hi => by
      have h2 := hi.2
      rw [e88 (i / 6) (by have := hi.1; omega)] at h2
      have := (x1 (i / 6) (by have := hi.1; omega) (i % 6) h2).2
      rw [show 6 * (i / 6) + i % 6 = i by omega] at this
      exact this, fun r hr' b hb => by
      rw [e88 r hr'] at hb
      exact (x1 r hr' b hb).1⟩
    have fin : ∀ {P : Prop} (v : Option Value) (σ' : pz_Sg), gQ F nm X m l (s.1 88) o (F 11 (24 * m + l)).toNatClampNeg (F 12 (24 * m + l)).toNatClampNeg (F 13 (24 * m + l)).toNatClampNeg σ v σ' → v = none ∧ gG F nm X σ σ' (fun Y => gE nm Y → fRu F Y m l) := by
      rintro P v σ' ⟨rfl, C, gC, hC⟩
      refine ⟨rfl, gG_x gC (fun sa cY hE => ?_)⟩
      rw [eR]
      refine hC _ hE ?_ cY
      rw [eS, gCs_c sa]
    have H' := g.2.1
    refine pz_conseq (Post := gQ F nm X m l (s.1 88) o (F 11 (24 * m + l)).toNatClampNeg (F 12 (24 * m + l)).toNatClampNeg (F 13 (24 * m + l)).toNatClampNeg σ) ?_ (fun v σ' h => fin (P := True) v σ' h)
    -- what comes behind the first faults
    have t144 : ∀ (s1 : pz_Sg) (D : fX → Prop), gG F nm X σ s1 D → s1.1 88 = s.1 88 → (∀ Y, Y 1 m l = nB (s.1 88) → D Y → (o = 9 → fTh F Y m l 2) ∧ (o = 4 ∨ o = 5 → fTh F Y m l 1)) → ¬ o = 30 → pz_WP 140 (144, [some (.ref 55), some (.int (nI m)), some (.int (nI l)), none, none, some (.int (nI o)), some (.int (F 11 (24 * m + l))), some (.int (F 12 (24 * m + l))), some (.int (F 13 (24 * m + l))), none, none, none], []) s1 (gQ F nm X m l (s.1 88) o (F 11 (24 * m + l)).toNatClampNeg (F 12 (24 * m + l)).toNatClampNeg (F 13 (24 * m + l)).toNatClampNeg σ) := by
      intro s1 D g1 e1 hD n30
      by_cases hp : (10 ≤ o ∧ o ≤ 15) ∨ o = 20
      · refine w_paM K hp (qz_s1 u1 (k3 hp).1) (qz_s1 u2 (k3 hp).2) (fun a b => ?_) R g1 e1
        have := qz_s34 hP.1.2.1 u3 (k4 ⟨a, b⟩)
        exact ⟨this.1, by have := hP.1.2.1; omega⟩
      · by_cases h29 : o = 29
        · subst h29
          exact w_ck K (qz_s1 u1 (k8 rfl)) R g1 e1
        · refine w_392 ho hp h29 ?_
          by_cases h21 : o = 21
          · subst h21
            have hb := qz_s7 bm u2 (k11 rfl).2.1
            have hc := qz_s1 u3 (k11 rfl).2.2
            obtain ⟨q, hq, e7⟩ := fP_q hP _ hb.2
            have q2 := (u21 rfl).2
            rw [e7, hc.1, nI_add, nI_leI (by have := hc.2; omega) (by decide)] at q2
            have t := w_callM K (a := (F 11 (24 * m + l)).toNatClampNeg) (A := F 11 (24 * m + l)) hb.2 hc.2 (by rw [e7, nI_clamp (by omega)]; exact q2) R g1 e1
            rw [← hb.1, ← hc.1] at t
            exact w_go21 ⟨_, t, fun σ1 h => h⟩
          · refine w_go K g1 e1 (by omega) (fun h => ?_) (fun h1 h2 => qz_s10 u1 (k10 h1) (by rw [h2]; decide)) (fun h => ?_) (fun h1 h2 => ?_) hD R h21
            · by_cases y : 16 ≤ o ∧ o ≤ 19
              · exact qz_s56 hP.1.2.2.1 u1 (k5 y).1
              · by_cases y2 : 6 ≤ o ∧ o ≤ 9
                · exact qz_s1 u1 (k1 y2)
                · exact qz_s1 u1 (k6 (by omega)).1
            · by_cases y : 16 ≤ o ∧ o ≤ 19
              · exact qz_s56 hP.1.2.2.1 u2 (k5 y).2
              · exact qz_s1 u2 (k2 (by omega))
            · by_cases y : o = 28
              · exact qz_s8 u3 (k7 y)
              · exact qz_s8 u3 (k6 (by omega)).2
    have one : (o = 4 ∨ o = 5) → pz_WP 140 (98, [some (.ref 55), some (.int (nI m)), some (.int (nI l)), none, none, some (.int (nI o)), some (.int (F 11 (24 * m + l))), some (.int (F 12 (24 * m + l))), some (.int (F 13 (24 * m + l))), none, none, none], []) s (gQ F nm X m l (s.1 88) o (F 11 (24 * m + l)).toNatClampNeg (F 12 (24 * m + l)).toNatClampNeg (F 13 (24 * m + l)).toNatClampNeg σ) := by
      intro h
      have r1 : fTh F X m l 1 := by
        rcases h with h | h
        · subst h; exact R.1
        · subst h; exact R.1
      have g2 := gG_ft K H' rfl (f := 1) (by decide) r1
      exact pv_140_98 _ _ _ _ _ _ s _ (pz_kv (w_ft K H' (f := 1) (by decide)) (t144 _ _ (gG_s g g2) gthr_88 (fun Y hY dY => ⟨fun q => absurd q (by omega), fun _ => dY.2 hY⟩) (by omega)))
    refine pv_140_54 _ _ _ _ _ _ _ _ s _ ⟨fun _ => ⟨fun z => one (Or.inl ((nI_eq (by omega) (by decide)).mp z)), fun z => ⟨fun z2 => one (Or.inr ((nI_eq (by omega) (by decide)).mp z2)), fun z2 => ⟨fun z3 => ?_, fun z3 => ⟨fun z4 => ?_, fun z4 => ?_⟩⟩⟩⟩, fun z => absurd (by decide) z⟩
    · have o9 : o = 9 := (nI_eq (by omega) (by decide)).mp z3
      subst o9
      have g2 := gG_ft K H' rfl (f := 2) (by decide) R.1
      exact pz_kv (w_ft K H' (f := 2) (by decide)) (t144 _ _ (gG_s g g2) gthr_88 (fun Y hY dY => ⟨fun _ => dY.2 hY, fun q => absurd q (by omega)⟩) (by decide))
    · have o30 : o = 30 := (nI_eq (by omega) (by decide)).mp z4
      subst o30
      have hA := qz_s9 u1 (k9 rfl)
      have g2 := gG_ft K H' rfl (f := 6 + (F 11 (24 * m + l)).toNatClampNeg) (by omega) R
      have t := w_ft K H' (f := 6 + (F 11 (24 * m + l)).toNatClampNeg) (by omega)
      rw [← nI_add, ← hA.1] at t
      exact pz_kv t ⟨rfl, _, gG_s g g2, fun Y _ hY dY => dY.2 hY⟩
    · exact t144 s _ g rfl (fun Y hY _ => ⟨fun q => absurd (by rw [q]) z3, fun q => q.elim (fun q => absurd (by rw [q]) z) (fun q => absurd (by rw [q]) z2)⟩) (fun q => z4 (by rw [q]))
  have cp : ∀ d r (s : pz_Sg), r + d = 8 → gG F nm X σ s (fun _ => True) → s.1 80 = σ.1 80 → (∀ r', r' < r → s.1 88 r' = σ.1 80 (8 * (25 * m + l) + r')) → pz_WP 140 (54, [some (.ref 55), some (.int (nI m)), some (.int (nI l)), some (.int (nI (25 * m + l))), none, some (.int (nI o)), some (.int (F 11 (24 * m + l))), some (.int (F 12 (24 * m + l))), some (.int (F 13 (24 * m + l))), some (.int (nI r)), none, none], []) s (fun v σ' => v = none ∧ gG F nm X σ σ' (fun Y => gE nm Y → fRu F Y m l)) := by
    intro d
    induction d with
    | zero =>
      intro r s hr g e80 e88
      have hr : r = 8 := by omega
      subst hr
      exact main s g e80 e88
    | succ d ih =>
      intro r s hr g e80 e88
      have i8 : nI 8 * nI (25 * m + l) + nI r = nI (8 * (25 * m + l) + r) := by rw [pk_mul, nI_add]
      refine pv_140_54 _ _ _ _ _ _ _ _ s _ ⟨fun z => absurd z (nI_ge (by omega) (by decide)), fun _ => ?_⟩
      rw [i8, nI_clamp (by omega), nI_clamp (by omega), nI_1, e80]
      refine ⟨vp_in_nI (by omega) (by decide), vp_in_nI (by omega) (by decide), ?_⟩
      rintro σ3 rfl
      refine ih (r + 1) _ (by omega) (gG_w (gG_s g (gG_88 g.2.1 r _)) (fun _ _ => trivial)) ((qz_rn _ _ _ _ (by decide)).trans e80) (fun r' hr' => ?_)
      rw [r_88]
      show (if r' = r then _ else _) = _
      by_cases er : r' = r
      · rw [if_pos er, er]
      · rw [if_neg er]
        exact e88 r' (by omega)
  refine pv_140 _ _ σ _ ?_
  rw [ix, cx, i25, H.1.1 64 rfl, H.1.1 65 rfl, H.1.1 66 rfl, H.1.1 67 rfl, ← q10, ← q11, ← q12, ← q13, e10]
  exact ⟨vx, vx, vx, vx, cp 8 0 σ (by decide) (gG_r H) rfl (fun r' hr' => absurd hr' (Nat.not_lt_zero _))⟩
