/-! ===== goThrough: parts of THINGs, checks ===== -/
theorem w_pa392 {m l : Nat} {A B C : Int32} {s : pz_Sg} {P : pz_Ps} (o : Nat) (ho : o = 10 ∨ o = 11 ∨ o = 13 ∨ o = 14 ∨ o = 15 ∨ o = 20 ∨ o = 29) (h : ∃ Q : pz_Ps, pz_WP 133 (0, pz_en 6 [.ref 55, .int (nI m), .int (nI (l + 1))], []) s Q ∧ ∀ σ1, Q none σ1 → P none σ1) : pz_WP 140 (392, [some (.ref 55), some (.int (nI m)), some (.int (nI l)), none, none, some (.int (nI o)), some (.int A), some (.int B), some (.int C), none, none, none], []) s P := by
  refine pv_140_392 _ _ _ _ _ _ s _ ?_
  rw [nI_1]
  rcases ho with rfl | rfl | rfl | rfl | rfl | rfl | rfl
  · refine ⟨?_, ?_, ?_, ?_, ?_, fun _ => h, ?_, ?_, ?_, ?_, ?_, ?_, ?_, ?_, ?_, ?_, ?_, ?_, ?_, ?_, ?_, ?_, ?_, ?_, ?_, ?_, ?_, trivial⟩ <;> (intro z; exact absurd z (by decide))
  · refine ⟨?_, ?_, ?_, ?_, ?_, ?_, fun _ => h, ?_, ?_, ?_, ?_, ?_, ?_, ?_, ?_, ?_, ?_, ?_, ?_, ?_, ?_, ?_, ?_, ?_, ?_, ?_, ?_, trivial⟩ <;> (intro z; exact absurd z (by decide))
  · refine ⟨?_, ?_, ?_, ?_, ?_, ?_, ?_, ?_, fun _ => h, ?_, ?_, ?_, ?_, ?_, ?_, ?_, ?_, ?_, ?_, ?_, ?_, ?_, ?_, ?_, ?_, ?_, ?_, trivial⟩ <;> (intro z; exact absurd z (by decide))
  · refine ⟨?_, ?_, ?_, ?_, ?_, ?_, ?_, ?_, ?_, fun _ => h, ?_, ?_, ?_, ?_, ?_, ?_, ?_, ?_, ?_, ?_, ?_, ?_, ?_, ?_, ?_, ?_, ?_, trivial⟩ <;> (intro z; exact absurd z (by decide))
  · refine ⟨?_, ?_, ?_, ?_, ?_, ?_, ?_, ?_, ?_, ?_, fun _ => h, ?_, ?_, ?_, ?_, ?_, ?_, ?_, ?_, ?_, ?_, ?_, ?_, ?_, ?_, ?_, ?_, trivial⟩ <;> (intro z; exact absurd z (by decide))
  · refine ⟨?_, ?_, ?_, ?_, ?_, ?_, ?_, ?_, ?_, ?_, ?_, ?_, ?_, ?_, ?_, fun _ => h, ?_, ?_, ?_, ?_, ?_, ?_, ?_, ?_, ?_, ?_, ?_, trivial⟩ <;> (intro z; exact absurd z (by decide))
  · refine ⟨?_, ?_, ?_, ?_, ?_, ?_, ?_, ?_, ?_, ?_, ?_, ?_, ?_, ?_, ?_, ?_, ?_, ?_, ?_, ?_, ?_, ?_, ?_, ?_, fun _ => h, ?_, ?_, trivial⟩ <;> (intro z; exact absurd z (by decide))
theorem w_pa12 {m l a : Nat} {A B C : Int32} {s : pz_Sg} {P : pz_Ps} (hA : A = nI a ∧ a < 8) (h : ∃ Q : pz_Ps, pz_WP 133 (0, pz_en 6 [.ref 55, .int (nI m), .int (nI (l + 1))], []) (pz_up s 88 a (nI 33)) Q ∧ ∀ σ1, Q none σ1 → P none σ1) : pz_WP 140 (392, [some (.ref 55), some (.int (nI m)), some (.int (nI l)), none, none, some (.int (nI 12)), some (.int A), some (.int B), some (.int C), none, none, none], []) s P := by
  refine pv_140_392 _ _ _ _ _ _ s _ ?_
  rw [nI_1, hA.1, nI_clamp (show a < 2 ^ 31 by omega)]
  refine ⟨?_, ?_, ?_, ?_, ?_, ?_, ?_, fun _ => ⟨vp_in_nI hA.2 (by decide), fun s2 e => by rw [e]; exact h⟩, ?_, ?_, ?_, ?_, ?_, ?_, ?_, ?_, ?_, ?_, ?_, ?_, ?_, ?_, ?_, ?_, ?_, ?_, ?_, trivial⟩ <;> (intro z; exact absurd z (by decide))
/-- behind the touching: what holder h is -/
theorem w_pa298 {F : iv_F} {nt nf ns nm : Nat} {X : fX} {m l : Nat} {N : Nat → Int32} (K : gK F nt nf ns nm X m l N) {o a b c h k p : Nat} {A B C : Int32} (ho : (10 ≤ o ∧ o ≤ 15) ∨ o = 20) (hA : A = nI a ∧ a < 8) (hh : h < 8) {it : Prop} (hit : it ↔ o = 14 ∨ o = 15) (R : fPa F X m l h k p it (o = 12) a) (hY0 : ∀ Y : fX, fPa F Y m l h k p it (o = 12) a → fRo F Y m l a b c o) {σ s : pz_Sg} {D : fX → Prop} (g : gG F nm X σ s D) (e : s.1 88 = N) (hD : ∀ Y, D Y → fTo Y k m (fun q => q = p ∧ p < 25) (bB (N h))) : pz_WP 140 (298, [some (.ref 55), some (.int (nI m)), some (.int (nI l)), none, none, some (.int (nI o)), some (.int A), some (.int B), some (.int C), some (.int 1), some (.int (nI h)), none], []) s (gQ F nm X m l N o a b c σ) := by
  obtain ⟨l1, l24, m10⟩ := gms24 K
  have hN := K.2.2.2
  have vh : vp_in (nI h) 8 := vp_in_nI hh (by decide)
  have ch : (nI h).toNatClampNeg = h := nI_clamp (by omega)
  have hSX : ∀ r i, r < 8 → bB (N r) i → fL (X 1 m l) r i := fun r i hr hi => fL_m K.2.2.1 (by rw [eL hN hr]; exact hi)
  have n6 : ∀ i, bB (N h) i → i < 6 := hN h hh
  -- the end
  have t364 : ∀ (s : pz_Sg) (D : fX → Prop), gG F nm X σ s D → s.1 88 = N → (∀ Y, Y 1 m l = nB N → D Y → (bB (N h) 0 → fTh F Y m l 3) ∧ ((∃ i, fN (bB (N h)) i) → fTo Y k m (fun q => q = p ∧ p < 25) (bB (N h)) ∧ fTh F Y m l 5 ∧ (it → fTh F Y m l 4))) → pz_WP 140 (364, [some (.ref 55), some (.int (nI m)), some (.int (nI l)), none, none, some (.int (nI o)), some (.int A), some (.int B), some (.int C), some (.int 1), some (.int (nI h)), none], []) s (gQ F nm X m l N o a b c σ) := by
    intro s D g e hD
    have g2 := gG_s g (gG_88 g.2.1 h (N h &&& (-(nI 2))))
    have all : ∀ Y, Y 1 m l = nB N → D Y → ((∃ i, fN (bB (N h)) i) → (¬ o = 12 → fCm F Y m (l + 1) (fW (nB N) h (fN (bB (N h))))) ∧ (o = 12 → fCm F Y m (l + 1) (fW (fW (nB N) h (fN (bB (N h)))) a (fun b => b = 0 ∨ b = 5)))) → fRo F Y m l a b c o := fun Y hY dY h2 => by
      obtain ⟨d1, d2⟩ := hD Y hY dY
      refine hY0 Y ?_
      unfold fPa
      rw [hY, eL hN hh]
      exact ⟨d1, fun q => ⟨(d2 q).1, (d2 q).2.1, (d2 q).2.2, (h2 q).1, (h2 q).2⟩⟩
    refine pv_140_364 _ _ _ _ _ _ _ _ s _ ?_
    rw [ch, e]
    refine ⟨fun z => absurd z (by decide), fun _ => ⟨vh, vh, ?_⟩⟩
    rintro σ1 rfl
    rw [qz_rs]
    refine ⟨vh, fun z => ⟨rfl, _, g2, fun Y _ hY dY => all Y hY dY.1 (fun q => absurd q (bB_so1z.mp z))⟩, fun z => ?_⟩
    have q : ∃ i, fN (bB (N h)) i := Classical.not_not.mp fun u => z (bB_so1z.mpr u)
    obtain ⟨-, -, -, r4, r5⟩ := R.2 (q.imp fun i hi => ⟨hi.1, hSX h i hh hi.2⟩)
    have e1 : nB (fun r => if r = h then N h &&& (-(nI 2)) else N r) = fW (nB N) h (fN (bB (N h))) := by rw [nB_W hh, bB_so1]
    have sub : ∀ i, fW (nB N) h (fN (bB (N h))) i → fW (X 1 m l) h (fN (fL (X 1 m l) h)) i := fun i hi => fW_m K.2.2.1 (fun b _ (y : fN (bB (N h)) b) => (⟨y.1, hSX h b hh y.2⟩ : fN (fL (X 1 m l) h) b)) hi
    have e88 : (pz_up s 88 h (N h &&& (-(nI 2)))).1 88 = fun r => if r = h then N h &&& (-(nI 2)) else N r := by rw [r_88, e]
    have hN1 := hN_W hN (a := h) (x := N h &&& (-(nI 2))) (fun i hi => n6 i (bB_a.mp hi).1)
    by_cases o12 : o = 12
    · subst o12
      refine w_pa12 hA (gQ_cm K (gG_s g2 (gG_88 g2.2.1 a (nI 33))) (hN_W hN1 (a := a) (x := nI 33) (fun i hi => by rw [bB_33] at hi; omega)) (by rw [r_88, e88]) l1 (st := fW (fW (nB N) h (fN (bB (N h)))) a (fun b => b = 0 ∨ b = 5)) (by rw [nB_W hA.2, bB_33, e1]) (fCm_w (fun i hi => fW_m sub (fun b _ h => h) hi) (r5 rfl)) (fun Y _ hY dY cY => all Y hY dY.1.1 (fun _ => ⟨fun u => absurd rfl u, fun _ => cY⟩)))
    · exact w_pa392 o (by omega) (gQ_cm K g2 hN1 e88 l1 e1 (fCm_w sub (r4 o12)) (fun Y _ hY dY cY => all Y hY dY.1 (fun _ => ⟨fun _ => cY, fun u => absurd u o12⟩)))
  -- the faults of what isn't null
  have t323 : ∀ (s : pz_Sg) (D : fX → Prop), gG F nm X σ s D → s.1 88 = N → (∀ Y, Y 1 m l = nB N → D Y → (bB (N h) 0 → fTh F Y m l 3) ∧ fTo Y k m (fun q => q = p ∧ p < 25) (bB (N h))) → pz_WP 140 (323, [some (.ref 55), some (.int (nI m)), some (.int (nI l)), none, none, some (.int (nI o)), some (.int A), some (.int B), some (.int C), some (.int 1), some (.int (nI h)), none], []) s (gQ F nm X m l N o a b c σ) := by
    intro s D g e hD
    refine pv_140_323 _ _ _ _ _ _ _ _ s _ ?_
    rw [ch, e]
    refine ⟨vh, fun z => t364 s D g e (fun Y hY dY => ⟨(hD Y hY dY).1, fun q => absurd q (bB_so1z.mp z)⟩), fun z => ?_⟩
    have q : ∃ i, fN (bB (N h)) i := Classical.not_not.mp fun u => z (bB_so1z.mpr u)
    obtain ⟨-, r5, r4, -, -⟩ := R.2 (q.imp fun i hi => ⟨hi.1, hSX h i hh hi.2⟩)
    have two : it → ∃ Q : pz_Ps, pz_WP 134 (0, pz_en 5 [.ref 55, .int (nI m), .int (nI l), .int (nI 4)], []) s Q ∧ ∀ σ1, Q none σ1 → ∃ Q : pz_Ps, pz_WP 134 (0, pz_en 5 [.ref 55, .int (nI m), .int (nI l), .int (nI 5)], []) σ1 Q ∧ ∀ σ2, Q none σ2 → pz_WP 140 (364, [some (.ref 55), some (.int (nI m)), some (.int (nI l)), none, none, some (.int (nI o)), some (.int A), some (.int B), some (.int C), some (.int 1), some (.int (nI h)), none], []) σ2 (gQ F nm X m l N o a b c σ) := fun i => by
      have g1 := gG_ft K g.2.1 e (f := 4) (by decide) (r4 i)
      have e1 : (gthr F s m l 4 (s.1 88)).1 88 = N := gthr_88.trans e
      have g2 := gG_ft K g1.2.1 e1 (f := 5) (by decide) r5
      exact pz_kv (w_ft K g.2.1 (by decide)) (pz_kv (w_ft K g1.2.1 (by decide)) (t364 _ _ (gG_s g (gG_s g1 g2)) (gthr_88.trans e1) (fun Y hY dY => ⟨(hD Y hY dY.1).1, fun _ => ⟨(hD Y hY dY.1).2, dY.2.2 hY, fun _ => dY.2.1 hY⟩⟩)))
    refine ⟨fun y => two (hit.mpr (Or.inl ((nI_eq (by omega) (by decide)).mp y))), fun y => ⟨fun y2 => two (hit.mpr (Or.inr ((nI_eq (by omega) (by decide)).mp y2))), fun y2 => ?_⟩⟩
    have ni : ¬ it := fun i => (hit.mp i).elim (fun q => y (by rw [q])) (fun q => y2 (by rw [q]))
    have g2 := gG_ft K g.2.1 e (f := 5) (by decide) r5
    exact pz_kv (w_ft K g.2.1 (by decide)) (t364 _ _ (gG_s g g2) (gthr_88.trans e) (fun Y hY dY => ⟨(hD Y hY dY.1).1, fun _ => ⟨(hD Y hY dY.1).2, dY.2 hY, fun i => absurd i ni⟩⟩))
  refine pv_140_298 _ _ _ _ _ _ _ _ s _ ?_
  rw [ch, e]
  refine ⟨fun z => absurd z (by decide), fun _ => ⟨vh, fun z => ?_, fun z => t323 s D g e (fun Y hY dY => ⟨fun q => absurd (bB_b0.mpr q) z, hD Y dY⟩)⟩⟩
  have g2 := gG_ft K g.2.1 e (f := 3) (by decide) (R.1 (hSX h 0 hh (bB_b0.mp z)))
  exact pz_kv (w_ft K g.2.1 (by decide)) (t323 _ _ (gG_s g g2) (gthr_88.trans e) (fun Y hY dY => ⟨fun _ => dY.2 hY, hD Y dY.1⟩))
theorem bB_24' : bB (nI 16777216) = fun i => i = 24 := bB_of (by decide +kernel) (fun i h => by omega)
theorem w_paM {F : iv_F} {nt nf ns nm : Nat} {X : fX} {m l : Nat} {N : Nat → Int32} (K : gK F nt nf ns nm X m l N) {o a b c : Nat} {A B C : Int32} (ho : (10 ≤ o ∧ o ≤ 15) ∨ o = 20) (hA : A = nI a ∧ a < 8) (hB : B = nI b ∧ b < 8) (hC : 10 ≤ o → o ≤ 13 → C = nI c ∧ c < 16) (R : fRo F X m l a b c o) {σ s : pz_Sg} {D : fX → Prop} (g : gG F nm X σ s D) (e : s.1 88 = N) : pz_WP 140 (144, [some (.ref 55), some (.int (nI m)), some (.int (nI l)), none, none, some (.int (nI o)), some (.int A), some (.int B), some (.int C), none, none, none], []) s (gQ F nm X m l N o a b c σ) := by
  obtain ⟨l1, l24, m10⟩ := gms24 K
  have hN := K.2.2.2
  have H := g.2.1
  have hSX : ∀ r i, r < 8 → bB (N r) i → fL (X 1 m l) r i := fun r i hr hi => fL_m K.2.2.1 (by rw [eL hN hr]; exact hi)
  have t184 : pz_WP 140 (184, [some (.ref 55), some (.int (nI m)), some (.int (nI l)), none, none, some (.int (nI o)), some (.int A), some (.int B), some (.int C), some (.int 1), none, none], []) s (gQ F nm X m l N o a b c σ) → pz_WP 140 (144, [some (.ref 55), some (.int (nI m)), some (.int (nI l)), none, none, some (.int (nI o)), some (.int A), some (.int B), some (.int C), none, none, none], []) s (gQ F nm X m l N o a b c σ) := fun h => by
    have t170 : pz_WP 140 (170, [some (.ref 55), some (.int (nI m)), some (.int (nI l)), none, none, some (.int (nI o)), some (.int A), some (.int B), some (.int C), none, none, none], [.int 1]) s (gQ F nm X m l N o a b c σ) := pv_140_170 _ _ _ _ _ _ _ s _ ⟨fun z => absurd z (by decide), fun _ => h⟩
    have t158 : o = 20 → pz_WP 140 (158, [some (.ref 55), some (.int (nI m)), some (.int (nI l)), none, none, some (.int (nI o)), some (.int A), some (.int B), some (.int C), none, none, none], []) s (gQ F nm X m l N o a b c σ) := fun q => pv_140_158 _ _ _ _ _ _ s _ ⟨fun _ => t170, fun z => absurd (by rw [q]) z⟩
    refine pv_140_144 _ _ _ _ _ _ s _ ⟨fun z => absurd ((nI_ltI (by omega) (by decide)).mp z) (by omega), fun _ => ⟨fun _ => t170, fun z => t158 ?_⟩⟩
    exact ho.resolve_left fun q => z ((nI_leI (by omega) (by decide)).mpr q.2)
  refine t184 ?_
  -- touched or not, then the rest
  have tch : ∀ (h k p ce : Nat) (wr : Int32) (it : Prop), h < 8 → ((wr = 0 ∧ ce = 86 ∧ k = 6) ∨ (wr = 1 ∧ ce = 87 ∧ k = 7)) → (it ↔ o = 14 ∨ o = 15) → fPa F X m l h k p it (o = 12) a → (∀ Y : fX, fPa F Y m l h k p it (o = 12) a → fRo F Y m l a b c o) → ((o = 20 ∧ p = 25) ∨ (¬ o = 20 ∧ p < 25 ∧ (it → p = 24) ∧ (¬ it → C = nI p))) → pz_WP 140 (247, [some (.ref 55), some (.int (nI m)), some (.int (nI l)), none, none, some (.int (nI o)), some (.int A), some (.int B), some (.int C), some (.int 1), some (.int (nI h)), none], [.int wr]) s (gQ F nm X m l N o a b c σ) := by
    intro h k p ce wr it hh hw hit R hY0 hp
    have vh : vp_in (nI h) 8 := vp_in_nI hh (by decide)
    have ch : (nI h).toNatClampNeg = h := nI_clamp (by omega)
    refine pv_140_247 _ _ _ _ _ _ _ _ _ s _ ?_
    rw [ch, e]
    refine ⟨fun z => absurd z (by decide), fun _ => ?_⟩
    rcases hp with ⟨o20, p25⟩ | ⟨o20, pb, pi, pn⟩
    · exact ⟨fun _ => w_pa298 K ho hA hh hit R hY0 g e (fun Y _ w' _ _ q hq => absurd hq.2 (by omega)), fun z => absurd (by rw [o20]) z⟩
    · refine ⟨fun z => absurd ((nI_eq (by omega) (by decide)).mp z) o20, fun _ => ?_⟩
      have go : ∀ pl : Int32, bB pl = (fun i => i = p) → ∃ Q : pz_Ps, pz_WP 135 (0, pz_en 8 [.ref 55, .int (nI m), .int wr, .int pl, .int (N h)], []) s Q ∧ ∀ σ1, Q none σ1 → pz_WP 140 (298, [some (.ref 55), some (.int (nI m)), some (.int (nI l)), none, none, some (.int (nI o)), some (.int A), some (.int B), some (.int C), some (.int 1), some (.int (nI h)), none], []) σ1 (gQ F nm X m l N o a b c σ) := by
        intro pl hpl
        have rT : fTo X k m (fun i => i = p) (bB (N h)) := fun w' hw' y q hq => (R.2 ⟨w' + 2, by omega, hSX h _ hh y⟩).1 w' hw' (hSX h _ hh y) q ⟨hq, pb⟩
        have g2 := gG_touch H (a := ce) (k := k) (hw.imp (fun q => q.2) (fun q => q.2)) m10 hpl rfl rT
        refine pz_kv (w_touchM (a := ce) m10 H.2.2.2.2.2 (hw.imp (fun q => ⟨q.1, q.2.1⟩) (fun q => ⟨q.1, q.2.1⟩)) pl (N h)) (w_pa298 K ho hA hh hit R hY0 (gG_s g g2) ((gtouch_88 (hw.imp (fun q => q.2.1) (fun q => q.2.1))).trans e) (fun Y dY w' hw' y q hq => dY.2 w' hw' y q hq.1))
      refine ⟨fun z => ⟨vh, go _ ?_⟩, fun z => ⟨fun z2 => ⟨vh, go _ ?_⟩, fun z2 => ⟨vh, go _ ?_⟩⟩⟩
      · rw [bB_24', pi (hit.mpr (Or.inl ((nI_eq (by omega) (by decide)).mp z)))]
      · rw [bB_24', pi (hit.mpr (Or.inr ((nI_eq (by omega) (by decide)).mp z2)))]
      · rw [pn (fun i => (hit.mp i).elim (fun q => z (by rw [q])) (fun q => z2 (by rw [q])))]
        exact bB_sh (by omega)
  have ho' : o = 10 ∨ o = 11 ∨ o = 12 ∨ o = 13 ∨ o = 14 ∨ o = 15 ∨ o = 20 := by omega
  rcases ho' with rfl | rfl | rfl | rfl | rfl | rfl | rfl
  · have e12 : (10 = 12) = False := by simp
    have go := tch b 6 c 86 0 False hB.2 (Or.inl ⟨rfl, rfl, rfl⟩) ⟨fun z => absurd z id, fun z => absurd z (by decide)⟩ (by rw [e12]; exact R) (fun Y hY => by rw [e12] at hY; exact hY) (Or.inr ⟨by decide, by have := (hC (by decide) (by decide)).2; omega, fun z => absurd z id, fun _ => (hC (by decide) (by decide)).1⟩)
    refine pv_140_184 _ _ _ _ _ _ _ s _ ⟨fun z => absurd z (by decide), fun _ => ⟨fun z => absurd z (by decide), fun _ => ⟨fun z => absurd z (by decide), fun _ => ⟨fun z => absurd z (by decide), fun _ => ?_⟩⟩⟩⟩
    rw [hB.1]
    rw [hB.1] at go
    exact pv_140_219 _ _ _ _ _ _ _ _ s _ ⟨fun z => absurd z (by decide), fun _ => ⟨fun z => absurd z (by decide), fun _ => ⟨fun z => absurd z (by decide), fun _ => go⟩⟩⟩
  · have e12 : (11 = 12) = False := by simp
    have go := tch a 7 c 87 1 False hA.2 (Or.inr ⟨rfl, rfl, rfl⟩) ⟨fun z => absurd z id, fun z => absurd z (by decide)⟩ (by rw [e12]; exact R) (fun Y hY => by rw [e12] at hY; exact hY) (Or.inr ⟨by decide, by have := (hC (by decide) (by decide)).2; omega, fun z => absurd z id, fun _ => (hC (by decide) (by decide)).1⟩)
    refine pv_140_184 _ _ _ _ _ _ _ s _ ⟨fun _ => ?_, fun z => absurd rfl z⟩
    rw [hA.1]
    rw [hA.1] at go
    exact pv_140_219 _ _ _ _ _ _ _ _ s _ ⟨fun _ => go, fun z => absurd rfl z⟩
  · have e12 : (12 = 12) = True := by simp
    have go := tch b 6 c 86 0 False hB.2 (Or.inl ⟨rfl, rfl, rfl⟩) ⟨fun z => absurd z id, fun z => absurd z (by decide)⟩ (by rw [e12]; exact R) (fun Y hY => by rw [e12] at hY; exact hY) (Or.inr ⟨by decide, by have := (hC (by decide) (by decide)).2; omega, fun z => absurd z id, fun _ => (hC (by decide) (by decide)).1⟩)
    refine pv_140_184 _ _ _ _ _ _ _ s _ ⟨fun z => absurd z (by decide), fun _ => ⟨fun z => absurd z (by decide), fun _ => ⟨fun z => absurd z (by decide), fun _ => ⟨fun z => absurd z (by decide), fun _ => ?_⟩⟩⟩⟩
    rw [hB.1]
    rw [hB.1] at go
    exact pv_140_219 _ _ _ _ _ _ _ _ s _ ⟨fun z => absurd z (by decide), fun _ => ⟨fun z => absurd z (by decide), fun _ => ⟨fun z => absurd z (by decide), fun _ => go⟩⟩⟩
  · have e12 : (13 = 12) = False := by simp
    have go := tch a 7 c 87 1 False hA.2 (Or.inr ⟨rfl, rfl, rfl⟩) ⟨fun z => absurd z id, fun z => absurd z (by decide)⟩ (by rw [e12]; exact R) (fun Y hY => by rw [e12] at hY; exact hY) (Or.inr ⟨by decide, by have := (hC (by decide) (by decide)).2; omega, fun z => absurd z id, fun _ => (hC (by decide) (by decide)).1⟩)
    refine pv_140_184 _ _ _ _ _ _ _ s _ ⟨fun z => absurd z (by decide), fun _ => ⟨fun _ => ?_, fun z => absurd rfl z⟩⟩
    rw [hA.1]
    rw [hA.1] at go
    exact pv_140_219 _ _ _ _ _ _ _ _ s _ ⟨fun z => absurd z (by decide), fun _ => ⟨fun _ => go, fun z => absurd rfl z⟩⟩
  · have e12 : (14 = 12) = False := by simp
    have go := tch b 6 24 86 0 True hB.2 (Or.inl ⟨rfl, rfl, rfl⟩) ⟨fun _ => by decide, fun _ => trivial⟩ (by rw [e12]; exact R) (fun Y hY => by rw [e12] at hY; exact hY) (Or.inr ⟨by decide, by decide, fun _ => rfl, fun z => absurd trivial z⟩)
    refine pv_140_184 _ _ _ _ _ _ _ s _ ⟨fun z => absurd z (by decide), fun _ => ⟨fun z => absurd z (by decide), fun _ => ⟨fun z => absurd z (by decide), fun _ => ⟨fun z => absurd z (by decide), fun _ => ?_⟩⟩⟩⟩
    rw [hB.1]
    rw [hB.1] at go
    exact pv_140_219 _ _ _ _ _ _ _ _ s _ ⟨fun z => absurd z (by decide), fun _ => ⟨fun z => absurd z (by decide), fun _ => ⟨fun z => absurd z (by decide), fun _ => go⟩⟩⟩
  · have e12 : (15 = 12) = False := by simp
    have go := tch a 7 24 87 1 True hA.2 (Or.inr ⟨rfl, rfl, rfl⟩) ⟨fun _ => by decide, fun _ => trivial⟩ (by rw [e12]; exact R) (fun Y hY => by rw [e12] at hY; exact hY) (Or.inr ⟨by decide, by decide, fun _ => rfl, fun z => absurd trivial z⟩)
    refine pv_140_184 _ _ _ _ _ _ _ s _ ⟨fun z => absurd z (by decide), fun _ => ⟨fun z => absurd z (by decide), fun _ => ⟨fun _ => ?_, fun z => absurd rfl z⟩⟩⟩
    rw [hA.1]
    rw [hA.1] at go
    exact pv_140_219 _ _ _ _ _ _ _ _ s _ ⟨fun z => absurd z (by decide), fun _ => ⟨fun z => absurd z (by decide), fun _ => ⟨fun _ => go, fun z => absurd rfl z⟩⟩⟩
  · have e12 : (20 = 12) = False := by simp
    have go := tch b 6 25 86 0 False hB.2 (Or.inl ⟨rfl, rfl, rfl⟩) ⟨fun z => absurd z id, fun z => absurd z (by decide)⟩ (by rw [e12]; exact R) (fun Y hY => by rw [e12] at hY; exact hY) (Or.inl ⟨rfl, rfl⟩)
    refine pv_140_184 _ _ _ _ _ _ _ s _ ⟨fun z => absurd z (by decide), fun _ => ⟨fun z => absurd z (by decide), fun _ => ⟨fun z => absurd z (by decide), fun _ => ⟨fun z => absurd z (by decide), fun _ => ?_⟩⟩⟩⟩
    rw [hB.1]
    rw [hB.1] at go
    exact pv_140_219 _ _ _ _ _ _ _ _ s _ ⟨fun z => absurd z (by decide), fun _ => ⟨fun z => absurd z (by decide), fun _ => ⟨fun z => absurd z (by decide), fun _ => go⟩⟩⟩
theorem w_ck {F : iv_F} {nt nf ns nm : Nat} {X : fX} {m l : Nat} {N : Nat → Int32} (K : gK F nt nf ns nm X m l N) {a b c : Nat} {A B C : Int32} (hA : A = nI a ∧ a < 8) (R : fRo F X m l a b c 29) {σ s : pz_Sg} {D : fX → Prop} (g : gG F nm X σ s D) (e : s.1 88 = N) : pz_WP 140 (144, [some (.ref 55), some (.int (nI m)), some (.int (nI l)), none, none, some (.int (nI 29)), some (.int A), some (.int B), some (.int C), none, none, none], []) s (gQ F nm X m l N 29 a b c σ) := by
  obtain ⟨l1, l24, m10⟩ := gms24 K
  have hN := K.2.2.2
  have H := g.2.1
  have hSX : ∀ r i, r < 8 → bB (N r) i → fL (X 1 m l) r i := fun r i hr hi => fL_m K.2.2.1 (by rw [eL hN hr]; exact hi)
  have va : vp_in (nI a) 8 := vp_in_nI hA.2 (by decide)
  have ca : (nI a).toNatClampNeg = a := nI_clamp (by omega)
  have t364 : ∀ (s : pz_Sg) (D : fX → Prop), gG F nm X σ s D → s.1 88 = N → (∀ Y, Y 1 m l = nB N → D Y → ((∃ i, fN (bB (N a)) i) → fTh F Y m l 5)) → pz_WP 140 (364, [some (.ref 55), some (.int (nI m)), some (.int (nI l)), none, none, some (.int (nI 29)), some (.int A), some (.int B), some (.int C), some (.int 0), some (.int (nI a)), none], []) s (gQ F nm X m l N 29 a b c σ) := by
    intro s D g e hD
    refine pv_140_364 _ _ _ _ _ _ _ _ s _ ⟨fun _ => w_pa392 29 (by decide) (gQ_cm K g hN e l1 rfl (fCm_w K.2.2.1 R.2) (fun Y _ hY dY cY => ?_)), fun z => absurd rfl z⟩
    show ((∃ i, fN (fL (Y 1 m l) a) i) → fTh F Y m l 5) ∧ fCm F Y m (l + 1) (Y 1 m l)
    have h5 := hD Y hY dY
    rw [hY, eL hN hA.2]
    exact ⟨h5, cY⟩
  have t323 : pz_WP 140 (323, [some (.ref 55), some (.int (nI m)), some (.int (nI l)), none, none, some (.int (nI 29)), some (.int A), some (.int B), some (.int C), some (.int 0), some (.int (nI a)), none], []) s (gQ F nm X m l N 29 a b c σ) := by
    refine pv_140_323 _ _ _ _ _ _ _ _ s _ ?_
    rw [ca, e]
    refine ⟨va, fun z => t364 s D g e (fun Y _ _ q => absurd q (bB_so1z.mp z)), fun z => ⟨fun y => absurd y (by decide), fun _ => ⟨fun y => absurd y (by decide), fun _ => ?_⟩⟩⟩
    have q : ∃ i, fN (bB (N a)) i := Classical.not_not.mp fun u => z (bB_so1z.mpr u)
    have g2 := gG_ft K H e (f := 5) (by decide) (R.1 (q.imp fun i hi => ⟨hi.1, hSX a i hA.2 hi.2⟩))
    exact pz_kv (w_ft K H (by decide)) (t364 _ _ (gG_s g g2) (gthr_88.trans e) (fun Y hY dY _ => dY.2 hY))
  have t247 : pz_WP 140 (247, [some (.ref 55), some (.int (nI m)), some (.int (nI l)), none, none, some (.int (nI 29)), some (.int A), some (.int B), some (.int C), some (.int 0), some (.int (nI a)), none], [.int 0]) s (gQ F nm X m l N 29 a b c σ) := pv_140_247 _ _ _ _ _ _ _ _ _ s _ ⟨fun _ => pv_140_298 _ _ _ _ _ _ _ _ s _ ⟨fun _ => t323, fun z => absurd rfl z⟩, fun z => absurd rfl z⟩
  have t184 : pz_WP 140 (184, [some (.ref 55), some (.int (nI m)), some (.int (nI l)), none, none, some (.int (nI 29)), some (.int A), some (.int B), some (.int C), some (.int 0), none, none], []) s (gQ F nm X m l N 29 a b c σ) := by
    refine pv_140_184 _ _ _ _ _ _ _ s _ ⟨fun z => absurd z (by decide), fun _ => ⟨fun z => absurd z (by decide), fun _ => ⟨fun z => absurd z (by decide), fun _ => ⟨fun _ => ?_, fun z => absurd rfl z⟩⟩⟩⟩
    have t := t247
    rw [hA.1] at t ⊢
    exact pv_140_219 _ _ _ _ _ _ _ _ s _ ⟨fun z => absurd z (by decide), fun _ => ⟨fun z => absurd z (by decide), fun _ => ⟨fun z => absurd z (by decide), fun _ => t⟩⟩⟩
  refine pv_140_144 _ _ _ _ _ _ s _ ⟨fun z => absurd z (by decide), fun _ => ⟨fun z => absurd z (by decide), fun _ => ?_⟩⟩
  refine pv_140_158 _ _ _ _ _ _ s _ ⟨fun z => absurd z (by decide), fun _ => ?_⟩
  exact pv_140_170 _ _ _ _ _ _ _ s _ ⟨fun _ => ⟨fun _ => t184, fun z => absurd rfl z⟩, fun z => absurd rfl z⟩
