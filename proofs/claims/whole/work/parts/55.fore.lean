/-! ===== weighPart ===== -/
theorem bB_8 : bB (nI 8) = fun i => i = 3 := bB_of (by decide +kernel) (fun i h => by omega)
theorem bB_16 : bB (nI 16) = fun i => i = 4 := bB_of (by decide +kernel) (fun i h => by omega)
theorem bB_o {x y : Int32} {i : Nat} : bB (x ||| y) i ↔ bB x i ∨ bB y i := by
  show bt _ i = true ↔ _
  rw [b_or, Bool.or_eq_true]
  exact Iff.rfl
theorem bB_24 : bB ((1 : Int32) <<< (nI 24 &&& 31)) = fun i => i = 24 := bB_sh (by decide)
/-- behind the test of the holder: x is what it may be but null -/
theorem w_part1 {F : iv_F} {nt nf ns nm : Nat} {X : fX} {m l : Nat} {w : Int64} (K : fK F nt nf ns nm X m l w) {σ : pz_Sg} (H : fI F nm X σ) {o a h : Nat} (hh : h < 8) (ha : o = 12 → F 11 (24 * m + l) = nI a ∧ a < 8) {it : Prop} {v8 s0 : Int32} (h8 : v8 = 0 ↔ ¬ it) (hs : ∀ f, bB s0 f ↔ f = 3 ∧ fL (qB w) h 0) (hne : ∃ i, fN (fL (qB w) h) i) (R4 : ¬ o = 12 → fCm F X m (l + 1) (fW (X 1 m l) h (fN (fL (X 1 m l) h)))) (R5 : o = 12 → fCm F X m (l + 1) (fW (fW (X 1 m l) h (fN (fL (X 1 m l) h))) a (fun b => b = 0 ∨ b = 5))) (ho : o < 32) : pz_WP 21 (189, [some (.ref 31), some (.int (nI m)), some (.int (nI l)), some (.long w), none, some (.int (nI (24 * m + l))), some (.int (nI o)), none, some (.int v8), some (.int (nI h)), none, some (.int (iv_my w h &&& (-(nI 2)))), some (.int s0), none, none], []) σ (fun v σ' => ∃ th, v = some (.int th) ∧ (∀ f, bB th f ↔ (f = 3 ∧ fL (qB w) h 0) ∨ f = 5 ∨ (f = 4 ∧ it)) ∧ ∃ C : fX → Prop, fG F nm X σ σ' C ∧ ∀ Y, C Y → (¬ o = 12 → fCm F Y m (l + 1) (fW (qB w) h (fN (fL (qB w) h)))) ∧ (o = 12 → fCm F Y m (l + 1) (fW (fW (qB w) h (fN (fL (qB w) h))) a (fun b => b = 0 ∨ b = 5)))) := by
  have bm := K.1.1.2.2.2
  have bl := fP_L' K.1 m K.2.1.1
  have hl := K.2.1.2
  have hm := K.2.1.1
  obtain ⟨ix, cx, vx⟩ := fix24 (m := m) (l := l) (by omega) (by omega)
  have eW : qB (qw w h (iv_my w h &&& (-(nI 2)))) = fW (qB w) h (fN (fL (qB w) h)) := by rw [qw_B hh (fun i hi => by rw [bB_so hh] at hi; exact hi.2.1), bB_so hh]
  have hX1 : ∀ i, fL (qB w) h i → fL (X 1 m l) h i := fun i hi => fL_m K.2.2.1 hi
  have fin : ∀ (w2 : Int64) (C : fX → Prop), fG F nm X σ (freach F σ m (l + 1) w2) C → (∀ Y, C Y → (¬ o = 12 → fCm F Y m (l + 1) (fW (qB w) h (fN (fL (qB w) h)))) ∧ (o = 12 → fCm F Y m (l + 1) (fW (fW (qB w) h (fN (fL (qB w) h))) a (fun b => b = 0 ∨ b = 5)))) → pz_WP 21 (233, [none, none, none, none, none, none, none, none, some (.int v8), none, none, none, some (.int s0), none, none], [.long w2, .int (nI (l + 1)), .int (nI m), .ref 31]) σ (fun v σ' => ∃ th, v = some (.int th) ∧ (∀ f, bB th f ↔ (f = 3 ∧ fL (qB w) h 0) ∨ f = 5 ∨ (f = 4 ∧ it)) ∧ ∃ C : fX → Prop, fG F nm X σ σ' C ∧ ∀ Y, C Y → (¬ o = 12 → fCm F Y m (l + 1) (fW (qB w) h (fN (fL (qB w) h)))) ∧ (o = 12 → fCm F Y m (l + 1) (fW (fW (qB w) h (fN (fL (qB w) h))) a (fun b => b = 0 ∨ b = 5)))) := by
    intro w2 C g hC
    refine pv_21_233 _ _ _ _ _ σ _ (pz_kv (w_rc K H w2) ⟨fun z => ⟨_, rfl, fun f => ?_, C, g, hC⟩, fun z => ⟨_, rfl, fun f => ?_, C, g, hC⟩⟩)
    · rw [bB_o, bB_o, hs, bB_32]
      have := h8.mp z
      exact ⟨fun y => y.elim (fun y => y.elim Or.inl (fun y => Or.inr (Or.inl y))) (fun y => absurd y bB_n), fun y => y.elim (fun y => Or.inl (Or.inl y)) (fun y => y.elim (fun y => Or.inl (Or.inr y)) (fun y => absurd y.2 this))⟩
    · rw [bB_o, bB_o, hs, bB_32, bB_16]
      have : it := Classical.not_not.mp fun y => z (h8.mpr y)
      exact ⟨fun y => y.elim (fun y => y.elim Or.inl (fun y => Or.inr (Or.inl y))) (fun y => Or.inr (Or.inr ⟨y, this⟩)), fun y => y.elim (fun y => Or.inl (Or.inl y)) (fun y => y.elim (fun y => Or.inl (Or.inr y)) (fun y => Or.inr y.1))⟩
  refine pv_21_189 _ _ _ _ _ _ _ _ _ σ _ (pz_kl (w_with w h _ σ) ?_)
  rw [cx, H.1 11 rfl, nI_1]
  refine ⟨fun z => ⟨vx, ?_⟩, fun z => ?_⟩
  · have o12 : o = 12 := (nI_eq (by omega) (by decide)).mp z
    have hA := ha o12
    rw [hA.1]
    refine pz_kl (w_with _ a (nI 33) σ) (fin _ (fun Y => fCm F Y m (l + 1) (fW (fW (qB w) h (fN (fL (qB w) h))) a (fun b => b = 0 ∨ b = 5))) ?_ (fun Y hY => ⟨fun y => absurd o12 y, fun _ => hY⟩))
    have e2 : qB (qw (qw w h (iv_my w h &&& (-(nI 2)))) a (nI 33)) = fW (fW (qB w) h (fN (fL (qB w) h))) a (fun b => b = 0 ∨ b = 5) := by rw [qw_B hA.2 (fun i hi => by rw [bB_33] at hi; omega), bB_33, eW]
    rw [← e2]
    refine fG_reach bm (fP_L' K.1) H hm (fCm_w (fun i hi => ?_) (R5 o12)) ?_
    · rw [e2] at hi
      exact fW_m (fun i hi => fW_m K.2.2.1 (fun b _ hb => fN_m hX1 hb) hi) (fun b _ hb => hb) hi
    · rw [e2]
      exact fZ_W (fZ_W K.2.2.2 (hne.imp fun i hi => ⟨hi.2.1, hi⟩)) ⟨0, by decide, Or.inl rfl⟩
  · have o12 : ¬ o = 12 := fun e => z (by rw [e])
    refine fin _ (fun Y => fCm F Y m (l + 1) (fW (qB w) h (fN (fL (qB w) h)))) ?_ (fun Y hY => ⟨fun _ => hY, fun y => absurd y o12⟩)
    exact fG_rw K H hh (bB_so hh) (fun i hi => hi.2.1) hne (fun i hi => fN_m hX1 hi) (R4 o12)
theorem w_part {F : iv_F} {nt nf ns nm : Nat} {X : fX} {m l : Nat} {w : Int64} (K : fK F nt nf ns nm X m l w) {σ : pz_Sg} (H : fI F nm X σ) {o a b c : Nat} (e10 : F 10 (24 * m + l) = nI o) (ho : (10 ≤ o ∧ o ≤ 15) ∨ o = 20) (ha : F 11 (24 * m + l) = nI a ∧ a < 8) (hb : F 12 (24 * m + l) = nI b ∧ b < 8) (hc : 10 ≤ o → o ≤ 13 → F 13 (24 * m + l) = nI c ∧ c < 16) (R : fRo F X m l a b c o) : pz_WP 21 (0, pz_en 15 [.ref 31, .int (nI m), .int (nI l), .long w], []) σ (fQ F nm X m l w o a b c σ) := by
  have bm := K.1.1.2.2.2
  have bl := fP_L' K.1 m K.2.1.1
  have hl := K.2.1.2
  have hm := K.2.1.1
  have m10 : m < 10 := by omega
  obtain ⟨ix, cx, vx⟩ := fix24 (m := m) (l := l) (by omega) (by omega)
  have s10 : σ.1 10 = F 10 := H.1 10 rfl
  have s11 : σ.1 11 = F 11 := H.1 11 rfl
  have s12 : σ.1 12 = F 12 := H.1 12 rfl
  have s13 : σ.1 13 = F 13 := H.1 13 rfl
  -- all behind the choice of the holder h, by what is read or written
  have main : ∀ (h k p : Nat) (it : Prop) (v7 v8 : Int32), h < 8 → ((v7 = 0 ∧ k = 6) ∨ (v7 = 1 ∧ k = 7)) → (v8 = 0 ↔ ¬ it) → (∀ Y : fX, fPa F Y m l h k p it (o = 12) a → fRo F Y m l a b c o) → fPa F X m l h k p it (o = 12) a → ((o = 20 ∧ p = 25 ∧ ¬ it) ∨ (¬ o = 20 ∧ p < 25 ∧ (it → p = 24) ∧ (¬ it → F 13 (24 * m + l) = nI p))) → pz_WP 21 (97, [some (.ref 31), some (.int (nI m)), some (.int (nI l)), some (.long w), none, some (.int (nI (24 * m + l))), some (.int (nI o)), some (.int v7), some (.int v8), none, none, none, none, none, none], [.int (nI h)]) σ (fQ F nm X m l w o a b c σ) := by
    intro h k p it v7 v8 hh h7 h8 hY0 R hp
    have hX1 : ∀ i, fL (qB w) h i → fL (X 1 m l) h i := fun i hi => fL_m K.2.2.1 hi
    have tail : ∀ s0 : Int32, (∀ f, bB s0 f ↔ f = 3 ∧ fL (qB w) h 0) → pz_WP 21 (127, [some (.ref 31), some (.int (nI m)), some (.int (nI l)), some (.long w), none, some (.int (nI (24 * m + l))), some (.int (nI o)), some (.int v7), some (.int v8), some (.int (nI h)), none, some (.int (iv_my w h &&& (-(nI 2)))), none, none, none], [.int s0]) σ (fQ F nm X m l w o a b c σ) := by
      intro s0 hs
      refine pv_21_127 _ _ _ _ _ _ _ _ _ _ σ _ ⟨fun z => ?_, fun z => ?_⟩
      · -- nothing but null
        have no := (bB_soz hh).mp z
        refine ⟨s0, rfl, fun f f1 f2 y => ?_, _, fG_r H, fun Y hY _ tY => hY0 Y ?_⟩
        · obtain ⟨rfl, y2⟩ := (hs f).mp y
          exact R.1 (hX1 0 y2)
        · refine ⟨fun y => tY 3 (by decide) (by decide) ((hs 3).mpr ⟨rfl, by rw [hY] at y; exact y⟩), fun y => absurd (by rw [hY] at y; exact y) no⟩
      · have hne : ∃ i, fN (fL (qB w) h) i := Classical.not_not.mp fun y => z ((bB_soz hh).mpr y)
        obtain ⟨rT, r5, r4, rn, ry⟩ := R.2 (hne.imp fun i hi => fN_m hX1 hi)
        -- the end of it, behind what was touched
        have last : ∀ (s : pz_Sg) (D : fX → Prop), fG F nm X σ s D → (∀ Y, D Y → fTo Y k m (fun q => q = p ∧ p < 25) (fL (qB w) h)) → pz_WP 21 (189, [some (.ref 31), some (.int (nI m)), some (.int (nI l)), some (.long w), none, some (.int (nI (24 * m + l))), some (.int (nI o)), none, some (.int v8), some (.int (nI h)), none, some (.int (iv_my w h &&& (-(nI 2)))), some (.int s0), none, none], []) s (fQ F nm X m l w o a b c σ) := by
          intro s D g hD
          refine pz_conseq (w_part1 K g.2.1 hh (fun _ => ha) h8 hs hne rn ry (by omega)) ?_
          rintro v σ' ⟨th, rfl, ht, C, hC, hh'⟩
          refine ⟨th, rfl, fun f f1 f2 y => ?_, _, fG_s g hC, fun Y hY cY tY => hY0 Y ?_⟩
          · rcases (ht f).mp y with ⟨rfl, y2⟩ | rfl | ⟨rfl, y2⟩
            · exact R.1 (hX1 0 y2)
            · exact r5
            · exact r4 y2
          · unfold fPa
            rw [hY]
            exact ⟨fun y => tY 3 (by decide) (by decide) ((ht 3).mpr (Or.inl ⟨rfl, y⟩)), fun _ => ⟨hD Y cY.1, tY 5 (by decide) (by decide) ((ht 5).mpr (Or.inr (Or.inl rfl))), fun y => tY 4 (by decide) (by decide) ((ht 4).mpr (Or.inr (Or.inr ⟨rfl, y⟩))), (hh' Y cY.2).1, (hh' Y cY.2).2⟩⟩
        have up : ∀ Y : fX, fTo Y k m (fun q => q = p) (fN (fL (qB w) h)) → fTo Y k m (fun q => q = p ∧ p < 25) (fL (qB w) h) := fun Y hY w' hw y q hq => hY w' hw ⟨by omega, y⟩ q hq.1
        have dn : p < 25 → fTo X k m (fun q => q = p) (fN (fL (qB w) h)) := fun pb w' hw y q hq => rT w' hw (hX1 _ y.2) q ⟨hq, pb⟩
        rcases hp with ⟨o20, p25, ni⟩ | ⟨o20, pb, pi, pn⟩
        · refine ⟨fun _ => last σ _ (fG_r H) (fun Y _ w' _ _ q hq => absurd hq.2 (by omega)), fun y => absurd (by rw [o20]) y⟩
        · refine ⟨fun y => absurd ((nI_eq (by omega) (by decide)).mp y) o20, fun _ => ?_⟩
          rcases h7 with ⟨rfl, rfl⟩ | ⟨rfl, rfl⟩
          · refine ⟨fun _ => ?_, fun y => absurd rfl y⟩
            refine pv_21_161 _ _ _ _ _ _ _ _ _ σ _ ⟨fun y => ⟨vx, ?_⟩, fun y => ?_⟩
            · rw [cx, s13, pn (h8.mp y)]
              have g := fG_t33 K H (bB_sh (k := p) (by omega)) (bB_so hh) (dn pb)
              exact pz_kv (w_touch33 m10 _ _) (last _ _ g up)
            · have e := pi (Classical.not_not.mp fun q => y (h8.mpr q))
              subst e
              have g := fG_t33 K H bB_24 (bB_so hh) (dn pb)
              exact pz_kv (w_touch33 m10 _ _) (last _ _ g up)
          · refine ⟨fun y => absurd y (by decide), fun _ => ?_⟩
            refine pv_21_161a _ _ _ _ _ _ _ _ _ σ _ ⟨fun y => ⟨vx, ?_⟩, fun y => ?_⟩
            · rw [cx, s13, pn (h8.mp y)]
              have g := fG_t34 K H (bB_sh (k := p) (by omega)) (bB_so hh) (dn pb)
              exact pz_kv (w_touch34 m10 _ _) (last _ _ g up)
            · have e := pi (Classical.not_not.mp fun q => y (h8.mpr q))
              subst e
              have g := fG_t34 K H bB_24 (bB_so hh) (dn pb)
              exact pz_kv (w_touch34 m10 _ _) (last _ _ g up)
    refine pv_21_97 _ _ _ _ _ _ _ _ σ _ (pz_ki (w_mayOf w h σ) ⟨fun z => tail 0 (fun f => ⟨fun y => absurd y bB_n, fun y => absurd y.2 ((bB_so0 hh).mp z)⟩), fun z => tail (nI 8) (fun f => ?_)⟩)
    rw [bB_8]
    exact ⟨fun y => ⟨y, Classical.not_not.mp fun q => z ((bB_so0 hh).mpr q)⟩, fun y => y.1⟩
  refine pv_21 _ _ _ σ _ ?_
  rw [ix, cx, s10, e10]
  have ho' : o = 10 ∨ o = 11 ∨ o = 12 ∨ o = 13 ∨ o = 14 ∨ o = 15 ∨ o = 20 := by omega
  rcases ho' with rfl | rfl | rfl | rfl | rfl | rfl | rfl
  · refine ⟨vx, fun z => absurd z (by decide), fun _ => ⟨fun z => absurd z (by decide), fun _ => ⟨fun z => absurd z (by decide), fun _ => ?_⟩⟩⟩
    refine pv_21_46 _ _ _ _ _ _ σ _ ⟨fun z => absurd z (by decide), fun _ => ⟨fun z => absurd z (by decide), fun _ => ?_⟩⟩
    refine pv_21_67 _ _ _ _ _ _ _ σ _ ?_
    rw [cx, s11, s12, ha.1, hb.1]
    have e : (10 = 12) = False := by simp
    have go := main b 6 c False 0 0 hb.2 (Or.inl ⟨rfl, rfl⟩) ⟨fun _ z => z, fun _ => rfl⟩ (fun Y hY => by rw [e] at hY; exact hY) (by rw [e]; exact R) (Or.inr ⟨by decide, by have := (hc (by decide) (by decide)).2; omega, fun z => absurd z id, fun _ => (hc (by decide) (by decide)).1⟩)
    exact ⟨fun _ => ⟨vx, go⟩, fun z => absurd rfl z⟩
  · refine ⟨vx, fun _ => ?_, fun z => absurd rfl z⟩
    refine pv_21_46 _ _ _ _ _ _ σ _ ⟨fun z => absurd z (by decide), fun _ => ⟨fun z => absurd z (by decide), fun _ => ?_⟩⟩
    refine pv_21_67 _ _ _ _ _ _ _ σ _ ?_
    rw [cx, s11, s12, ha.1, hb.1]
    have e : (11 = 12) = False := by simp
    have go := main a 7 c False 1 0 ha.2 (Or.inr ⟨rfl, rfl⟩) ⟨fun _ z => z, fun _ => rfl⟩ (fun Y hY => by rw [e] at hY; exact hY) (by rw [e]; exact R) (Or.inr ⟨by decide, by have := (hc (by decide) (by decide)).2; omega, fun z => absurd z id, fun _ => (hc (by decide) (by decide)).1⟩)
    exact ⟨fun z => absurd z (by decide), fun _ => ⟨vx, go⟩⟩
  · refine ⟨vx, fun z => absurd z (by decide), fun _ => ⟨fun z => absurd z (by decide), fun _ => ⟨fun z => absurd z (by decide), fun _ => ?_⟩⟩⟩
    refine pv_21_46 _ _ _ _ _ _ σ _ ⟨fun z => absurd z (by decide), fun _ => ⟨fun z => absurd z (by decide), fun _ => ?_⟩⟩
    refine pv_21_67 _ _ _ _ _ _ _ σ _ ?_
    rw [cx, s11, s12, ha.1, hb.1]
    have e : (12 = 12) = True := by simp
    have go := main b 6 c False 0 0 hb.2 (Or.inl ⟨rfl, rfl⟩) ⟨fun _ z => z, fun _ => rfl⟩ (fun Y hY => by rw [e] at hY; exact hY) (by rw [e]; exact R) (Or.inr ⟨by decide, by have := (hc (by decide) (by decide)).2; omega, fun z => absurd z id, fun _ => (hc (by decide) (by decide)).1⟩)
    exact ⟨fun _ => ⟨vx, go⟩, fun z => absurd rfl z⟩
  · refine ⟨vx, fun z => absurd z (by decide), fun _ => ⟨fun _ => ?_, fun z => absurd rfl z⟩⟩
    refine pv_21_46 _ _ _ _ _ _ σ _ ⟨fun z => absurd z (by decide), fun _ => ⟨fun z => absurd z (by decide), fun _ => ?_⟩⟩
    refine pv_21_67 _ _ _ _ _ _ _ σ _ ?_
    rw [cx, s11, s12, ha.1, hb.1]
    have e : (13 = 12) = False := by simp
    have go := main a 7 c False 1 0 ha.2 (Or.inr ⟨rfl, rfl⟩) ⟨fun _ z => z, fun _ => rfl⟩ (fun Y hY => by rw [e] at hY; exact hY) (by rw [e]; exact R) (Or.inr ⟨by decide, by have := (hc (by decide) (by decide)).2; omega, fun z => absurd z id, fun _ => (hc (by decide) (by decide)).1⟩)
    exact ⟨fun z => absurd z (by decide), fun _ => ⟨vx, go⟩⟩
  · refine ⟨vx, fun z => absurd z (by decide), fun _ => ⟨fun z => absurd z (by decide), fun _ => ⟨fun z => absurd z (by decide), fun _ => ?_⟩⟩⟩
    refine pv_21_46 _ _ _ _ _ _ σ _ ⟨fun _ => ?_, fun z => absurd rfl z⟩
    refine pv_21_67 _ _ _ _ _ _ _ σ _ ?_
    rw [cx, s11, s12, ha.1, hb.1]
    have e : (14 = 12) = False := by simp
    have go := main b 6 24 True 0 1 hb.2 (Or.inl ⟨rfl, rfl⟩) ⟨fun z => absurd z (by decide), fun z => absurd trivial z⟩ (fun Y hY => by rw [e] at hY; exact hY) (by rw [e]; exact R) (Or.inr ⟨by decide, by decide, fun _ => rfl, fun z => absurd trivial z⟩)
    exact ⟨fun _ => ⟨vx, go⟩, fun z => absurd rfl z⟩
  · refine ⟨vx, fun z => absurd z (by decide), fun _ => ⟨fun z => absurd z (by decide), fun _ => ⟨fun _ => ?_, fun z => absurd rfl z⟩⟩⟩
    refine pv_21_46 _ _ _ _ _ _ σ _ ⟨fun z => absurd z (by decide), fun _ => ⟨fun _ => ?_, fun z => absurd rfl z⟩⟩
    refine pv_21_67 _ _ _ _ _ _ _ σ _ ?_
    rw [cx, s11, s12, ha.1, hb.1]
    have e : (15 = 12) = False := by simp
    have go := main a 7 24 True 1 1 ha.2 (Or.inr ⟨rfl, rfl⟩) ⟨fun z => absurd z (by decide), fun z => absurd trivial z⟩ (fun Y hY => by rw [e] at hY; exact hY) (by rw [e]; exact R) (Or.inr ⟨by decide, by decide, fun _ => rfl, fun z => absurd trivial z⟩)
    exact ⟨fun z => absurd z (by decide), fun _ => ⟨vx, go⟩⟩
  · refine ⟨vx, fun z => absurd z (by decide), fun _ => ⟨fun z => absurd z (by decide), fun _ => ⟨fun z => absurd z (by decide), fun _ => ?_⟩⟩⟩
    refine pv_21_46 _ _ _ _ _ _ σ _ ⟨fun z => absurd z (by decide), fun _ => ⟨fun z => absurd z (by decide), fun _ => ?_⟩⟩
    refine pv_21_67 _ _ _ _ _ _ _ σ _ ?_
    rw [cx, s11, s12, ha.1, hb.1]
    have e : (20 = 12) = False := by simp
    have go := main b 6 25 False 0 0 hb.2 (Or.inl ⟨rfl, rfl⟩) ⟨fun _ z => z, fun _ => rfl⟩ (fun Y hY => by rw [e] at hY; exact hY) (by rw [e]; exact R) (Or.inl ⟨rfl, rfl, fun z => z⟩)
    exact ⟨fun _ => ⟨vx, go⟩, fun z => absurd rfl z⟩
