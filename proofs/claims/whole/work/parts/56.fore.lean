/-! ===== weighCall, weigh ===== -/
theorem fG_x {F : iv_F} {nm : Nat} {X : fX} {σ σ' : pz_Sg} {C D : fX → Prop} (h : fG F nm X σ σ' C) (hd : fr_sa 33 6 σ σ' → C (fCs σ') → D (fCs σ')) : fG F nm X σ σ' D := ⟨h.1, h.2.1, fun z => hd (fG_sa h z).1 (h.2.2 z)⟩
theorem bB_35 : bB (nI 35) = fun i => i = 0 ∨ i = 1 ∨ i = 5 := bB_of (by decide +kernel) (fun i h => by omega)
theorem bB_a {x y : Int32} {i : Nat} : bB (x &&& y) i ↔ bB x i ∧ bB y i := by
  show bt _ i = true ↔ _
  rw [b_and, Bool.and_eq_true]
  exact Iff.rfl
/-- Foresight.resultThere -/
theorem w_there {F : iv_F} {σ : pz_Sg} {b c q : Nat} (hb : b < 10) (h7 : σ.1 7 b = nI q) (e7 : F 7 b = nI q) (hq : q ≤ 3) (hc : c + q ≤ 8) (w : Int64) : pz_WP 24 (0, pz_en 8 [.ref 31, .int (nI b), .int (nI c), .long w], []) σ (fun v σ' => σ' = σ ∧ ∃ x, v = some (.int x) ∧ ∀ i, bB x i ↔ fS F (fCs σ) b c (qB w) i) := by
  have vb : vp_in (nI b) 10 := vp_in_nI hb (by decide)
  have cb : (nI b).toNatClampNeg = b := nI_clamp (by omega)
  have tk : ∀ (is : Int32) (k : Nat), k < 3 → (is &&& (nI 4 <<< (nI k &&& 31)) = 0 ↔ ¬ bB is (k + 2)) := fun is k hk => by
    rw [(by decide +kernel : ∀ k, k < 3 → nI 4 <<< (nI k &&& 31) = (1 : Int32) <<< (nI (k + 2) &&& 31)) k hk]
    show _ ↔ ¬ bt is (k + 2) = true
    rw [Bool.not_eq_true]
    exact b_an1 (by omega)
  have go : ∀ d k x, k + d = q → (∀ i, bB x i ↔ ((i = 0 ∨ i = 1 ∨ i = 5) ∧ bB (σ.1 36 b) i) ∨ ∃ j, j < k ∧ bB (σ.1 36 b) (j + 2) ∧ fL (qB w) (c + j) i) → pz_WP 24 (18, [some (.ref 31), some (.int (nI b)), some (.int (nI c)), some (.long w), none, some (.int (σ.1 36 b)), some (.int x), some (.int (nI k))], []) σ (fun v σ' => σ' = σ ∧ ∃ x, v = some (.int x) ∧ ∀ i, bB x i ↔ fS F (fCs σ) b c (qB w) i) := by
    intro d
    induction d with
    | zero =>
      intro k x hk hx
      have hk : k = q := by omega
      subst hk
      refine pv_24_18 _ _ _ _ _ _ σ _ ?_
      rw [cb, h7]
      refine ⟨vb, fun _ => ⟨rfl, x, rfl, fun i => ?_⟩, fun z => absurd (Int32.le_refl _) z⟩
      rw [hx]
      unfold fS
      rw [e7, nI_clamp (by omega)]
      exact Iff.rfl
    | succ d ih =>
      intro k x hk hx
      refine pv_24_18 _ _ _ _ _ _ σ _ ?_
      rw [cb, h7, nI_1]
      refine ⟨vb, fun z => absurd z (nI_ge (by omega) (by omega)), fun _ => ⟨fun z => ih (k + 1) x (by omega) (fun i => ?_), fun z => ?_⟩⟩
      · rw [hx]
        refine or_congr Iff.rfl ⟨fun ⟨j, h1, h2⟩ => ⟨j, by omega, h2⟩, fun ⟨j, h1, h2, h3⟩ => ⟨j, ?_, h2, h3⟩⟩
        have : ¬ j = k := fun e => (tk _ k (by omega)).mp z (by rw [← e]; exact h2)
        omega
      · rw [nI_add]
        refine pz_ki (w_mayOf w (c + k) σ) (ih (k + 1) _ (by omega) (fun i => ?_))
        rw [bB_o, hx, my_B (by omega)]
        have y : bB (σ.1 36 b) (k + 2) := Classical.not_not.mp fun q => z ((tk _ k (by omega)).mpr q)
        constructor
        · rintro ((h | ⟨j, h1, h2⟩) | h)
          · exact Or.inl h
          · exact Or.inr ⟨j, by omega, h2⟩
          · exact Or.inr ⟨k, by omega, y, h⟩
        · rintro (h | ⟨j, h1, h2, h3⟩)
          · exact Or.inl (Or.inl h)
          · by_cases e : j = k
            · subst e
              exact Or.inr h3
            · exact Or.inl (Or.inr ⟨j, by omega, h2, h3⟩)
  refine pv_24 _ _ _ σ _ ?_
  rw [cb]
  refine ⟨vb, go q 0 _ (by omega) (fun i => ?_)⟩
  rw [bB_a, bB_35]
  exact ⟨fun h => Or.inl ⟨h.2, h.1⟩, fun h => h.elim (fun h => ⟨h.2, h.1⟩) (fun ⟨j, h1, _⟩ => absurd h1 (Nat.not_lt_zero _))⟩
theorem ix4 {m k : Nat} (hm : m < 10) (hk : k < 4) : nI m * nI 4 + nI k = nI (4 * m + k) ∧ (nI (4 * m + k)).toNatClampNeg = 4 * m + k ∧ vp_in (nI (4 * m + k)) 40 := ⟨by rw [pk_mul, nI_add, Nat.mul_comm], nI_clamp (by omega), vp_in_nI (by omega) (by decide)⟩
/-- one way of the called METHOD's, read and written -/
theorem fG_way {F : iv_F} {nt nf ns nm : Nat} {X : fX} {m l : Nat} {w : Int64} (K : fK F nt nf ns nm X m l w) {σ : pz_Sg} (H : fI F nm X σ) {b k : Nat} (hb : b < nm) (hk : k < 4) {is : Int32} {Q : Nat → Prop} (hQ : bB is = Q) (h6 : fTo X 6 m (X 6 b k) Q) (h7 : fTo X 7 m (X 7 b k) Q) : fG F nm X σ (ftouch 34 (ftouch 33 σ m is (σ.1 33 (4 * b + k))) m is ((ftouch 33 σ m is (σ.1 33 (4 * b + k))).1 34 (4 * b + k))) (fun Y => fTo Y 6 m (Y 6 b k) Q ∧ fTo Y 7 m (Y 7 b k) Q) := by
  have g1 := fG_t33 K H (is := is) (pl := σ.1 33 (4 * b + k)) rfl hQ (fun w' hw y p hp => h6 w' hw y p (((H.2.2.1 b hb).2.2.2.2 k hk p).1 hp))
  have g2 := fG_t34 K g1.2.1 (is := is) (pl := (ftouch 33 σ m is (σ.1 33 (4 * b + k))).1 34 (4 * b + k)) rfl hQ (fun w' hw y p hp => h7 w' hw y p (((g1.2.1.2.2.1 b hb).2.2.2.2 k hk p).2 hp))
  refine fG_s (fG_x g1 (fun s c w' hw y p hp => c w' hw y p ?_)) (fG_x g2 (fun s c w' hw y p hp => c w' hw y p ?_))
  · have e : (ftouch 33 σ m is (σ.1 33 (4 * b + k))).1 33 = σ.1 33 := s.2 0 (by decide)
    have h2 := hp.2
    rw [e] at h2
    exact h2
  · have e := s.2 1 (by decide)
    have h2 := hp.2
    have e' : (ftouch 34 (ftouch 33 σ m is (σ.1 33 (4 * b + k))) m is ((ftouch 33 σ m is (σ.1 33 (4 * b + k))).1 34 (4 * b + k))).1 34 = (ftouch 33 σ m is (σ.1 33 (4 * b + k))).1 34 := e
    rw [e'] at h2
    exact h2
theorem w_call {F : iv_F} {nt nf ns nm : Nat} {X : fX} {m l : Nat} {w : Int64} (K : fK F nt nf ns nm X m l w) (hX0 : ∀ {k m x i}, X k m x i → f0 F k m x i) {σ : pz_Sg} (H : fI F nm X σ) {b c : Nat} (a : Nat) (hb : F 12 (24 * m + l) = nI b ∧ b < nm) (hc : F 13 (24 * m + l) = nI c ∧ c < 8) (hcq : c + (F 7 b).toNatClampNeg ≤ 8) (R : fRo F X m l a b c 21) : pz_WP 23 (0, pz_en 10 [.ref 31, .int (nI m), .int (nI l), .long w], []) σ (fQ F nm X m l w 21 a b c σ) := by
  have bm := K.1.1.2.2.2
  have bl := fP_L' K.1 m K.2.1.1
  have hl := K.2.1.2
  have hm := K.2.1.1
  have m10 : m < 10 := by omega
  have hbm := hb.2
  have b10 : b < 10 := by omega
  obtain ⟨ix, cx, vx⟩ := fix24 (m := m) (l := l) (by omega) (by omega)
  obtain ⟨q, hq, e7⟩ := fP_q K.1 b hbm
  have eq : (F 7 b).toNatClampNeg = q := by rw [e7]; exact nI_clamp (by omega)
  have cb : (nI b).toNatClampNeg = b := nI_clamp (by omega)
  have vb : vp_in (nI b) 10 := vp_in_nI b10 (by decide)
  rw [eq] at hcq
  have R' : fCa F X m l b c := R
  obtain ⟨ra, ⟨rb6, rb7⟩, rp, re, rf⟩ := R'
  have hXL : ∀ r i, fL (qB w) r i → fL (X 1 m l) r i := fun r i hi => fL_m K.2.2.1 hi
  -- the end: what it throws
  have fin : ∀ (s : pz_Sg) (D : fX → Prop), fG F nm X σ s D → (∀ Y, Y 1 m l = qB w → D Y → (∀ f, 1 ≤ f → f ≤ 9 → Y 4 b f 0 → fTh F Y m l f) → fCa F Y m l b c) → fQ F nm X m l w 21 a b c σ (some (.int (s.1 35 b))) s := by
    intro s D g hD
    refine ⟨_, rfl, fun f f1 f2 y => rf f f1 (by omega) ((g.2.1.2.2.1 b hbm).2.2.1 f y), fun Y => D Y ∧ ∀ f, Y 4 b f 0 → bB (s.1 35 b) f, ⟨g.1, g.2.1, fun z => ⟨g.2.2 z, fun f hf => hf⟩⟩, fun Y hY cY tY => hD Y hY cY.1 (fun f f1 f2 hf => tY f f1 (by omega) (cY.2 f hf))⟩
  -- where it ends
  have t201 : ∀ (s : pz_Sg) (D : fX → Prop), fG F nm X σ s D → (∀ Y, Y 1 m l = qB w → D Y → (∀ k, k < q → fTo Y 6 m (Y 6 b k) (fL (qB w) (c + k)) ∧ fTo Y 7 m (Y 7 b k) (fL (qB w) (c + k))) ∧ (fTo Y 6 m (Y 6 b 3) (fun i => i = 5) ∧ fTo Y 7 m (Y 7 b 3) (fun i => i = 5)) ∧ (Y 3 b 0 0 → Y 3 m 0 0)) → pz_WP 23 (172, [some (.ref 31), some (.int (nI m)), some (.int (nI l)), some (.long w), none, none, some (.int (nI b)), some (.int (nI c)), none, none], []) s (fQ F nm X m l w 21 a b c σ) := by
    intro s D g hD
    have Hs := g.2.1
    have all : ∀ Y, Y 1 m l = qB w → D Y → (∀ f, 1 ≤ f → f ≤ 9 → Y 4 b f 0 → fTh F Y m l f) → (Y 2 b 0 0 → (¬ F 8 b = nI 2 → fCm F Y m (l + 1) (qB w)) ∧ (F 8 b = nI 2 → fCm F Y m (l + 1) (fW (qB w) c (fS F Y b c (qB w))))) → fCa F Y m l b c := by
      intro Y hY dY tY eY
      obtain ⟨h1, h2, h3⟩ := hD Y hY dY
      unfold fCa
      rw [hY, eq]
      exact ⟨h1, h2, h3, eY, tY⟩
    refine pv_23_172 _ _ _ _ _ s _ ?_
    rw [cb, Hs.1 8 rfl]
    refine ⟨vb, fun z => ⟨vb, ?_⟩, fun z => ⟨vb, fun z2 => ?_, fun z2 => ?_⟩⟩
    · refine fin s (fun Y => D Y ∧ ¬ Y 2 b 0 0) ⟨g.1, g.2.1, fun y => ⟨g.2.2 y, fun u => u z⟩⟩ (fun Y hY dY tY => all Y hY dY.1 tY (fun u => absurd u dY.2))
    · -- a result that may be a THING
      refine pv_23_201 _ _ _ _ _ _ s _ ⟨fun y => absurd y (by decide), fun _ => ⟨_, w_there (F := F) b10 (by rw [Hs.1 7 rfl]; exact e7) e7 hq hcq w, ?_⟩⟩
      rintro r2 σ2 ⟨rfl, x, hx, hxB⟩
      cases hx
      have x6 : ∀ i, bB r2 i → i < 6 := fun i hi => by
        rcases (hxB i).mp hi with ⟨h1, -⟩ | ⟨k, -, -, h3⟩
        · omega
        · exact h3.1
      have eW : qB (qw w c r2) = fW (qB w) c (fS F (fCs σ2) b c (qB w)) := by
        rw [qw_B hc.2 x6]
        congr 1
        exact funext fun i => propext (hxB i)
      obtain ⟨i0, i1, i2, i3, i4⟩ := Hs
      have sub : ∀ i, fS F (fCs σ2) b c (qB w) i → fS F X b c (X 1 m l) i := by
        rintro i (⟨h1, h2⟩ | ⟨k, h1, h2, h3⟩)
        · exact Or.inl ⟨h1, (i2 b hbm).2.2.2.1 i h2⟩
        · exact Or.inr ⟨k, h1, (i2 b hbm).2.2.2.1 _ h2, hXL _ i h3⟩
      have ne : ∃ i, i < 6 ∧ fS F (fCs σ2) b c (qB w) i := by
        obtain ⟨i, hi⟩ := i3 b hbm z z2
        have k0 := (hX0 ((i2 b hbm).2.2.2.1 i hi)).2
        rcases k0 with k0 | k0 | k0 | ⟨k1, k2⟩
        · exact ⟨i, by omega, Or.inl ⟨Or.inl k0, hi⟩⟩
        · exact ⟨i, by omega, Or.inl ⟨Or.inr (Or.inl k0), hi⟩⟩
        · exact ⟨i, by omega, Or.inl ⟨Or.inr (Or.inr k0), hi⟩⟩
        · rw [eq] at k2
          obtain ⟨j, hj⟩ := K.2.2.2 (c + (i - 2)) (by omega)
          exact ⟨j, hj.1, Or.inr ⟨i - 2, by rw [eq]; omega, by rw [show i - 2 + 2 = i by omega]; exact hi, hj⟩⟩
      have g2 : fG F nm X σ2 (freach F σ2 m (l + 1) (qw w c r2)) (fun Y => fCm F Y m (l + 1) (fW (qB w) c (fS F Y b c (qB w)))) := by
        have g3 := fG_reach bm (fP_L' K.1) g.2.1 hm (w := qw w c r2) (l := l + 1) (fCm_w (fun i hi => ?_) ((re ((i2 b hbm).1 z)).2 z2)) ?_
        · refine fG_x g3 (fun s c' => ?_)
          rw [eW] at c'
          rw [fCs_c s] at c' ⊢
          exact c'
        · rw [eW] at hi
          exact fW_m K.2.2.1 (fun i _ h => sub i h) hi
        · rw [eW]
          exact fZ_W K.2.2.2 ne
      rw [nI_1]
      refine pz_kl (w_with w c r2 σ2) (pz_kv (w_rc K g.2.1 _) ⟨vb, ?_⟩)
      rw [cb]
      exact fin _ _ (fG_s g g2) (fun Y hY dY tY => all Y hY dY.1 tY (fun _ => ⟨fun u => absurd z2 u, fun _ => dY.2⟩))
    · refine pv_23_201 _ _ _ _ _ _ s _ ⟨fun _ => ?_, fun y => absurd rfl y⟩
      rw [nI_1, cb]
      have g2 := fG_rc K Hs ((re ((Hs.2.2.1 b hbm).1 z)).1 z2)
      exact pz_kv (w_rc K Hs w) ⟨vb, fin _ _ (fG_s g g2) (fun Y hY dY tY => all Y hY dY.1 tY (fun _ => ⟨fun _ => dY.2, fun u => absurd u z2⟩))⟩
  have go : ∀ d k s (D : fX → Prop), k + d = q → fG F nm X σ s D → (∀ Y, D Y → ∀ j, j < k → fTo Y 6 m (Y 6 b j) (fL (qB w) (c + j)) ∧ fTo Y 7 m (Y 7 b j) (fL (qB w) (c + j))) → pz_WP 23 (35, [some (.ref 31), some (.int (nI m)), some (.int (nI l)), some (.long w), none, none, some (.int (nI b)), some (.int (nI c)), some (.int (nI k)), none], []) s (fQ F nm X m l w 21 a b c σ) := by
    intro d
    induction d with
    | zero =>
      intro k s D hk g hD
      have hk : k = q := by omega
      subst hk
      obtain ⟨i4, c4, v4⟩ := ix4 (m := b) (k := 3) b10 (by decide)
      refine pv_23_35 _ _ _ _ _ _ s _ ?_
      rw [cb, g.2.1.1 7 rfl, e7, i4, c4]
      refine ⟨vb, fun _ => ⟨v4, pz_kv (w_touch33 m10 _ _) ⟨v4, pz_kv (w_touch34 m10 _ _) ⟨vb, fun z => ?_, fun z => ?_⟩⟩⟩, fun z => absurd (Int32.le_refl _) z⟩
      · have g2 := fG_way K g.2.1 hbm (k := 3) (by decide) bB_32 rb6 rb7
        refine t201 _ _ (fG_s g (fG_x g2 (D := fun Y => (fTo Y 6 m (Y 6 b 3) (fun i => i = 5) ∧ fTo Y 7 m (Y 7 b 3) (fun i => i = 5)) ∧ ¬ Y 3 b 0 0) (fun _ c' => ⟨c', fun u => u z⟩))) (fun Y hY dY => ⟨hD Y dY.1, dY.2.1, fun u => absurd u dY.2.2⟩)
      · have g2 := fG_way K g.2.1 hbm (k := 3) (by decide) bB_32 rb6 rb7
        have g3 := fG_print g2.2.1 m10 (rp ((g2.2.1.2.2.1 b hbm).2.1 z))
        refine pz_kv (w_mayPrint m10 (g2.2.1.2.2.2.2 m m10).1) (t201 _ _ (fG_s g (fG_s g2 g3)) (fun Y hY dY => ⟨hD Y dY.1, dY.2.1, fun _ => dY.2.2⟩))
    | succ d ih =>
      intro k s D hk g hD
      obtain ⟨i4, c4, v4⟩ := ix4 (m := b) (k := k) b10 (by omega)
      refine pv_23_35 _ _ _ _ _ _ s _ ?_
      rw [cb, g.2.1.1 7 rfl, e7, nI_add, i4, c4, nI_1]
      refine ⟨vb, fun z => absurd z (nI_ge (by omega) (by omega)), fun _ => pz_ki (w_mayOf w (c + k) s) ⟨v4, pz_kv (w_touch33 m10 _ _) ⟨v4, pz_kv (w_touch34 m10 _ _) ?_⟩⟩⟩
      obtain ⟨r6, r7⟩ := ra k (by rw [eq]; omega)
      have g2 := fG_way K g.2.1 hbm (k := k) (by omega) (my_B (w := w) (r := c + k) (by omega)) (fun w' hw y => r6 w' hw (hXL _ _ y)) (fun w' hw y => r7 w' hw (hXL _ _ y))
      refine ih (k + 1) _ _ (by omega) (fG_s g g2) (fun Y dY j hj => ?_)
      by_cases e : j = k
      · subst e
        exact dY.2
      · exact hD Y dY.1 j (by omega)
  refine pv_23 _ _ _ σ _ ?_
  rw [ix, cx, H.1 12 rfl, H.1 13 rfl, hb.1, hc.1]
  exact ⟨vx, vx, go q 0 σ _ (by omega) (fG_r H) (fun Y _ j hj => absurd hj (Nat.not_lt_zero _))⟩
