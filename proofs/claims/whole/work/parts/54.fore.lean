/-! ===== the class's Foresight: weigh ===== -/
/-- a program as told -/
def fP (F : iv_F) (nt nf ns nm : Nat) : Prop := (nt ≤ 8 ∧ nf ≤ 16 ∧ ns ≤ 8 ∧ nm ≤ 10) ∧ iv_mt F nm ∧ iv_ln F nt nf ns nm ∧ iv_ca F nm
theorem fP_L {F : iv_F} {nt nf ns nm : Nat} (h : fP F nt nf ns nm) : ∀ m, m < nm → ∃ y, y ≤ 24 ∧ F 9 m = nI y := fun m hm => (h.2.1.1 m hm).2.2.2.1.2
theorem fP_L' {F : iv_F} {nt nf ns nm : Nat} (h : fP F nt nf ns nm) : ∀ m, m < nm → (F 9 m).toNatClampNeg ≤ 24 := fun m hm => by
  obtain ⟨y, hy, e⟩ := fP_L h m hm
  rw [e, nI_clamp (by omega)]
  exact hy
theorem fP_4 {F : iv_F} {nt nf ns nm : Nat} (h : fP F nt nf ns nm) : ∀ m, m < nm → ∃ y, y ≤ 4 ∧ F 14 m = nI y := fun m hm => (h.2.1.1 m hm).2.2.2.2.2
theorem fP_q {F : iv_F} {nt nf ns nm : Nat} (h : fP F nt nf ns nm) : ∀ m, m < nm → ∃ y, y ≤ 3 ∧ F 7 m = nI y := fun m hm => (h.2.1.1 m hm).2.1.2
theorem fP_q' {F : iv_F} {nt nf ns nm : Nat} (h : fP F nt nf ns nm) : ∀ m, m < nm → (F 7 m).toNatClampNeg ≤ 3 := fun m hm => by
  obtain ⟨y, hy, e⟩ := fP_q h m hm
  rw [e, nI_clamp (by omega)]
  exact hy
theorem fZ_W {st P : Nat → Prop} {a : Nat} (h : fZ st) (hP : ∃ b, b < 6 ∧ P b) : fZ (fW st a P) := fun r hr => by
  by_cases e : r = a
  · obtain ⟨b, h1, h2⟩ := hP
    exact ⟨b, fW_L.mpr (Or.inl ⟨e, h1, h2⟩)⟩
  · obtain ⟨b, hb⟩ := h r hr
    exact ⟨b, fW_L.mpr (Or.inr ⟨e, hb⟩)⟩
/-- what is known of the LINE that is weighed: m, l, what is ahead of it (w) -/
def fK (F : iv_F) (nt nf ns nm : Nat) (X : fX) (m l : Nat) (w : Int64) : Prop := fP F nt nf ns nm ∧ (m < nm ∧ l < (F 9 m).toNatClampNeg) ∧ (∀ i, qB w i → X 1 m l i) ∧ fZ (qB w)
def fQ (F : iv_F) (nm : Nat) (X : fX) (m l : Nat) (w : Int64) (o a b c : Nat) (σ : pz_Sg) (v : Option Value) (σ' : pz_Sg) : Prop := ∃ th, v = some (.int th) ∧ (∀ f, 1 ≤ f → f < 10 → bB th f → fTh F X m l f) ∧ ∃ C : fX → Prop, fG F nm X σ σ' C ∧ ∀ Y, Y 1 m l = qB w → C Y → (∀ f, 1 ≤ f → f < 10 → bB th f → fTh F Y m l f) → fRo F Y m l a b c o
/-- the same, where no fault is told of -/
def fQv (F : iv_F) (nm : Nat) (X : fX) (m l : Nat) (w : Int64) (o a b c : Nat) (σ σ' : pz_Sg) : Prop := ∃ C : fX → Prop, fG F nm X σ σ' C ∧ ∀ Y, Y 1 m l = qB w → C Y → fRo F Y m l a b c o
theorem bB_n {f : Nat} : ¬ bB 0 f := fun h => absurd ((b_0 f).symm.trans h) (by decide)
theorem bB_n4 : bB (nI 4) = fun i => i = 2 := bB_of (by decide +kernel) (fun i h => by omega)
theorem fix24 {m l : Nat} (hm : m < 10) (hl : l < 24) : nI m * nI 24 + nI l = nI (24 * m + l) ∧ (nI (24 * m + l)).toNatClampNeg = 24 * m + l ∧ vp_in (nI (24 * m + l)) 240 := ⟨by rw [pk_mul, nI_add, Nat.mul_comm], nI_clamp (by omega), vp_in_nI (by omega) (by decide)⟩
theorem fG_rc {F : iv_F} {nt nf ns nm : Nat} {X : fX} {m l : Nat} {w : Int64} (K : fK F nt nf ns nm X m l w) {σ : pz_Sg} (H : fI F nm X σ) {l' : Nat} (R : fCm F X m l' (X 1 m l)) : fG F nm X σ (freach F σ m l' w) (fun Y => fCm F Y m l' (qB w)) := fG_reach K.1.1.2.2.2 (fP_L' K.1) H K.2.1.1 (fCm_w K.2.2.1 R) K.2.2.2
theorem fG_rw {F : iv_F} {nt nf ns nm : Nat} {X : fX} {m l : Nat} {w : Int64} (K : fK F nt nf ns nm X m l w) {σ : pz_Sg} (H : fI F nm X σ) {l' a : Nat} (ha : a < 8) {x : Int32} {P Q : Nat → Prop} (hx : bB x = P) (h6 : ∀ i, P i → i < 6) (hn : ∃ i, P i) (hQ : ∀ i, P i → Q i) (R : fCm F X m l' (fW (X 1 m l) a Q)) : fG F nm X σ (freach F σ m l' (qw w a x)) (fun Y => fCm F Y m l' (fW (qB w) a P)) := by
  have e : qB (qw w a x) = fW (qB w) a P := by rw [qw_B ha (fun i hi => h6 i (by rw [← hx]; exact hi)), hx]
  rw [← e]
  refine fG_reach K.1.1.2.2.2 (fP_L' K.1) H K.2.1.1 (fCm_w (fun i hi => ?_) R) ?_
  · rw [e] at hi
    exact fW_m K.2.2.1 (fun b _ hb => hQ b hb) hi
  · rw [e]
    exact fZ_W K.2.2.2 (hn.imp fun i hi => ⟨h6 i hi, hi⟩)
theorem w_rc {F : iv_F} {nt nf ns nm : Nat} {X : fX} {m l : Nat} {w : Int64} (K : fK F nt nf ns nm X m l w) {σ : pz_Sg} (H : fI F nm X σ) (w' : Int64) : pz_WP 13 (0, pz_en 8 [.ref 31, .int (nI m), .int (nI (l + 1)), .long w'], []) σ (pz_is none (freach F σ m (l + 1) w')) := w_reach K.1.1.2.2.2 (fP_L K.1) H K.2.1.1 (by have := fP_L' K.1 m K.2.1.1; have := K.2.1.2; omega) w'
theorem w_plain {F : iv_F} {nt nf ns nm : Nat} {X : fX} {m l : Nat} {w : Int64} (K : fK F nt nf ns nm X m l w) {σ : pz_Sg} (H : fI F nm X σ) {o a b : Nat} (c : Nat) (e10 : F 10 (24 * m + l) = nI o) (ho : o < 10 ∨ o = 22) (ha : 6 ≤ o → o ≤ 9 → F 11 (24 * m + l) = nI a ∧ a < 8) (hb : o = 7 → F 12 (24 * m + l) = nI b ∧ b < 8) (R : fRo F X m l a b c o) : pz_WP 20 (0, pz_en 10 [.ref 31, .int (nI m), .int (nI l), .long w], []) σ (fQ F nm X m l w o a b c σ) := by
  have bm := K.1.1.2.2.2
  have bl := fP_L' K.1 m K.2.1.1
  have hl := K.2.1.2
  have hm := K.2.1.1
  obtain ⟨ix, cx, vx⟩ := fix24 (m := m) (l := l) (by omega) (by omega)
  have s10 : σ.1 10 = F 10 := H.1 10 rfl
  have s11 : σ.1 11 = F 11 := H.1 11 rfl
  have s12 : σ.1 12 = F 12 := H.1 12 rfl
  refine pv_20 _ _ _ σ _ ?_
  rw [ix, cx, s10, s11, s12, e10, nI_1]
  have ho' : o = 0 ∨ o = 1 ∨ o = 2 ∨ o = 3 ∨ o = 4 ∨ o = 5 ∨ o = 6 ∨ o = 7 ∨ o = 8 ∨ o = 9 ∨ o = 22 := by omega
  rcases ho' with rfl | rfl | rfl | rfl | rfl | rfl | rfl | rfl | rfl | rfl | rfl
  · refine ⟨vx, vx, fun _ => pz_kv (w_rc K H w) ⟨0, rfl, fun f _ _ z => absurd z bB_n, _, fG_rc K H R, fun Y hY cY tY => by show fCm F Y m (l + 1) (Y 1 m l); rw [hY]; exact cY⟩, ?_, ?_, ?_, ?_, ?_, ?_, ?_, ?_, ?_, ?_, ?_, ?_, ?_, ?_, ?_, ?_, ?_, ?_, ?_, trivial⟩ <;> (intro z; exact absurd z (by decide))
  · refine ⟨vx, vx, fun _ => pz_kv (w_rc K H w) ⟨0, rfl, fun f _ _ z => absurd z bB_n, _, fG_rc K H R, fun Y hY cY tY => by show fCm F Y m (l + 1) (Y 1 m l); rw [hY]; exact cY⟩, ?_, ?_, ?_, ?_, ?_, ?_, ?_, ?_, ?_, ?_, ?_, ?_, ?_, ?_, ?_, ?_, ?_, ?_, ?_, trivial⟩ <;> (intro z; exact absurd z (by decide))
  · refine ⟨vx, vx, fun _ => pz_kv (w_rc K H w) ⟨0, rfl, fun f _ _ z => absurd z bB_n, _, fG_rc K H R, fun Y hY cY tY => by show fCm F Y m (l + 1) (Y 1 m l); rw [hY]; exact cY⟩, ?_, ?_, ?_, ?_, ?_, ?_, ?_, ?_, ?_, ?_, ?_, ?_, ?_, ?_, ?_, ?_, ?_, ?_, ?_, trivial⟩ <;> (intro z; exact absurd z (by decide))
  · refine ⟨vx, vx, fun _ => pz_kv (w_rc K H w) ⟨0, rfl, fun f _ _ z => absurd z bB_n, _, fG_rc K H R, fun Y hY cY tY => by show fCm F Y m (l + 1) (Y 1 m l); rw [hY]; exact cY⟩, ?_, ?_, ?_, ?_, ?_, ?_, ?_, ?_, ?_, ?_, ?_, ?_, ?_, ?_, ?_, ?_, ?_, ?_, ?_, trivial⟩ <;> (intro z; exact absurd z (by decide))
  · refine ⟨vx, vx, ?_, fun _ => pz_kv (w_rc K H w) ⟨nI 2, rfl, fun f _ _ z => by rw [bB_2] at z; rw [show f = 1 from z]; exact R.1, _, fG_rc K H R.2, fun Y hY cY tY => ⟨tY 1 (by decide) (by decide) (by rw [bB_2]), by rw [hY]; exact cY⟩⟩, ?_, ?_, ?_, ?_, ?_, ?_, ?_, ?_, ?_, ?_, ?_, ?_, ?_, ?_, ?_, ?_, ?_, ?_, trivial⟩ <;> (intro z; exact absurd z (by decide))
  · refine ⟨vx, vx, ?_, ?_, fun _ => pz_kv (w_rc K H w) ⟨nI 2, rfl, fun f _ _ z => by rw [bB_2] at z; rw [show f = 1 from z]; exact R.1, _, fG_rc K H R.2, fun Y hY cY tY => ⟨tY 1 (by decide) (by decide) (by rw [bB_2]), by rw [hY]; exact cY⟩⟩, ?_, ?_, ?_, ?_, ?_, ?_, ?_, ?_, ?_, ?_, ?_, ?_, ?_, ?_, ?_, ?_, ?_, trivial⟩ <;> (intro z; exact absurd z (by decide))
  · rw [(ha (by decide) (by decide)).1]; refine ⟨vx, vx, ?_, ?_, ?_, fun _ => pz_kl (w_with w a 1 σ) (pz_kv (w_rc K H _) ⟨0, rfl, fun f _ _ z => absurd z bB_n, _, fG_rw K H (ha (by decide) (by decide)).2 bB_1 (fun i hi => by omega) ⟨0, rfl⟩ (fun i hi => hi) R, fun Y hY cY tY => by show fCm F Y m (l + 1) (fW (Y 1 m l) a (fun i => i = 0)); rw [hY]; exact cY⟩), ?_, ?_, ?_, ?_, ?_, ?_, ?_, ?_, ?_, ?_, ?_, ?_, ?_, ?_, ?_, ?_, trivial⟩ <;> (intro z; exact absurd z (by decide))
  · rw [(ha (by decide) (by decide)).1]; rw [(hb rfl).1]; refine ⟨vx, vx, ?_, ?_, ?_, ?_, fun _ => ⟨vx, pz_ki (w_mayOf w b σ) (pz_kl (w_with w a _ σ) (pz_kv (w_rc K H _) ⟨0, rfl, fun f _ _ z => absurd z bB_n, _, fG_rw K H (ha (by decide) (by decide)).2 (my_B (hb rfl).2) (fun i hi => hi.1) (K.2.2.2 b (hb rfl).2) (fun i hi => fL_m K.2.2.1 hi) R, fun Y hY cY tY => by show fCm F Y m (l + 1) (fW (Y 1 m l) a (fL (Y 1 m l) b)); rw [hY]; exact cY⟩))⟩, ?_, ?_, ?_, ?_, ?_, ?_, ?_, ?_, ?_, ?_, ?_, ?_, ?_, ?_, ?_, trivial⟩ <;> (intro z; exact absurd z (by decide))
  · rw [(ha (by decide) (by decide)).1]; refine ⟨vx, vx, ?_, ?_, ?_, ?_, ?_, fun _ => pz_kl (w_with w a (nI 2) σ) (pz_kv (w_rc K H _) ⟨0, rfl, fun f _ _ z => absurd z bB_n, _, fG_rw K H (ha (by decide) (by decide)).2 bB_2 (fun i hi => by omega) ⟨1, rfl⟩ (fun i hi => hi) R, fun Y hY cY tY => by show fCm F Y m (l + 1) (fW (Y 1 m l) a (fun i => i = 1)); rw [hY]; exact cY⟩), ?_, ?_, ?_, ?_, ?_, ?_, ?_, ?_, ?_, ?_, ?_, ?_, ?_, ?_, trivial⟩ <;> (intro z; exact absurd z (by decide))
  · rw [(ha (by decide) (by decide)).1]; refine ⟨vx, vx, ?_, ?_, ?_, ?_, ?_, ?_, fun _ => pz_kl (w_with w a (nI 2) σ) (pz_kv (w_rc K H _) ⟨nI 4, rfl, fun f _ _ z => by rw [bB_n4] at z; rw [show f = 2 from z]; exact R.1, _, fG_rw K H (ha (by decide) (by decide)).2 bB_2 (fun i hi => by omega) ⟨1, rfl⟩ (fun i hi => hi) R.2, fun Y hY cY tY => ⟨tY 2 (by decide) (by decide) (by rw [bB_n4]), by rw [hY]; exact cY⟩⟩), ?_, ?_, ?_, ?_, ?_, ?_, ?_, ?_, ?_, ?_, ?_, ?_, ?_, trivial⟩ <;> (intro z; exact absurd z (by decide))
  · refine ⟨vx, vx, ?_, ?_, ?_, ?_, ?_, ?_, ?_, ?_, ?_, ?_, ?_, ?_, ?_, ?_, ?_, ?_, ?_, ?_, ?_, fun _ => pz_kv (w_mayPrint (by omega) (H.2.2.2.2 m (by omega)).1) (pz_kv (w_rc K (fG_print H (by omega) R.1).2.1 w) ⟨0, rfl, fun f _ _ z => absurd z bB_n, _, fG_s (fG_print H (by omega) R.1) (fG_rc K (fG_print H (by omega) R.1).2.1 R.2), fun Y hY cY tY => ⟨cY.1, by rw [hY]; exact cY.2⟩⟩), trivial⟩ <;> (intro z; exact absurd z (by decide))
theorem fG_t33 {F : iv_F} {nt nf ns nm : Nat} {X : fX} {m l : Nat} {w : Int64} (K : fK F nt nf ns nm X m l w) {σ : pz_Sg} (H : fI F nm X σ) {is pl : Int32} {P Q : Nat → Prop} (h1 : bB pl = P) (h2 : bB is = Q) (hX : fTo X 6 m P Q) : fG F nm X σ (ftouch 33 σ m is pl) (fun Y => fTo Y 6 m P Q) := by
  rw [← h1, ← h2]
  rw [← h1, ← h2] at hX
  exact fG_touch H (Or.inl ⟨rfl, rfl⟩) (by have := K.1.1.2.2.2; have := K.2.1.1; omega) hX
theorem fG_t34 {F : iv_F} {nt nf ns nm : Nat} {X : fX} {m l : Nat} {w : Int64} (K : fK F nt nf ns nm X m l w) {σ : pz_Sg} (H : fI F nm X σ) {is pl : Int32} {P Q : Nat → Prop} (h1 : bB pl = P) (h2 : bB is = Q) (hX : fTo X 7 m P Q) : fG F nm X σ (ftouch 34 σ m is pl) (fun Y => fTo Y 7 m P Q) := by
  rw [← h1, ← h2]
  rw [← h1, ← h2] at hX
  exact fG_touch H (Or.inr ⟨rfl, rfl⟩) (by have := K.1.1.2.2.2; have := K.2.1.1; omega) hX
theorem w_static {F : iv_F} {nt nf ns nm : Nat} {X : fX} {m l : Nat} {w : Int64} (K : fK F nt nf ns nm X m l w) {σ : pz_Sg} (H : fI F nm X σ) {o a b : Nat} (c : Nat) (e10 : F 10 (24 * m + l) = nI o) (ho : 16 ≤ o ∧ o ≤ 19) (ha : F 11 (24 * m + l) = nI a ∧ a < 8) (hb : F 12 (24 * m + l) = nI b ∧ b < 8) (R : fRo F X m l a b c o) : pz_WP 22 (0, pz_en 9 [.ref 31, .int (nI m), .int (nI l), .long w], []) σ (fun v σ' => v = none ∧ fQv F nm X m l w o a b c σ σ') := by
  have bm := K.1.1.2.2.2
  have bl := fP_L' K.1 m K.2.1.1
  have hl := K.2.1.2
  have hm := K.2.1.1
  have m10 : m < 10 := by omega
  obtain ⟨ix, cx, vx⟩ := fix24 (m := m) (l := l) (by omega) (by omega)
  have s10 : σ.1 10 = F 10 := H.1 10 rfl
  have s11 : σ.1 11 = F 11 := H.1 11 rfl
  have s12 : σ.1 12 = F 12 := H.1 12 rfl
  have pl : ∀ x, x < 8 → bB ((1 : Int32) <<< ((nI 16 + nI x) &&& 31)) = fun p => p = 16 + x := fun x hx => by
    rw [nI_add]
    exact bB_sh (by omega)
  refine pv_22 _ _ _ σ _ ?_
  rw [ix, cx, s10, e10]
  have ho' : o = 16 ∨ o = 17 ∨ o = 18 ∨ o = 19 := by omega
  rcases ho' with rfl | rfl | rfl | rfl
  · refine ⟨vx, fun z => absurd z (by decide), fun _ => ⟨fun z => absurd z (by decide), fun _ => ?_⟩⟩
    refine pv_22_39 _ _ _ _ _ _ σ _ ?_
    rw [cx, s11, s12, ha.1, hb.1]
    refine ⟨fun _ => ⟨vx, ?_⟩, fun z => absurd rfl z⟩
    refine pv_22_69 _ _ _ _ _ _ _ σ _ ⟨fun _ => ?_, fun z => absurd rfl z⟩
    have g1 := fG_t33 K H (pl b hb.2) bB_32 R.1
    refine pv_22_88 _ _ _ _ _ _ σ _ (pz_kv (w_touch33 m10 _ _) ?_)
    refine ⟨fun z => absurd z (by decide), fun _ => ?_⟩
    rw [nI_1]
    exact pz_kv (w_rc K g1.2.1 w) ⟨rfl, _, fG_s g1 (fG_rc K g1.2.1 R.2), fun Y hY cY => ⟨cY.1, by rw [hY]; exact cY.2⟩⟩
  · refine ⟨vx, fun _ => ?_, fun z => absurd rfl z⟩
    refine pv_22_39 _ _ _ _ _ _ σ _ ?_
    rw [cx, s11, s12, ha.1, hb.1]
    refine ⟨fun z => absurd z (by decide), fun _ => ⟨vx, ?_⟩⟩
    refine pv_22_69 _ _ _ _ _ _ _ σ _ ⟨fun z => absurd z (by decide), fun _ => ?_⟩
    have g1 := fG_t34 K H (pl a ha.2) bB_32 R.1
    refine pv_22_88a _ _ _ _ _ _ σ _ (pz_kv (w_touch34 m10 _ _) ?_)
    refine ⟨fun z => absurd z (by decide), fun _ => ?_⟩
    rw [nI_1]
    exact pz_kv (w_rc K g1.2.1 w) ⟨rfl, _, fG_s g1 (fG_rc K g1.2.1 R.2), fun Y hY cY => ⟨cY.1, by rw [hY]; exact cY.2⟩⟩
  · refine ⟨vx, fun z => absurd z (by decide), fun _ => ⟨fun z => absurd z (by decide), fun _ => ?_⟩⟩
    refine pv_22_39 _ _ _ _ _ _ σ _ ?_
    rw [cx, s11, s12, ha.1, hb.1]
    refine ⟨fun _ => ⟨vx, ?_⟩, fun z => absurd rfl z⟩
    refine pv_22_69 _ _ _ _ _ _ _ σ _ ⟨fun _ => ?_, fun z => absurd rfl z⟩
    have g1 := fG_t33 K H (pl b hb.2) bB_32 R.1
    refine pv_22_88 _ _ _ _ _ _ σ _ (pz_kv (w_touch33 m10 _ _) ?_)
    refine ⟨fun _ => ⟨vx, ?_⟩, fun z => absurd rfl z⟩
    rw [cx, g1.2.1.1 11 rfl, ha.1, nI_1]
    refine pz_kl (w_with w a (nI 33) _) (pz_kv (w_rc K g1.2.1 _) ⟨rfl, _, fG_s g1 (fG_rw K g1.2.1 ha.2 bB_33 (fun i hi => by omega) ⟨0, Or.inl rfl⟩ (fun i hi => hi) R.2), fun Y hY cY => ⟨cY.1, by rw [hY]; exact cY.2⟩⟩)
  · refine ⟨vx, fun z => absurd z (by decide), fun _ => ⟨fun _ => ?_, fun z => absurd rfl z⟩⟩
    refine pv_22_39 _ _ _ _ _ _ σ _ ?_
    rw [cx, s11, s12, ha.1, hb.1]
    refine ⟨fun z => absurd z (by decide), fun _ => ⟨vx, ?_⟩⟩
    refine pv_22_69 _ _ _ _ _ _ _ σ _ ⟨fun z => absurd z (by decide), fun _ => ?_⟩
    have g1 := fG_t34 K H (pl a ha.2) bB_32 R.1
    refine pv_22_88a _ _ _ _ _ _ σ _ (pz_kv (w_touch34 m10 _ _) ?_)
    refine ⟨fun z => absurd z (by decide), fun _ => ?_⟩
    rw [nI_1]
    exact pz_kv (w_rc K g1.2.1 w) ⟨rfl, _, fG_s g1 (fG_rc K g1.2.1 R.2), fun Y hY cY => ⟨cY.1, by rw [hY]; exact cY.2⟩⟩
