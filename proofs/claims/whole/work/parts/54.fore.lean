/-! ===== the class's Foresight: weigh ===== -/
/-- a program as told -/
def fP (F : iv_F) (nt nf ns nm : Nat) : Prop := (nt ≤ 8 ∧ nf ≤ 16 ∧ ns ≤ 8 ∧ nm ≤ 10) ∧ iv_mt F nm ∧ iv_ln F nt nf ns nm ∧ iv_ca F nm
theorem fP_L {F : iv_F} {nt nf ns nm : Nat} (h : fP F nt nf ns nm) : ∀ m, m < nm → ∃ y, y ≤ 24 ∧ F 9 m = nI y := fun m hm => (h.2.1.1 m hm).2.2.2.1.2
theorem fP_L' {F : iv_F} {nt nf ns nm : Nat} (h : fP F nt nf ns nm) : ∀ m, m < nm → (F 9 m).toNatClampNeg ≤ 24 := fun m hm => by
  obtain ⟨y, hy, e⟩ := fP_L h m hm
  rw [e, nI_clamp (by omega)]
  exact hy
theorem fP_4 {F : iv_F} {nt nf ns nm : Nat} (h : fP F nt nf ns nm) : ∀ m, m < nm → ∃ y, y ≤ 4 ∧ F 14 m = nI y := fun m hm => (h.2.1.1 m hm).2.2.2.2.2
theorem fP_q {F : iv_F} {nt nf ns nm : Nat} (h : fP F nt nf ns nm) : ∀ m, m < nm → ∃ y, y ≤ 3 ∧ F 7 m = nI y := fun m hm => (h.2.1.1 m hm).2.1.2
theorem fP_q' {F : iv_F} {nt nf ns nm : Nat} (h : fP F nt nf ns nm) : ∀ m, m < nm → (F 7 m).toNatClampNeg ≤ 3 := fun m hm => by
  obtain ⟨y, hy, e⟩ := fP_q h m hm
  rw [e, nI_clamp (by omega)]
  exact hy
theorem fZ_W {st P : Nat → Prop} {a : Nat} (h : fZ st) (hP : ∃ b, b < 6 ∧ P b) : fZ (fW st a P) := fun r hr => by
  by_cases e : r = a
  · obtain ⟨b, h1, h2⟩ := hP
    exact ⟨b, fW_L.mpr (Or.inl ⟨e, h1, h2⟩)⟩
  · obtain ⟨b, hb⟩ := h r hr
    exact ⟨b, fW_L.mpr (Or.inr ⟨e, hb⟩)⟩
/-- what is known of the LINE that is weighed: m, l, what is ahead of it (w) -/
def fK (F : iv_F) (nt nf ns nm : Nat) (X : fX) (m l : Nat) (w : Int64) : Prop := fP F nt nf ns nm ∧ (m < nm ∧ l < (F 9 m).toNatClampNeg) ∧ (∀ i, qB w i → X 1 m l i) ∧ fZ (qB w)
def fQ (F : iv_F) (nm : Nat) (X : fX) (m l : Nat) (w : Int64) (o a b c : Nat) (σ : pz_Sg) (v : Option Value) (σ' : pz_Sg) : Prop := ∃ th, v = some (.int th) ∧ (∀ f, 1 ≤ f → f < 10 → bB th f → fTh F X m l f) ∧ ∃ C : fX → Prop, fG F nm X σ σ' C ∧ ∀ Y, Y 1 m l = qB w → C Y → (∀ f, 1 ≤ f → f < 10 → bB th f → fTh F Y m l f) → fRo F Y m l a b c o
/-- the same, where no fault is told of -/
def fQv (F : iv_F) (nm : Nat) (X : fX) (m l : Nat) (w : Int64) (o a b c : Nat) (σ σ' : pz_Sg) : Prop := ∃ C : fX → Prop, fG F nm X σ σ' C ∧ ∀ Y, Y 1 m l = qB w → C Y → fRo F Y m l a b c o
theorem bB_n {f : Nat} : ¬ bB 0 f := fun h => absurd ((b_0 f).symm.trans h) (by decide)
theorem bB_n4 : bB (nI 4) = fun i => i = 2 := bB_of (by decide +kernel) (fun i h => by omega)
theorem fix24 {m l : Nat} (hm : m < 10) (hl : l < 24) : nI m * nI 24 + nI l = nI (24 * m + l) ∧ (nI (24 * m + l)).toNatClampNeg = 24 * m + l ∧ vp_in (nI (24 * m + l)) 240 := ⟨by rw [pk_mul, nI_add, Nat.mul_comm], nI_clamp (by omega), vp_in_nI (by omega) (by decide)⟩
theorem fG_rc {F : iv_F} {nt nf ns nm : Nat} {X : fX} {m l : Nat} {w : Int64} (K : fK F nt nf ns nm X m l w) {σ : pz_Sg} (H : fI F nm X σ) {l' : Nat} (R : fCm F X m l' (X 1 m l)) : fG F nm X σ (freach F σ m l' w) (fun Y => fCm F Y m l' (qB w)) := fG_reach K.1.1.2.2.2 (fP_L' K.1) H K.2.1.1 (fCm_w K.2.2.1 R) K.2.2.2
theorem fG_rw {F : iv_F} {nt nf ns nm : Nat} {X : fX} {m l : Nat} {w : Int64} (K : fK F nt nf ns nm X m l w) {σ : pz_Sg} (H : fI F nm X σ) {l' a : Nat} (ha : a < 8) {x : Int32} {P Q : Nat → Prop} (hx : bB x = P) (h6 : ∀ i, P i → i < 6) (hn : ∃ i, P i) (hQ : ∀ i, P i → Q i) (R : fCm F X m l' (fW (X 1 m l) a Q)) : fG F nm X σ (freach F σ m l' (qw w a x)) (fun Y => fCm F Y m l' (fW (qB w) a P)) := by
  have e : qB (qw w a x) = fW (qB w) a P := by rw [qw_B ha (fun i hi => h6 i (by rw [← hx]; exact hi)), hx]
  rw [← e]
  refine fG_reach K.1.1.2.2.2 (fP_L' K.1) H K.2.1.1 (fCm_w (fun i hi => ?_) R) ?_
  · rw [e] at hi
    exact fW_m K.2.2.1 (fun b _ hb => hQ b hb) hi
  · rw [e]
    exact fZ_W K.2.2.2 (hn.imp fun i hi => ⟨h6 i hi, hi⟩)
theorem w_rc {F : iv_F} {nt nf ns nm : Nat} {X : fX} {m l : Nat} {w : Int64} (K : fK F nt nf ns nm X m l w) {σ : pz_Sg} (H : fI F nm X σ) (w' : Int64) : pz_WP 13 (0, pz_en 8 [.ref 31, .int (nI m), .int (nI (l + 1)), .long w'], []) σ (pz_is none (freach F σ m (l + 1) w')) := w_reach K.1.1.2.2.2 (fP_L K.1) H K.2.1.1 (by have := fP_L' K.1 m K.2.1.1; have := K.2.1.2; omega) w'
theorem w_plain {F : iv_F} {nt nf ns nm : Nat} {X : fX} {m l : Nat} {w : Int64} (K : fK F nt nf ns nm X m l w) {σ : pz_Sg} (H : fI F nm X σ) {o a b : Nat} (c : Nat) (e10 : F 10 (24 * m + l) = nI o) (ho : o < 10 ∨ o = 22) (ha : 6 ≤ o → o ≤ 9 → F 11 (24 * m + l) = nI a ∧ a < 8) (hb : o = 7 → F 12 (24 * m + l) = nI b ∧ b < 8) (R : fRo F X m l a b c o) : pz_WP 20 (0, pz_en 10 [.ref 31, .int (nI m), .int (nI l), .long w], []) σ (fQ F nm X m l w o a b c σ) := by
  have bm := K.1.1.2.2.2
  have bl := fP_L' K.1 m K.2.1.1
  have hl := K.2.1.2
  have hm := K.2.1.1
  obtain ⟨ix, cx, vx⟩ := fix24 (m := m) (l := l) (by omega) (by omega)
  have s10 : σ.1 10 = F 10 := H.1 10 rfl
  have s11 : σ.1 11 = F 11 := H.1 11 rfl
  have s12 : σ.1 12 = F 12 := H.1 12 rfl
  refine pv_20 _ _ _ σ _ ?_
  rw [ix, cx, s10, s11, s12, e10, nI_1]
  have ho' : o = 0 ∨ o = 1 ∨ o = 2 ∨ o = 3 ∨ o = 4 ∨ o = 5 ∨ o = 6 ∨ o = 7 ∨ o = 8 ∨ o = 9 ∨ o = 22 := by omega
  rcases ho' with rfl | rfl | rfl | rfl | rfl | rfl | rfl | rfl | rfl | rfl | rfl
  · refine ⟨vx, vx, fun _ => pz_kv (w_rc K H w) ⟨0, rfl, fun f _ _ z => absurd z bB_n, _, fG_rc K H R, fun Y hY cY tY => by show fCm F Y m (l + 1) (Y 1 m l); rw [hY]; exact cY⟩, ?_, ?_, ?_, ?_, ?_, ?_, ?_, ?_, ?_, ?_, ?_, ?_, ?_, ?_, ?_, ?_, ?_, ?_, ?_, trivial⟩ <;> (intro z; exact absurd z (by decide))
  · refine ⟨vx, vx, fun _ => pz_kv (w_rc K H w) ⟨0, rfl, fun f _ _ z => absurd z bB_n, _, fG_rc K H R, fun Y hY cY tY => by show fCm F Y m (l + 1) (Y 1 m l); rw [hY]; exact cY⟩, ?_, ?_, ?_, ?_, ?_, ?_, ?_, ?_, ?_, ?_, ?_, ?_, ?_, ?_, ?_, ?_, ?_, ?_, ?_, trivial⟩ <;> (intro z; exact absurd z (by decide))
  · refine ⟨vx, vx, fun _ => pz_kv (w_rc K H w) ⟨0, rfl, fun f _ _ z => absurd z bB_n, _, fG_rc K H R, fun Y hY cY tY => by show fCm F Y m (l + 1) (Y 1 m l); rw [hY]; exact cY⟩, ?_, ?_, ?_, ?_, ?_, ?_, ?_, ?_, ?_, ?_, ?_, ?_, ?_, ?_, ?_, ?_, ?_, ?_, ?_, trivial⟩ <;> (intro z; exact absurd z (by decide))
  · refine ⟨vx, vx, fun _ => pz_kv (w_rc K H w) ⟨0, rfl, fun f _ _ z => absurd z bB_n, _, fG_rc K H R, fun Y hY cY tY => by show fCm F Y m (l + 1) (Y 1 m l); rw [hY]; exact cY⟩, ?_, ?_, ?_, ?_, ?_, ?_, ?_, ?_, ?_, ?_, ?_, ?_, ?_, ?_, ?_, ?_, ?_, ?_, ?_, trivial⟩ <;> (intro z; exact absurd z (by decide))
  · refine ⟨vx, vx, ?_, fun _ => pz_kv (w_rc K H w) ⟨nI 2, rfl, fun f _ _ z => by rw [bB_2] at z; rw [show f = 1 from z]; exact R.1, _, fG_rc K H R.2, fun Y hY cY tY => ⟨tY 1 (by decide) (by decide) (by rw [bB_2]), by rw [hY]; exact cY⟩⟩, ?_, ?_, ?_, ?_, ?_, ?_, ?_, ?_, ?_, ?_, ?_, ?_, ?_, ?_, ?_, ?_, ?_, ?_, trivial⟩ <;> (intro z; exact absurd z (by decide))
  · refine ⟨vx, vx, ?_, ?_, fun _ => pz_kv (w_rc K H w) ⟨nI 2, rfl, fun f _ _ z => by rw [bB_2] at z; rw [show f = 1 from z]; exact R.1, _, fG_rc K H R.2, fun Y hY cY tY => ⟨tY 1 (by decide) (by decide) (by rw [bB_2]), by rw [hY]; exact cY⟩⟩, ?_, ?_, ?_, ?_, ?_, ?_, ?_, ?_, ?_, ?_, ?_, ?_, ?_, ?_, ?_, ?_, ?_, trivial⟩ <;> (intro z; exact absurd z (by decide))
  · rw [(ha (by decide) (by decide)).1]; refine ⟨vx, vx, ?_, ?_, ?_, fun _ => pz_kl (w_with w a 1 σ) (pz_kv (w_rc K H _) ⟨0, rfl, fun f _ _ z => absurd z bB_n, _, fG_rw K H (ha (by decide) (by decide)).2 bB_1 (fun i hi => by omega) ⟨0, rfl⟩ (fun i hi => hi) R, fun Y hY cY tY => by show fCm F Y m (l + 1) (fW (Y 1 m l) a (fun i => i = 0)); rw [hY]; exact cY⟩), ?_, ?_, ?_, ?_, ?_, ?_, ?_, ?_, ?_, ?_, ?_, ?_, ?_, ?_, ?_, ?_, trivial⟩ <;> (intro z; exact absurd z (by decide))
  · rw [(ha (by decide) (by decide)).1]; rw [(hb rfl).1]; refine ⟨vx, vx, ?_, ?_, ?_, ?_, fun _ => ⟨vx, pz_ki (w_mayOf w b σ) (pz_kl (w_with w a _ σ) (pz_kv (w_rc K H _) ⟨0, rfl, fun f _ _ z => absurd z bB_n, _, fG_rw K H (ha (by decide) (by decide)).2 (my_B (hb rfl).2) (fun i hi => hi.1) (K.2.2.2 b (hb rfl).2) (fun i hi => fL_m K.2.2.1 hi) R, fun Y hY cY tY => by show fCm F Y m (l + 1) (fW (Y 1 m l) a (fL (Y 1 m l) b)); rw [hY]; exact cY⟩))⟩, ?_, ?_, ?_, ?_, ?_, ?_, ?_, ?_, ?_, ?_, ?_, ?_, ?_, ?_, ?_, trivial⟩ <;> (intro z; exact absurd z (by decide))
  · rw [(ha (by decide) (by decide)).1]; refine ⟨vx, vx, ?_, ?_, ?_, ?_, ?_, fun _ => pz_kl (w_with w a (nI 2) σ) (pz_kv (w_rc K H _) ⟨0, rfl, fun f _ _ z => absurd z bB_n, _, fG_rw K H (ha (by decide) (by decide)).2 bB_2 (fun i hi => by omega) ⟨1, rfl⟩ (fun i hi => hi) R, fun Y hY cY tY => by show fCm F Y m (l + 1) (fW (Y 1 m l) a (fun i => i = 1)); rw [hY]; exact cY⟩), ?_, ?_, ?_, ?_, ?_, ?_, ?_, ?_, ?_, ?_, ?_, ?_, ?_, ?_, trivial⟩ <;> (intro z; exact absurd z (by decide))
  · rw [(ha (by decide) (by decide)).1]; refine ⟨vx, vx, ?_, ?_, ?_, ?_, ?_, ?_, fun _ => pz_kl (w_with w a (nI 2) σ) (pz_kv (w_rc K H _) ⟨nI 4, rfl, fun f _ _ z => by rw [bB_n4] at z; rw [show f = 2 from z]; exact R.1, _, fG_rw K H (ha (by decide) (by decide)).2 bB_2 (fun i hi => by omega) ⟨1, rfl⟩ (fun i hi => hi) R.2, fun Y hY cY tY => ⟨tY 2 (by decide) (by decide) (by rw [bB_n4]), by rw [hY]; exact cY⟩⟩), ?_, ?_, ?_, ?_, ?_, ?_, ?_, ?_, ?_, ?_, ?_, ?_, ?_, trivial⟩ <;> (intro z; exact absurd z (by decide))
  · refine ⟨vx, vx, ?_, ?_, ?_, ?_, ?_, ?_, ?_, ?_, ?_, ?_, ?_, ?_, ?_, ?_, ?_, ?_, ?_, ?_, ?_, fun _ => pz_kv (w_mayPrint (by omega) (H.2.2.2.2 m (by omega)).1) (pz_kv (w_rc K (fG_print H (by omega) R.1).2.1 w) ⟨0, rfl, fun f _ _ z => absurd z bB_n, _, fG_s (fG_print H (by omega) R.1) (fG_rc K (fG_print H (by omega) R.1).2.1 R.2), fun Y hY cY tY => ⟨cY.1, by rw [hY]; exact cY.2⟩⟩), trivial⟩ <;> (intro z; exact absurd z (by decide))
theorem fG_t33 {F : iv_F} {nt nf ns nm : Nat} {X : fX} {m l : Nat} {w : Int64} (K : fK F nt nf ns nm X m l w) {σ : pz_Sg} (H : fI F nm X σ) {is pl : Int32} {P Q : Nat → Prop} (h1 : bB pl = P) (h2 : bB is = Q) (hX : fTo X 6 m P Q) : fG F nm X σ (ftouch 33 σ m is pl) (fun Y => fTo Y 6 m P Q) := by
  rw [← h1, ← h2]
  rw [← h1, ← h2] at hX
  exact fG_touch H (Or.inl ⟨rfl, rfl⟩) (by have := K.1.1.2.2.2; have := K.2.1.1; omega) hX
theorem fG_t34 {F : iv_F} {nt nf ns nm : Nat} {X : fX} {m l : Nat} {w : Int64} (K : fK F nt nf ns nm X m l w) {σ : pz_Sg} (H : fI F nm X σ) {is pl : Int32} {P Q : Nat → Prop} (h1 : bB pl = P) (h2 : bB is = Q) (hX : fTo X 7 m P Q) : fG F nm X σ (ftouch 34 σ m is pl) (fun Y => fTo Y 7 m P Q) := by
  rw [← h1, ← h2]
  rw [← h1, ← h2] at hX
  exact fG_touch H (Or.inr ⟨rfl, rfl⟩) (by have := K.1.1.2.2.2; have := K.2.1.1; omega) hX
theorem w_static {F : iv_F} {nt nf ns nm : Nat} {X : fX} {m l : Nat} {w : Int64} (K : fK F nt nf ns nm X m l w) {σ : pz_Sg} (H : fI F nm X σ) {o a b : Nat} (c : Nat) (e10 : F 10 (24 * m + l) = nI o) (ho : 16 ≤ o ∧ o ≤ 19) (ha : F 11 (24 * m + l) = nI a ∧ a < 8) (hb : F 12 (24 * m + l) = nI b ∧ b < 8) (R : fRo F X m l a b c o) : pz_WP 22 (0, pz_en 9 [.ref 31, .int (nI m), .int (nI l), .long w], []) σ (fun v σ' => v = none ∧ fQv F nm X m l w o a b c σ σ') := by
  have bm := K.1.1.2.2.2
  have bl := fP_L' K.1 m K.2.1.1
  have hl := K.2.1.2
  have hm := K.2.1.1
  have m10 : m < 10 := by omega
  obtain ⟨ix, cx, vx⟩ := fix24 (m := m) (l := l) (by omega) (by omega)
  have s10 : σ.1 10 = F 10 := H.1 10 rfl
  have s11 : σ.1 11 = F 11 := H.1 11 rfl
  have s12 : σ.1 12 = F 12 := H.1 12 rfl
  have pl : ∀ x, x < 8 → bB ((1 : Int32) <<< ((nI 16 + nI x) &&& 31)) = fun p => p = 16 + x := fun x hx => by
    rw [nI_add]
    exact bB_sh (by omega)
  refine pv_22 _ _ _ σ _ ?_
  rw [ix, cx, s10, e10]
  have ho' : o = 16 ∨ o = 17 ∨ o = 18 ∨ o = 19 := by omega
  rcases ho' with rfl | rfl | rfl | rfl
  · refine ⟨vx, fun z => absurd z (by decide), fun _ => ⟨fun z => absurd z (by decide), fun _ => ?_⟩⟩
    refine pv_22_39 _ _ _ _ _ _ σ _ ?_
    rw [cx, s11, s12, ha.1, hb.1]
    refine ⟨fun _ => ⟨vx, ?_⟩, fun z => absurd rfl z⟩
    refine pv_22_69 _ _ _ _ _ _ _ σ _ ⟨fun _ => ?_, fun z => absurd rfl z⟩
    have g1 := fG_t33 K H (pl b hb.2) bB_32 R.1
    refine pv_22_88 _ _ _ _ _ _ σ _ (pz_kv (w_touch33 m10 _ _) ?_)
    refine ⟨fun z => absurd z (by decide), fun _ => ?_⟩
    rw [nI_1]
    exact pz_kv (w_rc K g1.2.1 w) ⟨rfl, _, fG_s g1 (fG_rc K g1.2.1 R.2), fun Y hY cY => ⟨cY.1, by rw [hY]; exact cY.2⟩⟩
  · refine ⟨vx, fun _ => ?_, fun z => absurd rfl z⟩
    refine pv_22_39 _ _ _ _ _ _ σ _ ?_
    rw [cx, s11, s12, ha.1, hb.1]
    refine ⟨fun z => absurd z (by decide), fun _ => ⟨vx, ?_⟩⟩
    refine pv_22_69 _ _ _ _ _ _ _ σ _ ⟨fun z => absurd z (by decide), fun _ => ?_⟩
    have g1 := fG_t34 K H (pl a ha.2) bB_32 R.1
    refine pv_22_88a _ _ _ _ _ _ σ _ (pz_kv (w_touch34 m10 _ _) ?_)
    refine ⟨fun z => absurd z (by decide), fun _ => ?_⟩
    rw [nI_1]
    exact pz_kv (w_rc K g1.2.1 w) ⟨rfl, _, fG_s g1 (fG_rc K g1.2.1 R.2), fun Y hY cY => ⟨cY.1, by rw [hY]; exact cY.2⟩⟩
  · refine ⟨vx, fun z => absurd z (by decide), fun _ => ⟨fun z => absurd z (by decide), fun _ => ?_⟩⟩
    refine pv_22_39 _ _ _ _ _ _ σ _ ?_
    rw [cx, s11, s12, ha.1, hb.1]
    refine ⟨fun _ => ⟨vx, ?_⟩, fun z => absurd rfl z⟩
    refine pv_22_69 _ _ _ _ _ _ _ σ _ ⟨fun _ => ?_, fun z => absurd rfl z⟩
    have g1 := fG_t33 K H (pl b hb.2) bB_32 R.1
    refine pv_22_88 _ _ _ _ _ _ σ _ (pz_kv (w_touch33 m10 _ _) ?_)
    refine ⟨fun _ => ⟨vx, ?_⟩, fun z => absurd rfl z⟩
    rw [cx, g1.2.1.1 11 rfl, ha.1, nI_1]
    refine pz_kl (w_with w a (nI 33) _) (pz_kv (w_rc K g1.2.1 _) ⟨rfl, _, fG_s g1 (fG_rw K g1.2.1 ha.2 bB_33 (fun i hi => by omega) ⟨0, Or.inl rfl⟩ (fun i hi => hi) R.2), fun Y hY cY => ⟨cY.1, by rw [hY]; exact cY.2⟩⟩)
  · refine ⟨vx, fun z => absurd z (by decide), fun _ => ⟨fun _ => ?_, fun z => absurd rfl z⟩⟩
    refine pv_22_39 _ _ _ _ _ _ σ _ ?_
    rw [cx, s11, s12, ha.1, hb.1]
    refine ⟨fun z => absurd z (by decide), fun _ => ⟨vx, ?_⟩⟩
    refine pv_22_69 _ _ _ _ _ _ _ σ _ ⟨fun z => absurd z (by decide), fun _ => ?_⟩
    have g1 := fG_t34 K H (pl a ha.2) bB_32 R.1
    refine pv_22_88a _ _ _ _ _ _ σ _ (pz_kv (w_touch34 m10 _ _) ?_)
    refine ⟨fun z => absurd z (by decide), fun _ => ?_⟩
    rw [nI_1]
    exact pz_kv (w_rc K g1.2.1 w) ⟨rfl, _, fG_s g1 (fG_rc K g1.2.1 R.2), fun Y hY cY => ⟨cY.1, by rw [hY]; exact cY.2⟩⟩
theorem fZ_n {w : Int64} (h : fZ (qB w)) : ¬ w = 0 := fun z => by
  obtain ⟨b, hb⟩ := h 0 (by decide)
  exact (qB_0.mp z) _ hb.2
/-- something else than null -/
theorem bB_so {w : Int64} {a : Nat} (ha : a < 8) : bB (iv_my w a &&& (-(nI 2))) = fN (fL (qB w) a) := funext fun i => propext (by
  show bt _ i = true ↔ _
  rw [b_not1, Bool.and_eq_true, decide_eq_true_iff]
  have : bt (iv_my w a) i = true ↔ fL (qB w) a i := by rw [← my_B ha]; exact Iff.rfl
  rw [this]
  exact and_comm)
theorem bB_so0 {w : Int64} {a : Nat} (ha : a < 8) : iv_my w a &&& (-(nI 2)) = iv_my w a ↔ ¬ fL (qB w) a 0 := by
  have : ∀ i, bt (iv_my w a) i = true ↔ fL (qB w) a i := fun i => by rw [← my_B ha]; exact Iff.rfl
  constructor
  · intro h z
    have := (this 0).mpr z
    rw [← h, b_not1] at this
    exact absurd this (by simp)
  · intro h
    apply b_ext
    intro i _
    rw [b_not1]
    by_cases e : 0 < i
    · simp [e]
    · have e : i = 0 := by omega
      subst e
      cases y : bt (iv_my w a) 0
      · rfl
      · exact absurd ((this 0).mp y) h
theorem bB_soz {w : Int64} {a : Nat} (ha : a < 8) : iv_my w a &&& (-(nI 2)) = 0 ↔ ¬ ∃ i, fN (fL (qB w) a) i := by
  rw [bB_0, bB_so ha]
  exact ⟨fun h ⟨i, hi⟩ => h i hi, fun h i hi => h ⟨i, hi⟩⟩
theorem w_br {F : iv_F} {nt nf ns nm : Nat} {X : fX} {m l : Nat} {w : Int64} (K : fK F nt nf ns nm X m l w) {σ : pz_Sg} (H : fI F nm X σ) {c : Nat} (hc : F 13 (24 * m + l) = nI c ∧ c < 25) {tw bw : Int64} {Ct Cb : fX → Prop} (ht : ¬ tw = 0 → fG F nm X σ (freach F σ m c tw) Ct) (hb : ¬ bw = 0 → ∀ s, fI F nm X s → fG F nm X s (freach F s m (l + 1) bw) Cb) : pz_WP 25 (128, [some (.ref 31), some (.int (nI m)), some (.int (nI l)), none, none, some (.int (nI (24 * m + l))), none, none, none, none, some (.long tw), none, some (.long bw), none], []) σ (fun v σ' => v = none ∧ ∃ C, fG F nm X σ σ' C ∧ ∀ Y, C Y → (¬ tw = 0 → Ct Y) ∧ (¬ bw = 0 → Cb Y)) := by
  have bm := K.1.1.2.2.2
  have bl := fP_L' K.1 m K.2.1.1
  have hl := K.2.1.2
  have hm := K.2.1.1
  obtain ⟨ix, cx, vx⟩ := fix24 (m := m) (l := l) (by omega) (by omega)
  have tail : ∀ (s : pz_Sg) (C : fX → Prop), fG F nm X σ s C → (∀ Y, C Y → ¬ tw = 0 → Ct Y) → pz_WP 25 (152, [some (.ref 31), some (.int (nI m)), some (.int (nI l)), none, none, none, none, none, none, none, none, none, some (.long bw), none], []) s (fun v σ' => v = none ∧ ∃ C, fG F nm X σ σ' C ∧ ∀ Y, C Y → (¬ tw = 0 → Ct Y) ∧ (¬ bw = 0 → Cb Y)) := by
    intro s C hC hh
    refine pv_25_152 _ _ _ s _ ⟨fun z => ⟨rfl, C, hC, fun Y hY => ⟨hh Y hY, fun y => absurd (lg0.mp z) y⟩⟩, fun z => ?_⟩
    have nb : ¬ bw = 0 := fun y => z (lg0.mpr y)
    rw [nI_1]
    exact pz_kv (w_rc K hC.2.1 bw) ⟨rfl, _, fG_s hC (hb nb s hC.2.1), fun Y hY => ⟨hh Y hY.1, fun _ => hY.2⟩⟩
  refine pv_25_128 _ _ _ _ _ σ _ ⟨fun z => tail σ _ (fG_r H) (fun _ _ y => absurd (lg0.mp z) y), fun z => ⟨vx, ?_⟩⟩
  have nt' : ¬ tw = 0 := fun y => z (lg0.mpr y)
  rw [cx, H.1 13 rfl, hc.1]
  exact pz_kv (w_reach bm (fP_L K.1) H hm (by omega) tw) (tail _ _ (ht nt') (fun Y hY _ => hY))
theorem w_branch {F : iv_F} {nt nf ns nm : Nat} {X : fX} {m l : Nat} {w : Int64} (K : fK F nt nf ns nm X m l w) {σ : pz_Sg} (H : fI F nm X σ) {o a c : Nat} (b : Nat) (e10 : F 10 (24 * m + l) = nI o) (ho : 23 ≤ o ∧ o ≤ 27) (ha : F 11 (24 * m + l) = nI a ∧ a < 8) (hc : F 13 (24 * m + l) = nI c ∧ c < 25) (R : fRo F X m l a b c o) : pz_WP 25 (0, pz_en 14 [.ref 31, .int (nI m), .int (nI l), .long w], []) σ (fun v σ' => v = none ∧ fQv F nm X m l w o a b c σ σ') := by
  have bm := K.1.1.2.2.2
  have bl := fP_L' K.1 m K.2.1.1
  have hl := K.2.1.2
  have hm := K.2.1.1
  obtain ⟨ix, cx, vx⟩ := fix24 (m := m) (l := l) (by omega) (by omega)
  have s10 : σ.1 10 = F 10 := H.1 10 rfl
  have s11 : σ.1 11 = F 11 := H.1 11 rfl
  have wn := fZ_n K.2.2.2
  refine pv_25 _ _ _ σ _ ?_
  rw [ix, cx, s10, s11, e10, ha.1]
  refine ⟨vx, vx, pz_ki (w_mayOf w a σ) ?_⟩
  have plain : ∀ k, o = k → (fRo F X m l a b c k → fCm F X m c (X 1 m l) ∧ fCm F X m (l + 1) (X 1 m l)) → (∀ Y, fCm F Y m c (Y 1 m l) ∧ fCm F Y m (l + 1) (Y 1 m l) → fRo F Y m l a b c k) → pz_WP 25 (128, [some (.ref 31), some (.int (nI m)), some (.int (nI l)), none, none, some (.int (nI (24 * m + l))), none, none, none, none, some (.long w), none, some (.long w), none], []) σ (fun v σ' => v = none ∧ fQv F nm X m l w o a b c σ σ') := by
    rintro k rfl h1 h2
    obtain ⟨r1, r2⟩ := h1 R
    refine pz_conseq (w_br K H hc (tw := w) (bw := w) (fun _ => fG_rc K H r1) (fun _ s hs => fG_rc K hs r2)) ?_
    rintro v σ' ⟨rfl, C, hC, hh⟩
    refine ⟨rfl, C, hC, fun Y hY cY => h2 Y ?_⟩
    rw [hY]
    exact ⟨(hh Y cY).1 wn, (hh Y cY).2 wn⟩
  have hX1 : ∀ i, fL (qB w) a i → fL (X 1 m l) a i := fun i hi => fL_m K.2.2.1 hi
  have ho' : o = 23 ∨ o = 24 ∨ o = 26 ∨ o = 25 ∨ o = 27 := by omega
  rcases ho' with rfl | rfl | rfl | rfl | rfl
  · exact ⟨fun z => absurd z (by decide), fun _ => ⟨fun z => absurd z (by decide), fun _ => plain 23 rfl id (fun _ h => h)⟩⟩
  · exact ⟨fun z => absurd z (by decide), fun _ => ⟨fun z => absurd z (by decide), fun _ => plain 24 rfl id (fun _ h => h)⟩⟩
  · exact ⟨fun z => absurd z (by decide), fun _ => ⟨fun z => absurd z (by decide), fun _ => plain 26 rfl id (fun _ h => h)⟩⟩
  · refine ⟨fun _ => ?_, fun z => absurd rfl z⟩
    have t0 : ∀ (tw : Int64), (fL (qB w) a 0 → tw = qw w a 1) → (¬ fL (qB w) a 0 → tw = 0) → pz_WP 25 (78, [some (.ref 31), some (.int (nI m)), some (.int (nI l)), some (.long w), none, some (.int (nI (24 * m + l))), none, some (.int (nI a)), none, some (.int (iv_my w a &&& (-(nI 2)))), none, none, none, none], [.long tw]) σ (fun v σ' => v = none ∧ fQv F nm X m l w 25 a b c σ σ') := by
      intro tw k1 k2
      have gt : ¬ tw = 0 → fG F nm X σ (freach F σ m c tw) (fun Y => fCm F Y m c (fW (qB w) a (fun i => i = 0))) := fun z => by
        have y : fL (qB w) a 0 := Classical.not_not.mp fun q => z (k2 q)
        rw [k1 y]
        exact fG_rw K H ha.2 bB_1 (fun i hi => by omega) ⟨0, rfl⟩ (fun i hi => hi) (R.1 (hX1 0 y))
      have fin : ∀ (bw : Int64), ((∃ i, fN (fL (qB w) a) i) → bw = qw w a (iv_my w a &&& (-(nI 2)))) → ((¬ ∃ i, fN (fL (qB w) a) i) → bw = 0) → pz_WP 25 (128, [some (.ref 31), some (.int (nI m)), some (.int (nI l)), none, none, some (.int (nI (24 * m + l))), none, none, none, none, some (.long tw), none, some (.long bw), none], []) σ (fun v σ' => v = none ∧ fQv F nm X m l w 25 a b c σ σ') := by
        intro bw k3 k4
        have gb : ¬ bw = 0 → ∀ s, fI F nm X s → fG F nm X s (freach F s m (l + 1) bw) (fun Y => fCm F Y m (l + 1) (fW (qB w) a (fN (fL (qB w) a)))) := fun z s hs => by
          have y : ∃ i, fN (fL (qB w) a) i := Classical.not_not.mp fun q => z (k4 q)
          rw [k3 y]
          exact fG_rw K hs ha.2 (bB_so ha.2) (fun i hi => hi.2.1) y (fun i hi => fN_m hX1 hi) (R.2 (y.imp fun i hi => fN_m hX1 hi))
        refine pz_conseq (w_br K H hc gt gb) ?_
        rintro v σ' ⟨rfl, C, hC, hh⟩
        refine ⟨rfl, C, hC, fun Y hY cY => ?_⟩
        show (fL (Y 1 m l) a 0 → fCm F Y m c (fW (Y 1 m l) a (fun i => i = 0))) ∧ ((∃ i, fN (fL (Y 1 m l) a) i) → fCm F Y m (l + 1) (fW (Y 1 m l) a (fN (fL (Y 1 m l) a))))
        rw [hY]
        refine ⟨fun y => (hh Y cY).1 ?_, fun y => (hh Y cY).2 ?_⟩
        · rw [k1 y]
          refine fZ_n ?_
          rw [qw_B ha.2 (fun i hi => by rw [bB_1] at hi; omega), bB_1]
          exact fZ_W K.2.2.2 ⟨0, by decide, rfl⟩
        · rw [k3 y]
          refine fZ_n ?_
          rw [qw_B ha.2 (fun i hi => by rw [bB_so ha.2] at hi; exact hi.2.1), bB_so ha.2]
          exact fZ_W K.2.2.2 (y.imp fun i hi => ⟨hi.2.1, hi⟩)
      refine pv_25_78 _ _ _ _ _ _ _ σ _ ⟨fun z => fin 0 (fun y => absurd y ((bB_soz ha.2).mp z)) (fun _ => rfl), fun z => pz_kl (w_with w a _ σ) (fin _ (fun _ => rfl) (fun y => absurd ((bB_soz ha.2).mpr y) z))⟩
    exact ⟨fun z => t0 0 (fun y => absurd y ((bB_so0 ha.2).mp z)) (fun _ => rfl), fun z => pz_kl (w_with w a 1 σ) (t0 _ (fun _ => rfl) (fun y => absurd ((bB_so0 ha.2).mpr y) z))⟩
  · refine ⟨fun z => absurd z (by decide), fun _ => ⟨fun _ => ?_, fun z => absurd rfl z⟩⟩
    have fin : ∀ (tw : Int64), ((∃ i, fN (fL (qB w) a) i) → tw = qw w a (iv_my w a &&& (-(nI 2)))) → ((¬ ∃ i, fN (fL (qB w) a) i) → tw = 0) → pz_WP 25 (128, [some (.ref 31), some (.int (nI m)), some (.int (nI l)), none, none, some (.int (nI (24 * m + l))), none, none, none, none, some (.long tw), none, some (.long w), none], []) σ (fun v σ' => v = none ∧ fQv F nm X m l w 27 a b c σ σ') := by
      intro tw k3 k4
      have gt : ¬ tw = 0 → fG F nm X σ (freach F σ m c tw) (fun Y => fCm F Y m c (fW (qB w) a (fN (fL (qB w) a)))) := fun z => by
        have y : ∃ i, fN (fL (qB w) a) i := Classical.not_not.mp fun q => z (k4 q)
        rw [k3 y]
        exact fG_rw K H ha.2 (bB_so ha.2) (fun i hi => hi.2.1) y (fun i hi => fN_m hX1 hi) (R.1 (y.imp fun i hi => fN_m hX1 hi))
      refine pz_conseq (w_br K H hc gt (fun _ s hs => fG_rc K hs (R.2 ((K.2.2.2 a ha.2).imp hX1)))) ?_
      rintro v σ' ⟨rfl, C, hC, hh⟩
      refine ⟨rfl, C, hC, fun Y hY cY => ?_⟩
      show ((∃ i, fN (fL (Y 1 m l) a) i) → fCm F Y m c (fW (Y 1 m l) a (fN (fL (Y 1 m l) a)))) ∧ ((∃ i, fL (Y 1 m l) a i) → fCm F Y m (l + 1) (Y 1 m l))
      rw [hY]
      refine ⟨fun y => (hh Y cY).1 ?_, fun _ => (hh Y cY).2 wn⟩
      rw [k3 y]
      refine fZ_n ?_
      rw [qw_B ha.2 (fun i hi => by rw [bB_so ha.2] at hi; exact hi.2.1), bB_so ha.2]
      exact fZ_W K.2.2.2 (y.imp fun i hi => ⟨hi.2.1, hi⟩)
    exact ⟨fun z => fin 0 (fun y => absurd y ((bB_soz ha.2).mp z)) (fun _ => rfl), fun z => pz_kl (w_with w a _ σ) (fin _ (fun _ => rfl) (fun y => absurd ((bB_soz ha.2).mpr y) z))⟩
theorem w_check {F : iv_F} {nt nf ns nm : Nat} {X : fX} {m l : Nat} {w : Int64} (K : fK F nt nf ns nm X m l w) {σ : pz_Sg} (H : fI F nm X σ) {o a : Nat} (b c : Nat) (e10 : F 10 (24 * m + l) = nI o) (ho : 29 ≤ o ∧ o ≤ 31) (ha : (o = 29 ∨ (o = 31 ∧ F 8 m = nI 2) → F 11 (24 * m + l) = nI a ∧ a < 8) ∧ (o = 30 → F 11 (24 * m + l) = nI a ∧ a < 4)) (R : fRo F X m l a b c o) : pz_WP 26 (0, pz_en 7 [.ref 31, .int (nI m), .int (nI l), .long w], []) σ (fQ F nm X m l w o a b c σ) := by
  have bm := K.1.1.2.2.2
  have bl := fP_L' K.1 m K.2.1.1
  have hl := K.2.1.2
  have hm := K.2.1.1
  obtain ⟨ix, cx, vx⟩ := fix24 (m := m) (l := l) (by omega) (by omega)
  have s10 : σ.1 10 = F 10 := H.1 10 rfl
  have s11 : σ.1 11 = F 11 := H.1 11 rfl
  have s8 : σ.1 8 = F 8 := H.1 8 rfl
  refine pv_26 _ _ _ σ _ ?_
  rw [ix, cx, s10, s11, s8, e10, nI_clamp (show m < 2 ^ 31 by omega), nI_1]
  have ho' : o = 29 ∨ o = 30 ∨ o = 31 := by omega
  rcases ho' with rfl | rfl | rfl
  · have h := ha.1 (Or.inl rfl)
    rw [h.1]
    refine ⟨vx, vx, fun _ => pz_kv (w_rc K H w) (pz_ki (w_mayOf w a _) ⟨fun z => ?_, fun z => ?_⟩), fun z => absurd rfl z⟩
    · have no : ¬ ∃ i, fN (fL (qB w) a) i := fun ⟨i, h1, h2⟩ => by
        rw [← my_B h.2, z, bB_1] at h2
        exact absurd h1 (by omega)
      refine ⟨0, rfl, fun f _ _ z => absurd z bB_n, _, fG_rc K H R.2, fun Y hY cY tY => ?_⟩
      show ((∃ i, fN (fL (Y 1 m l) a) i) → fTh F Y m l 5) ∧ fCm F Y m (l + 1) (Y 1 m l)
      rw [hY]
      exact ⟨fun y => absurd y no, cY⟩
    · have yes : ∃ i, fN (fL (qB w) a) i := Classical.not_not.mp fun q => z (b_ext fun i _ => by
        have t : ∀ i, bt (iv_my w a) i = true ↔ fL (qB w) a i := fun i => by rw [← my_B h.2]; exact Iff.rfl
        rw [b_1]
        by_cases e : i = 0
        · subst e
          obtain ⟨j, hj⟩ := K.2.2.2 a h.2
          have : j = 0 := Nat.eq_zero_of_not_pos fun y => q ⟨j, y, hj⟩
          subst this
          rw [(t 0).mpr hj]
          rfl
        · rw [decide_eq_false e]
          exact Bool.eq_false_iff.mpr fun y => q ⟨i, by omega, (t i).mp y⟩)
      refine ⟨nI 32, rfl, fun f _ _ z => ?_, _, fG_rc K H R.2, fun Y hY cY tY => ?_⟩
      · rw [bB_32] at z
        rw [show f = 5 from z]
        exact R.1 (yes.imp fun i hi => fN_m (fun i hi => fL_m K.2.2.1 hi) hi)
      · refine ⟨fun _ => tY 5 (by decide) (by decide) (by rw [bB_32]), ?_⟩
        rw [hY]
        exact cY
  · have h := ha.2 rfl
    rw [h.1]
    refine ⟨vx, vx, fun z => absurd z (by decide), fun _ => ⟨fun _ => ?_, fun z => absurd rfl z⟩⟩
    have e : bB ((1 : Int32) <<< ((nI 6 + nI a) &&& 31)) = fun i => i = 6 + a := by
      rw [nI_add]
      exact bB_sh (by omega)
    refine ⟨_, rfl, fun f _ _ z => ?_, _, fG_r H, fun Y hY cY tY => tY (6 + a) (by omega) (by omega) (by rw [e])⟩
    rw [e] at z
    rw [show f = 6 + a from z]
    exact R
  · refine ⟨vx, vx, fun z => absurd z (by decide), fun _ => ⟨fun z => absurd z (by decide), fun _ => ⟨vp_in_nI (by omega) (by decide), fun z => ?_, fun z => ?_⟩⟩⟩
    · have h := ha.1 (Or.inr ⟨rfl, z⟩)
      rw [h.1]
      refine pz_ki (w_mayOf w a σ) (pz_kv (w_end (F := F) (by omega) (H.2.2.2.2 m (by omega)).2 s8 _) ⟨0, rfl, fun f _ _ z => absurd z bB_n, _, fG_end H (by omega) R.1 (fun e => ⟨fun i hi => ?_, ?_⟩), fun Y hY cY tY => ?_⟩)
      · rw [my_B h.2] at hi
        exact R.2 e i (fL_m K.2.2.1 hi)
      · rw [my_B h.2]
        exact K.2.2.2 a h.2
      · show Y 2 m 0 0 ∧ (F 8 m = nI 2 → ∀ i, fL (Y 1 m l) a i → Y 5 m i 0)
        rw [hY]
        refine ⟨cY.1, fun e i hi => cY.2 e i ?_⟩
        rw [my_B h.2]
        exact hi
    · refine pz_kv (w_end (F := F) (by omega) (H.2.2.2.2 m (by omega)).2 s8 _) ⟨0, rfl, fun f _ _ z => absurd z bB_n, _, fG_end H (by omega) R.1 (fun e => absurd e z), fun Y hY cY tY => ⟨cY.1, fun e => absurd e z⟩⟩
