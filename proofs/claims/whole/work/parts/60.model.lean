/-! ===== the reference's goThrough ===== -/
theorem gI_88 {F : iv_F} {nm : Nat} {X : fX} {σ : pz_Sg} (H : gI F nm X σ) (a : Nat) (x : Int32) : gI F nm X (pz_up σ 88 a x) := ⟨⟨fun b hb => by rw [qz_rn _ _ _ _ (fun e => by rw [e] at hb; cases hb)]; exact H.1.1 b hb, H.1.2⟩, H.2.1, H.2.2.1, H.2.2.2⟩
theorem gG_88 {F : iv_F} {nm : Nat} {X : fX} {σ : pz_Sg} (H : gI F nm X σ) (a : Nat) (x : Int32) : gG F nm X σ (pz_up σ 88 a x) (fun _ => True) := by
  have o : ∀ b, b < 8 → (pz_up σ 88 a x).1 (80 + b) = σ.1 (80 + b) := fun b hb => qz_rn _ _ _ _ (by omega)
  exact ⟨⟨⟨fun _ _ h => h, fun b hb j i h => by rw [o b hb]; exact h⟩, ⟨fun _ _ => rfl, fun b hb j _ => by rw [o b hb], fun _ => rfl⟩, Or.inl ⟨⟨rfl, o⟩, rfl⟩⟩, gI_88 H a x, fun _ => trivial⟩
theorem r_88 {σ : pz_Sg} {a : Nat} {x : Int32} : (pz_up σ 88 a x).1 88 = fun r => if r = a then x else σ.1 88 r := funext fun r => by
  rw [qz_rd]
  simp
theorem bB_so1 {x : Int32} : bB (x &&& (-(nI 2))) = fN (bB x) := funext fun i => propext (by
  show bt _ i = true ↔ _
  rw [b_not1, Bool.and_eq_true, decide_eq_true_iff]
  exact and_comm)
theorem bB_so1z {x : Int32} : x &&& (-(nI 2)) = 0 ↔ ¬ ∃ i, fN (bB x) i := by
  rw [bB_0, bB_so1]
  exact ⟨fun h ⟨i, hi⟩ => h i hi, fun h i hi => h ⟨i, hi⟩⟩
theorem bB_b0 {x : Int32} : x &&& 1 = 1 ↔ bB x 0 := by
  constructor
  · intro h
    have : bB (x &&& 1) 0 := by rw [h, bB_1]
    exact (bB_a.mp this).1
  · intro h
    apply b_ext
    intro i _
    rw [b_and, b_1]
    by_cases e : i = 0
    · subst e
      rw [show bt x 0 = true from h]
      rfl
    · rw [decide_eq_false e, Bool.and_false]
theorem bB_b0' {x : Int32} : bB (x &&& 1) = fun i => i = 0 ∧ bB x 0 := funext fun i => propext (by
  rw [bB_a, bB_1]
  exact ⟨fun h => ⟨h.2, by have := h.1; rw [show i = 0 from h.2] at this; exact this⟩, fun h => ⟨by rw [h.1]; exact h.2, h.1⟩⟩)
theorem hN_W {N : Nat → Int32} (hN : ∀ r, r < 8 → ∀ b, bB (N r) b → b < 6) {a : Nat} {x : Int32} (hx : ∀ b, bB x b → b < 6) : ∀ r, r < 8 → ∀ b, bB ((fun r => if r = a then x else N r) r) b → b < 6 := fun r hr b hb => by
  by_cases e : r = a
  · have h : bB (if r = a then x else N r) b := hb
    rw [if_pos e] at h
    exact hx b h
  · have h : bB (if r = a then x else N r) b := hb
    rw [if_neg e] at h
    exact hN r hr b h
/-- what is known of the LINE: N is what is ahead of it -/
def gK (F : iv_F) (nt nf ns nm : Nat) (X : fX) (m l : Nat) (N : Nat → Int32) : Prop := fP F nt nf ns nm ∧ (m < nm ∧ l < (F 9 m).toNatClampNeg) ∧ (∀ i, nB N i → X 1 m l i) ∧ ∀ r, r < 8 → ∀ b, bB (N r) b → b < 6
def gQ (F : iv_F) (nm : Nat) (X : fX) (m l : Nat) (N : Nat → Int32) (o a b c : Nat) (σ : pz_Sg) (v : Option Value) (σ' : pz_Sg) : Prop := v = none ∧ ∃ C : fX → Prop, gG F nm X σ σ' C ∧ ∀ Y, gE nm Y → Y 1 m l = nB N → C Y → fRo F Y m l a b c o
theorem eL {N : Nat → Int32} (hN : ∀ r, r < 8 → ∀ b, bB (N r) b → b < 6) {r : Nat} (hr : r < 8) : fL (nB N) r = bB (N r) := funext fun b => propext (nB_L hN hr)
theorem w_cm1 {F : iv_F} {nt nf ns nm : Nat} {X : fX} {m l : Nat} {N : Nat → Int32} (K : gK F nt nf ns nm X m l N) {s : pz_Sg} (H : gI F nm X s) {l' : Nat} (hl : l' < 100) : pz_WP 133 (0, pz_en 6 [.ref 55, .int (nI m), .int (nI l')], []) s (pz_is none (gcomes F s m l' (s.1 88))) := w_comes K.1 H K.2.1.1 hl
theorem gG_cm {F : iv_F} {nt nf ns nm : Nat} {X : fX} {m l : Nat} {N : Nat → Int32} (K : gK F nt nf ns nm X m l N) {s : pz_Sg} (H : gI F nm X s) {M : Nat → Int32} (hM : ∀ r, r < 8 → ∀ b, bB (M r) b → b < 6) (e : s.1 88 = M) {l' : Nat} {st : Nat → Prop} (hst : nB M = st) (R : fCm F X m l' st) : gG F nm X s (gcomes F s m l' (s.1 88)) (fun Y => fCm F Y m l' st) := by
  subst hst
  rw [e]
  exact gG_comes K.1.1.2.2.2 (fP_L' K.1) H K.2.1.1 hM R
/-- a comes is the end of it -/
theorem gQ_cm {F : iv_F} {nt nf ns nm : Nat} {X : fX} {m l : Nat} {N : Nat → Int32} (K : gK F nt nf ns nm X m l N) {o a b c : Nat} {σ s : pz_Sg} {D : fX → Prop} (g : gG F nm X σ s D) {M : Nat → Int32} (hM : ∀ r, r < 8 → ∀ b, bB (M r) b → b < 6) (e : s.1 88 = M) {l' : Nat} (hl : l' < 100) {st : Nat → Prop} (hst : nB M = st) (R : fCm F X m l' st) (hR : ∀ Y, gE nm Y → Y 1 m l = nB N → D Y → fCm F Y m l' st → fRo F Y m l a b c o) : ∃ Q : pz_Ps, pz_WP 133 (0, pz_en 6 [.ref 55, .int (nI m), .int (nI l')], []) s Q ∧ ∀ σ1, Q none σ1 → gQ F nm X m l N o a b c σ none σ1 :=
  pz_kv (w_cm1 K g.2.1 hl) ⟨rfl, _, gG_s g (gG_cm K g.2.1 hM e hst R), fun Y hE hY cY => hR Y hE hY cY.1 cY.2⟩
/-- the rows stay -/
theorem gco_88 {N : Nat → Int32} {j : Nat} : ∀ d r (s : pz_Sg), (gco j N d r s).1 88 = s.1 88
  | 0, _, _ => rfl
  | d + 1, r, s => by
    unfold gco
    rw [gco_88 d, fadd_o (by decide) (by decide)]
theorem gcomes_88 {F : iv_F} {s : pz_Sg} {m l : Nat} {N : Nat → Int32} : (gcomes F s m l N).1 88 = s.1 88 := by
  unfold gcomes
  rw [gco_88, fadd_o (by decide) (by decide)]
theorem gthr_88 {F : iv_F} {s : pz_Sg} {m l f : Nat} {N : Nat → Int32} : (gthr F s m l f N).1 88 = s.1 88 := by
  unfold gthr
  split
  · rw [fadd_o (by decide) (by decide)]
  · rw [gcomes_88]
theorem gth_88 {a : Nat} (ha : a = 86 ∨ a = 87) {s : pz_Sg} {m k : Nat} {is pl : Int32} : (gth a s m is pl k).1 88 = s.1 88 := by
  unfold gth
  split
  · rw [fadd_o (by omega) (by decide)]
  · rfl
theorem gtouch_88 {a : Nat} (ha : a = 86 ∨ a = 87) {s : pz_Sg} {m : Nat} {is pl : Int32} : (gtouch a s m is pl).1 88 = s.1 88 := by
  unfold gtouch
  rw [gth_88 ha, gth_88 ha, gth_88 ha, gth_88 ha]
theorem w_ft {F : iv_F} {nt nf ns nm : Nat} {X : fX} {m l : Nat} {N : Nat → Int32} (K : gK F nt nf ns nm X m l N) {s : pz_Sg} (H : gI F nm X s) {f : Nat} (hf : f < 32) : pz_WP 134 (0, pz_en 5 [.ref 55, .int (nI m), .int (nI l), .int (nI f)], []) s (pz_is none (gthr F s m l f (s.1 88))) := w_faults K.1 H K.2.1.1 hf
theorem gG_ft {F : iv_F} {nt nf ns nm : Nat} {X : fX} {m l : Nat} {N : Nat → Int32} (K : gK F nt nf ns nm X m l N) {s : pz_Sg} (H : gI F nm X s) (e : s.1 88 = N) {f : Nat} (hf : f < 32) (R : fTh F X m l f) : gG F nm X s (gthr F s m l f (s.1 88)) (fun Y => Y 1 m l = nB N → fTh F Y m l f) := by
  rw [e]
  exact gG_thr K.1.1.2.2.2 (fP_L' K.1) H K.2.1.1 K.2.2.2 hf K.2.2.1 R
theorem gms24 {F : iv_F} {nt nf ns nm : Nat} {X : fX} {m l : Nat} {N : Nat → Int32} (K : gK F nt nf ns nm X m l N) : l + 1 < 100 ∧ l < 24 ∧ m < 10 := by
  have := fP_L' K.1 m K.2.1.1
  have := K.2.1.2
  have := K.1.1.2.2.2
  have := K.2.1.1
  omega
/-- no part of a THING, no check: on to the switch -/
theorem w_392 {m l o : Nat} {A B C : Int32} {s : pz_Sg} {P : pz_Ps} (ho : o < 32) (h1 : ¬ ((10 ≤ o ∧ o ≤ 15) ∨ o = 20)) (h2 : ¬ o = 29) (h : pz_WP 140 (392, [some (.ref 55), some (.int (nI m)), some (.int (nI l)), none, none, some (.int (nI o)), some (.int A), some (.int B), some (.int C), none, none, none], []) s P) : pz_WP 140 (144, [some (.ref 55), some (.int (nI m)), some (.int (nI l)), none, none, some (.int (nI o)), some (.int A), some (.int B), some (.int C), none, none, none], []) s P := by
  have t170 : pz_WP 140 (170, [some (.ref 55), some (.int (nI m)), some (.int (nI l)), none, none, some (.int (nI o)), some (.int A), some (.int B), some (.int C), none, none, none], [.int 0]) s P := pv_140_170 _ _ _ _ _ _ _ s _ ⟨fun _ => ⟨fun z => absurd ((nI_eq (by omega) (by decide)).mp z) h2, fun _ => h⟩, fun z => absurd rfl z⟩
  have t158 : pz_WP 140 (158, [some (.ref 55), some (.int (nI m)), some (.int (nI l)), none, none, some (.int (nI o)), some (.int A), some (.int B), some (.int C), none, none, none], []) s P := pv_140_158 _ _ _ _ _ _ s _ ⟨fun z => absurd (Or.inr ((nI_eq (by omega) (by decide)).mp z)) h1, fun _ => t170⟩
  refine pv_140_144 _ _ _ _ _ _ s _ ⟨fun _ => t158, fun z => ⟨fun y => absurd (Or.inl ⟨?_, (nI_leI (by omega) (by decide)).mp y⟩) h1, fun _ => t158⟩⟩
  exact Nat.not_lt.mp fun q => z ((nI_ltI (by omega) (by decide)).mpr q)
/-- the switch, for what only comes to the next LINE -/
theorem w_go {F : iv_F} {nt nf ns nm : Nat} {X : fX} {m l : Nat} {N : Nat → Int32} (K : gK F nt nf ns nm X m l N) {o a b c : Nat} {A B C : Int32} {σ s : pz_Sg} {D : fX → Prop} (g : gG F nm X σ s D) (e : s.1 88 = N) (ho : o < 10 ∨ (16 ≤ o ∧ o ≤ 19) ∨ (21 ≤ o ∧ o < 29) ∨ o = 31) (hA : (6 ≤ o ∧ o ≤ 9) ∨ (16 ≤ o ∧ o ≤ 19) ∨ o = 25 ∨ o = 27 → A = nI a ∧ a < 8) (hA31 : o = 31 → F 8 m = nI 2 → A = nI a ∧ a < 8) (hB : o = 7 ∨ (16 ≤ o ∧ o ≤ 19) → B = nI b ∧ b < 8) (hC : 23 ≤ o → o ≤ 28 → C = nI c ∧ c < 25) (hD : ∀ Y, Y 1 m l = nB N → D Y → (o = 9 → fTh F Y m l 2) ∧ (o = 4 ∨ o = 5 → fTh F Y m l 1)) (R : fRo F X m l a b c o) (n21 : ¬ o = 21) : pz_WP 140 (392, [some (.ref 55), some (.int (nI m)), some (.int (nI l)), none, none, some (.int (nI o)), some (.int A), some (.int B), some (.int C), none, none, none], []) s (gQ F nm X m l N o a b c σ) := by
  obtain ⟨l1, l24, m10⟩ := gms24 K
  have hN := K.2.2.2
  have H := g.2.1
  have s62 : s.1 62 m = F 8 m := by rw [H.1.1 62 rfl]; exact ((K.1.2.1.1 m K.2.1.1).2.2.1.1).symm
  have cm : (nI m).toNatClampNeg = m := nI_clamp (by omega)
  have vm : vp_in (nI m) 10 := vp_in_nI m10 (by decide)
  have hSX : ∀ r i, r < 8 → bB (N r) i → fL (X 1 m l) r i := fun r i hr hi => fL_m K.2.2.1 (by rw [eL hN hr]; exact hi)
  refine pv_140_392 _ _ _ _ _ _ s _ ?_
  rw [nI_1]
  have ho' : o = 0 ∨ o = 1 ∨ o = 2 ∨ o = 3 ∨ o = 4 ∨ o = 5 ∨ o = 6 ∨ o = 7 ∨ o = 8 ∨ o = 9 ∨ o = 16 ∨ o = 17 ∨ o = 18 ∨ o = 19 ∨ o = 22 ∨ o = 23 ∨ o = 24 ∨ o = 25 ∨ o = 26 ∨ o = 27 ∨ o = 28 ∨ o = 31 := by omega
  rcases ho' with rfl | rfl | rfl | rfl | rfl | rfl | rfl | rfl | rfl | rfl | rfl | rfl | rfl | rfl | rfl | rfl | rfl | rfl | rfl | rfl | rfl | rfl
  · -- 0
    refine ⟨fun _ => gQ_cm K g hN e l1 rfl (fCm_w K.2.2.1 R) (fun Y _ hY dY cY => by show fCm F Y m (l + 1) (Y 1 m l); rw [hY]; exact cY), ?_, ?_, ?_, ?_, ?_, ?_, ?_, ?_, ?_, ?_, ?_, ?_, ?_, ?_, ?_, ?_, ?_, ?_, ?_, ?_, ?_, ?_, ?_, ?_, ?_, ?_, trivial⟩
    all_goals (intro z; exact absurd z (by decide))
  · -- 1
    refine ⟨fun _ => gQ_cm K g hN e l1 rfl (fCm_w K.2.2.1 R) (fun Y _ hY dY cY => by show fCm F Y m (l + 1) (Y 1 m l); rw [hY]; exact cY), ?_, ?_, ?_, ?_, ?_, ?_, ?_, ?_, ?_, ?_, ?_, ?_, ?_, ?_, ?_, ?_, ?_, ?_, ?_, ?_, ?_, ?_, ?_, ?_, ?_, ?_, trivial⟩
    all_goals (intro z; exact absurd z (by decide))
  · -- 2
    refine ⟨fun _ => gQ_cm K g hN e l1 rfl (fCm_w K.2.2.1 R) (fun Y _ hY dY cY => by show fCm F Y m (l + 1) (Y 1 m l); rw [hY]; exact cY), ?_, ?_, ?_, ?_, ?_, ?_, ?_, ?_, ?_, ?_, ?_, ?_, ?_, ?_, ?_, ?_, ?_, ?_, ?_, ?_, ?_, ?_, ?_, ?_, ?_, ?_, trivial⟩
    all_goals (intro z; exact absurd z (by decide))
  · -- 3
    refine ⟨fun _ => gQ_cm K g hN e l1 rfl (fCm_w K.2.2.1 R) (fun Y _ hY dY cY => by show fCm F Y m (l + 1) (Y 1 m l); rw [hY]; exact cY), ?_, ?_, ?_, ?_, ?_, ?_, ?_, ?_, ?_, ?_, ?_, ?_, ?_, ?_, ?_, ?_, ?_, ?_, ?_, ?_, ?_, ?_, ?_, ?_, ?_, ?_, trivial⟩
    all_goals (intro z; exact absurd z (by decide))
  · -- 4
    refine ⟨fun _ => gQ_cm K g hN e l1 rfl (fCm_w K.2.2.1 R.2) (fun Y _ hY dY cY => ⟨(hD Y hY dY).2 (by decide), by rw [hY]; exact cY⟩), ?_, ?_, ?_, ?_, ?_, ?_, ?_, ?_, ?_, ?_, ?_, ?_, ?_, ?_, ?_, ?_, ?_, ?_, ?_, ?_, ?_, ?_, ?_, ?_, ?_, ?_, trivial⟩
    all_goals (intro z; exact absurd z (by decide))
  · -- 5
    refine ⟨fun _ => gQ_cm K g hN e l1 rfl (fCm_w K.2.2.1 R.2) (fun Y _ hY dY cY => ⟨(hD Y hY dY).2 (by decide), by rw [hY]; exact cY⟩), ?_, ?_, ?_, ?_, ?_, ?_, ?_, ?_, ?_, ?_, ?_, ?_, ?_, ?_, ?_, ?_, ?_, ?_, ?_, ?_, ?_, ?_, ?_, ?_, ?_, ?_, trivial⟩
    all_goals (intro z; exact absurd z (by decide))
  · -- 6
    have hA1 := hA (by decide)
    have go : ∀ s2 : pz_Sg, s2 = pz_up s 88 a 1 → ∃ Q : pz_Ps, pz_WP 133 (0, pz_en 6 [.ref 55, .int (nI m), .int (nI (l + 1))], []) s2 Q ∧ ∀ σ1, Q none σ1 → gQ F nm X m l N 6 a b c σ none σ1 := by
      rintro s2 rfl
      exact gQ_cm K (gG_s g (gG_88 H a 1)) (hN_W hN (fun i hi => by rw [bB_1] at hi; omega)) (by rw [r_88, e]) l1 (st := fW (nB N) a (fun i => i = 0)) (by rw [nB_W hA1.2, bB_1]) (fCm_w (fun i hi => fW_m K.2.2.1 (fun b _ h => h) hi) R) (fun Y _ hY dY cY => by have dY := dY.1; exact by show fCm F Y m (l + 1) (fW (Y 1 m l) a (fun i => i = 0)); rw [hY]; exact cY)
    rw [hA1.1, nI_clamp (show a < 2 ^ 31 by omega)]
    refine ⟨?_, fun _ => ⟨vp_in_nI hA1.2 (by decide), go⟩, ?_, ?_, ?_, ?_, ?_, ?_, ?_, ?_, ?_, ?_, ?_, ?_, ?_, ?_, ?_, ?_, ?_, ?_, ?_, ?_, ?_, ?_, ?_, ?_, ?_, trivial⟩
    all_goals (intro z; exact absurd z (by decide))
  · -- 7
    have hA1 := hA (by decide)
    have go : ∀ s2 : pz_Sg, s2 = pz_up s 88 a (N b) → ∃ Q : pz_Ps, pz_WP 133 (0, pz_en 6 [.ref 55, .int (nI m), .int (nI (l + 1))], []) s2 Q ∧ ∀ σ1, Q none σ1 → gQ F nm X m l N 7 a b c σ none σ1 := by
      rintro s2 rfl
      exact gQ_cm K (gG_s g (gG_88 H a (N b))) (hN_W hN (hN b (hB (by decide)).2)) (by rw [r_88, e]) l1 (st := fW (nB N) a (fL (nB N) b)) (by rw [nB_W hA1.2, eL hN (hB (by decide)).2]) (fCm_w (fun i hi => fW_m K.2.2.1 (fun i _ h => fL_m K.2.2.1 h) hi) R) (fun Y _ hY dY cY => by have dY := dY.1; exact by show fCm F Y m (l + 1) (fW (Y 1 m l) a (fL (Y 1 m l) b)); rw [hY]; exact cY)
    rw [hA1.1, nI_clamp (show a < 2 ^ 31 by omega)]
    rw [(hB (by decide)).1, nI_clamp (show b < 2 ^ 31 by have := (hB (by decide)).2; omega), e]
    refine ⟨?_, ?_, fun _ => ⟨vp_in_nI (hB (by decide)).2 (by decide), vp_in_nI hA1.2 (by decide), go⟩, ?_, ?_, ?_, ?_, ?_, ?_, ?_, ?_, ?_, ?_, ?_, ?_, ?_, ?_, ?_, ?_, ?_, ?_, ?_, ?_, ?_, ?_, ?_, ?_, trivial⟩
    all_goals (intro z; exact absurd z (by decide))
  · -- 8
    have hA1 := hA (by decide)
    have go : ∀ s2 : pz_Sg, s2 = pz_up s 88 a (nI 2) → ∃ Q : pz_Ps, pz_WP 133 (0, pz_en 6 [.ref 55, .int (nI m), .int (nI (l + 1))], []) s2 Q ∧ ∀ σ1, Q none σ1 → gQ F nm X m l N 8 a b c σ none σ1 := by
      rintro s2 rfl
      exact gQ_cm K (gG_s g (gG_88 H a (nI 2))) (hN_W hN (fun i hi => by rw [bB_2] at hi; omega)) (by rw [r_88, e]) l1 (st := fW (nB N) a (fun i => i = 1)) (by rw [nB_W hA1.2, bB_2]) (fCm_w (fun i hi => fW_m K.2.2.1 (fun b _ h => h) hi) R) (fun Y _ hY dY cY => by have dY := dY.1; exact by show fCm F Y m (l + 1) (fW (Y 1 m l) a (fun i => i = 1)); rw [hY]; exact cY)
    rw [hA1.1, nI_clamp (show a < 2 ^ 31 by omega)]
    refine ⟨?_, ?_, ?_, fun _ => ⟨vp_in_nI hA1.2 (by decide), go⟩, ?_, ?_, ?_, ?_, ?_, ?_, ?_, ?_, ?_, ?_, ?_, ?_, ?_, ?_, ?_, ?_, ?_, ?_, ?_, ?_, ?_, ?_, ?_, trivial⟩
    all_goals (intro z; exact absurd z (by decide))
  · -- 9
    have hA1 := hA (by decide)
    have go : ∀ s2 : pz_Sg, s2 = pz_up s 88 a (nI 2) → ∃ Q : pz_Ps, pz_WP 133 (0, pz_en 6 [.ref 55, .int (nI m), .int (nI (l + 1))], []) s2 Q ∧ ∀ σ1, Q none σ1 → gQ F nm X m l N 9 a b c σ none σ1 := by
      rintro s2 rfl
      exact gQ_cm K (gG_s g (gG_88 H a (nI 2))) (hN_W hN (fun i hi => by rw [bB_2] at hi; omega)) (by rw [r_88, e]) l1 (st := fW (nB N) a (fun i => i = 1)) (by rw [nB_W hA1.2, bB_2]) (fCm_w (fun i hi => fW_m K.2.2.1 (fun b _ h => h) hi) R.2) (fun Y _ hY dY cY => by have dY := dY.1; exact ⟨(hD Y hY dY).1 rfl, by rw [hY]; exact cY⟩)
    rw [hA1.1, nI_clamp (show a < 2 ^ 31 by omega)]
    refine ⟨?_, ?_, ?_, ?_, fun _ => ⟨vp_in_nI hA1.2 (by decide), go⟩, ?_, ?_, ?_, ?_, ?_, ?_, ?_, ?_, ?_, ?_, ?_, ?_, ?_, ?_, ?_, ?_, ?_, ?_, ?_, ?_, ?_, ?_, trivial⟩
    all_goals (intro z; exact absurd z (by decide))
  · -- 16
    have hA1 := hA (by decide)
    have hB1 := hB (by decide)
    rw [hA1.1, hB1.1, nI_clamp (show a < 2 ^ 31 by omega)]
    have pl : bB ((1 : Int32) <<< ((nI 16 + nI b) &&& 31)) = fun p => p = 16 + b := by
      rw [nI_add]
      exact bB_sh (by omega)
    have g2 := gG_touch H (Or.inl ⟨rfl, rfl⟩) m10 pl bB_32 R.1
    have e2 := gtouch_88 (a := 86) (by decide) (s := s) (m := m) (is := nI 32) (pl := (1 : Int32) <<< ((nI 16 + nI b) &&& 31))
    have go : ∀ s2 : pz_Sg, s2 = pz_up (gtouch 86 s m (nI 32) ((1 : Int32) <<< ((nI 16 + nI b) &&& 31))) 88 a ((gtouch 86 s m (nI 32) ((1 : Int32) <<< ((nI 16 + nI b) &&& 31))).1 88 a) → ∃ Q : pz_Ps, pz_WP 133 (0, pz_en 6 [.ref 55, .int (nI m), .int (nI (l + 1))], []) s2 Q ∧ ∀ σ1, Q none σ1 → gQ F nm X m l N 16 a b c σ none σ1 := by
      intro s2 h2
      rw [qz_id rfl] at h2
      subst h2
      exact gQ_cm K (gG_s g g2) hN (e2.trans e) l1 rfl (fCm_w K.2.2.1 R.2) (fun Y _ hY dY cY => ⟨dY.2, by rw [hY]; exact cY⟩)
    refine ⟨?_, ?_, ?_, ?_, ?_, ?_, ?_, ?_, ?_, ?_, ?_, fun _ => pz_kv (w_touchM m10 H.2.2.2.2.2 (Or.inl ⟨rfl, rfl⟩) _ _) ⟨fun z => absurd z (by decide), fun _ => ⟨vp_in_nI hA1.2 (by decide), vp_in_nI hA1.2 (by decide), go⟩⟩, ?_, ?_, ?_, ?_, ?_, ?_, ?_, ?_, ?_, ?_, ?_, ?_, ?_, ?_, ?_, trivial⟩
    all_goals (intro z; exact absurd z (by decide))
  · -- 17
    have hA1 := hA (by decide)
    have hB1 := hB (by decide)
    rw [hA1.1, hB1.1, nI_clamp (show a < 2 ^ 31 by omega)]
    have pl : bB ((1 : Int32) <<< ((nI 16 + nI a) &&& 31)) = fun p => p = 16 + a := by
      rw [nI_add]
      exact bB_sh (by omega)
    have g2 := gG_touch H (Or.inr ⟨rfl, rfl⟩) m10 pl bB_32 R.1
    have e2 := gtouch_88 (a := 87) (by decide) (s := s) (m := m) (is := nI 32) (pl := (1 : Int32) <<< ((nI 16 + nI a) &&& 31))
    refine ⟨?_, ?_, ?_, ?_, ?_, ?_, ?_, ?_, ?_, ?_, ?_, ?_, fun _ => pz_kv (w_touchM m10 H.2.2.2.2.2 (Or.inr ⟨rfl, rfl⟩) _ _) (gQ_cm K (gG_s g g2) hN (e2.trans e) l1 rfl (fCm_w K.2.2.1 R.2) (fun Y _ hY dY cY => ⟨dY.2, by rw [hY]; exact cY⟩)), ?_, ?_, ?_, ?_, ?_, ?_, ?_, ?_, ?_, ?_, ?_, ?_, ?_, ?_, trivial⟩
    all_goals (intro z; exact absurd z (by decide))
  · -- 18
    have hA1 := hA (by decide)
    have hB1 := hB (by decide)
    rw [hA1.1, hB1.1, nI_clamp (show a < 2 ^ 31 by omega)]
    have pl : bB ((1 : Int32) <<< ((nI 16 + nI b) &&& 31)) = fun p => p = 16 + b := by
      rw [nI_add]
      exact bB_sh (by omega)
    have g2 := gG_touch H (Or.inl ⟨rfl, rfl⟩) m10 pl bB_32 R.1
    have e2 := gtouch_88 (a := 86) (by decide) (s := s) (m := m) (is := nI 32) (pl := (1 : Int32) <<< ((nI 16 + nI b) &&& 31))
    have go : ∀ s2 : pz_Sg, s2 = pz_up (gtouch 86 s m (nI 32) ((1 : Int32) <<< ((nI 16 + nI b) &&& 31))) 88 a (nI 33) → ∃ Q : pz_Ps, pz_WP 133 (0, pz_en 6 [.ref 55, .int (nI m), .int (nI (l + 1))], []) s2 Q ∧ ∀ σ1, Q none σ1 → gQ F nm X m l N 18 a b c σ none σ1 := by
      rintro s2 rfl
      exact gQ_cm K (gG_s (gG_s g g2) (gG_88 g2.2.1 a (nI 33))) (hN_W hN (fun i hi => by rw [bB_33] at hi; omega)) (by rw [r_88, e2, e]) l1 (st := fW (nB N) a (fun i => i = 0 ∨ i = 5)) (by rw [nB_W hA1.2, bB_33]) (fCm_w (fun i hi => fW_m K.2.2.1 (fun b _ h => h) hi) R.2) (fun Y _ hY dY cY => ⟨dY.1.2, by rw [hY]; exact cY⟩)
    refine ⟨?_, ?_, ?_, ?_, ?_, ?_, ?_, ?_, ?_, ?_, ?_, ?_, ?_, fun _ => pz_kv (w_touchM m10 H.2.2.2.2.2 (Or.inl ⟨rfl, rfl⟩) _ _) ⟨fun _ => ⟨vp_in_nI hA1.2 (by decide), go⟩, fun z => absurd rfl z⟩, ?_, ?_, ?_, ?_, ?_, ?_, ?_, ?_, ?_, ?_, ?_, ?_, ?_, trivial⟩
    all_goals (intro z; exact absurd z (by decide))
  · -- 19
    have hA1 := hA (by decide)
    have hB1 := hB (by decide)
    rw [hA1.1, hB1.1, nI_clamp (show a < 2 ^ 31 by omega)]
    have pl : bB ((1 : Int32) <<< ((nI 16 + nI a) &&& 31)) = fun p => p = 16 + a := by
      rw [nI_add]
      exact bB_sh (by omega)
    have g2 := gG_touch H (Or.inr ⟨rfl, rfl⟩) m10 pl bB_32 R.1
    have e2 := gtouch_88 (a := 87) (by decide) (s := s) (m := m) (is := nI 32) (pl := (1 : Int32) <<< ((nI 16 + nI a) &&& 31))
    refine ⟨?_, ?_, ?_, ?_, ?_, ?_, ?_, ?_, ?_, ?_, ?_, ?_, ?_, ?_, fun _ => pz_kv (w_touchM m10 H.2.2.2.2.2 (Or.inr ⟨rfl, rfl⟩) _ _) (gQ_cm K (gG_s g g2) hN (e2.trans e) l1 rfl (fCm_w K.2.2.1 R.2) (fun Y _ hY dY cY => ⟨dY.2, by rw [hY]; exact cY⟩)), ?_, ?_, ?_, ?_, ?_, ?_, ?_, ?_, ?_, ?_, ?_, ?_, trivial⟩
    all_goals (intro z; exact absurd z (by decide))
  · -- 22
    have g2 := gG_print H m10 K.2.1.1 R.1
    have e2 : (fadd 55 39 s 83 m 1).1 88 = s.1 88 := fadd_o (by decide) (by decide)
    refine ⟨?_, ?_, ?_, ?_, ?_, ?_, ?_, ?_, ?_, ?_, ?_, ?_, ?_, ?_, ?_, ?_, ?_, fun _ => pz_kv (w_printM m10 H.2.2.2.2.2 (H.2.2.2.2.1 m K.2.1.1).2) (gQ_cm K (gG_s g g2) hN (e2.trans e) l1 rfl (fCm_w K.2.2.1 R.2) (fun Y _ hY dY cY => ⟨dY.2, by rw [hY]; exact cY⟩)), ?_, ?_, ?_, ?_, ?_, ?_, ?_, ?_, ?_, trivial⟩
    all_goals (intro z; exact absurd z (by decide))
  · -- 23
    have hC1 := hC (by decide) (by decide)
    rw [hC1.1]
    have g2 := gG_cm K H hN e (l' := c) rfl (fCm_w K.2.2.1 R.1)
    refine ⟨?_, ?_, ?_, ?_, ?_, ?_, ?_, ?_, ?_, ?_, ?_, ?_, ?_, ?_, ?_, ?_, ?_, ?_, fun _ => pz_kv (w_cm1 K H (by omega)) (gQ_cm K (gG_s g g2) hN (gcomes_88.trans e) l1 rfl (fCm_w K.2.2.1 R.2) (fun Y _ hY dY cY => by show fCm F Y m c (Y 1 m l) ∧ fCm F Y m (l + 1) (Y 1 m l); rw [hY]; exact ⟨dY.2, cY⟩)), ?_, ?_, ?_, ?_, ?_, ?_, ?_, ?_, trivial⟩
    all_goals (intro z; exact absurd z (by decide))
  · -- 24
    have hC1 := hC (by decide) (by decide)
    rw [hC1.1]
    have g2 := gG_cm K H hN e (l' := c) rfl (fCm_w K.2.2.1 R.1)
    refine ⟨?_, ?_, ?_, ?_, ?_, ?_, ?_, ?_, ?_, ?_, ?_, ?_, ?_, ?_, ?_, ?_, ?_, ?_, ?_, fun _ => pz_kv (w_cm1 K H (by omega)) (gQ_cm K (gG_s g g2) hN (gcomes_88.trans e) l1 rfl (fCm_w K.2.2.1 R.2) (fun Y _ hY dY cY => by show fCm F Y m c (Y 1 m l) ∧ fCm F Y m (l + 1) (Y 1 m l); rw [hY]; exact ⟨dY.2, cY⟩)), ?_, ?_, ?_, ?_, ?_, ?_, ?_, trivial⟩
    all_goals (intro z; exact absurd z (by decide))
  · -- 25
    have hA1 := hA (by decide)
    have hC1 := hC (by decide) (by decide)
    rw [hA1.1, hC1.1]
    have va : vp_in (nI a) 8 := vp_in_nI hA1.2 (by decide)
    have ca : (nI a).toNatClampNeg = a := nI_clamp (by omega)
    have na6 : ∀ i, bB (N a) i → i < 6 := hN a hA1.2
    -- null there
    have one : ∃ s1 D1, gG F nm X σ s1 D1 ∧ s1.1 88 = (fun r => if r = a then N a &&& 1 else N r) ∧ (∀ Y, D1 Y → bB (N a) 0 → fCm F Y m c (fW (nB N) a (fun i => i = 0))) ∧ ∀ {P : pz_Ps}, pz_WP 141 (48, [some (.ref 55), none, some (.int (nI 25)), some (.int (nI a)), none, some (.int (N a))], []) s1 P → pz_WP 141 (0, pz_en 6 [.ref 55, .int (nI m), .int (nI 25), .int (nI a), .int (nI c)], []) s P := by
      have x6 : ∀ i, bB (N a &&& 1) i → i < 6 := fun i hi => na6 i (bB_a.mp hi).1
      by_cases z : bB (N a) 0
      · have st : nB (fun r => if r = a then N a &&& 1 else N r) = fW (nB N) a (fun i => i = 0) := by
          rw [nB_W hA1.2, bB_b0']
          congr 1
          exact funext fun i => propext ⟨fun h => h.1, fun h => ⟨h, z⟩⟩
        have g2 := gG_s g (gG_88 H a (N a &&& 1))
        have g3 := gG_cm K g2.2.1 (hN_W hN x6) (show (pz_up s 88 a (N a &&& 1)).1 88 = _ by rw [r_88, e]) (l' := c) st (fCm_w (fun i hi => fW_m K.2.2.1 (fun b _ h => h) hi) (R.1 (hSX a 0 hA1.2 z)))
        refine ⟨_, _, gG_s g2 g3, by rw [gcomes_88, r_88, e], fun Y hY _ => hY.2, fun h => ?_⟩
        refine pv_141 _ _ _ _ s _ ?_
        rw [ca, e]
        refine ⟨va, fun _ => ?_, fun y => absurd rfl y⟩
        refine pv_141_31 _ _ _ _ _ _ _ s _ ?_
        rw [ca]
        refine ⟨va, ?_⟩
        rintro σ1 rfl
        refine ⟨va, fun y => ?_, fun _ => pz_kv (w_cm1 K g2.2.1 (by omega)) h⟩
        rw [qz_rs] at y
        exact absurd ((bB_b0.mpr z).symm.trans y) (by decide)
      · have z0 : N a &&& 1 = 0 := bB_0.mpr fun i hi => by
          rw [bB_b0'] at hi
          exact z hi.2
        refine ⟨_, _, gG_s g (gG_88 H a (N a &&& 1)), by rw [r_88, e], fun Y _ y => absurd y z, fun h => ?_⟩
        refine pv_141 _ _ _ _ s _ ?_
        rw [ca, e]
        refine ⟨va, fun _ => ?_, fun y => absurd rfl y⟩
        refine pv_141_31 _ _ _ _ _ _ _ s _ ?_
        rw [ca]
        refine ⟨va, ?_⟩
        rintro σ1 rfl
        refine ⟨va, fun _ => h, fun y => absurd ?_ y⟩
        rw [qz_rs]
        exact z0
    obtain ⟨s1, D1, g1, e1, k1, w1⟩ := one
    refine ⟨?_, ?_, ?_, ?_, ?_, ?_, ?_, ?_, ?_, ?_, ?_, ?_, ?_, ?_, ?_, ?_, ?_, ?_, ?_, ?_, fun _ => ⟨fun v σ' => ∃ r, v = some (.int r) ∧ σ' = pz_up s1 88 a (N a &&& (-(nI 2))) ∧ (r = 0 ↔ N a &&& (-(nI 2)) = 0), w1 (pv_141_48 _ _ _ _ _ (by
        rw [ca]
        refine ⟨fun _ => ⟨va, ?_⟩, fun y => absurd rfl y⟩
        rintro σ2 rfl
        rw [qz_rs]
        exact ⟨va, fun y => ⟨0, rfl, rfl, fun _ => y, fun _ => rfl⟩, fun y => ⟨1, rfl, rfl, fun q => absurd q (by decide), fun q => absurd q y⟩⟩)), by
        rintro r39 σ39 ⟨r, h1, rfl, h2⟩
        cases h1
        have g4 := gG_s g1 (gG_88 g1.2.1 a (N a &&& (-(nI 2))))
        have fin : ∀ Y, Y 1 m l = nB N → D1 Y → ((∃ i, fN (bB (N a)) i) → fCm F Y m (l + 1) (fW (nB N) a (fN (bB (N a))))) → fRo F Y m l a b c 25 := fun Y hY dY h => by
          show (fL (Y 1 m l) a 0 → fCm F Y m c (fW (Y 1 m l) a (fun i => i = 0))) ∧ ((∃ i, fN (fL (Y 1 m l) a) i) → fCm F Y m (l + 1) (fW (Y 1 m l) a (fN (fL (Y 1 m l) a))))
          rw [hY, eL hN hA1.2]
          exact ⟨k1 Y dY, h⟩
        refine ⟨fun z => ⟨rfl, _, g4, fun Y _ hY dY => fin Y hY dY.1 (fun q => absurd q (bB_so1z.mp (h2.mp z)))⟩, fun z => ?_⟩
        have q : ∃ i, fN (bB (N a)) i := Classical.not_not.mp fun u => z (h2.mpr (bB_so1z.mpr u))
        refine gQ_cm K g4 (hN_W hN (fun i hi => na6 i (bB_a.mp hi).1)) (show _ = (fun r => if r = a then N a &&& (-(nI 2)) else N r) by rw [r_88, e1]; funext r; by_cases y : r = a <;> simp [y]) l1 (st := fW (nB N) a (fN (bB (N a)))) (by rw [nB_W hA1.2, bB_so1]) (fCm_w (fun i hi => fW_m K.2.2.1 (fun b _ h => ?_) hi) (R.2 (q.imp fun i hi => ⟨hi.1, hSX a i hA1.2 hi.2⟩))) (fun Y _ hY dY cY => fin Y hY dY.1 (fun _ => cY))
        exact ⟨h.1, hSX a b hA1.2 h.2⟩⟩, ?_, ?_, ?_, ?_, ?_, ?_, trivial⟩
    all_goals (intro z; exact absurd z (by decide))
  · -- 26
    have hC1 := hC (by decide) (by decide)
    rw [hC1.1]
    have g2 := gG_cm K H hN e (l' := c) rfl (fCm_w K.2.2.1 R.1)
    refine ⟨?_, ?_, ?_, ?_, ?_, ?_, ?_, ?_, ?_, ?_, ?_, ?_, ?_, ?_, ?_, ?_, ?_, ?_, ?_, ?_, ?_, fun _ => pz_kv (w_cm1 K H (by omega)) (gQ_cm K (gG_s g g2) hN (gcomes_88.trans e) l1 rfl (fCm_w K.2.2.1 R.2) (fun Y _ hY dY cY => by show fCm F Y m c (Y 1 m l) ∧ fCm F Y m (l + 1) (Y 1 m l); rw [hY]; exact ⟨dY.2, cY⟩)), ?_, ?_, ?_, ?_, ?_, trivial⟩
    all_goals (intro z; exact absurd z (by decide))
  · -- 27
    have hA1 := hA (by decide)
    have hC1 := hC (by decide) (by decide)
    rw [hA1.1, hC1.1]
    have va : vp_in (nI a) 8 := vp_in_nI hA1.2 (by decide)
    have ca : (nI a).toNatClampNeg = a := nI_clamp (by omega)
    have na6 : ∀ i, bB (N a) i → i < 6 := hN a hA1.2
    have one : ∃ s1 D1, gG F nm X σ s1 D1 ∧ s1.1 88 = (fun r => if r = a then N a &&& (-(nI 2)) else N r) ∧ (∀ Y, D1 Y → (∃ i, fN (bB (N a)) i) → fCm F Y m c (fW (nB N) a (fN (bB (N a))))) ∧ ∀ {P : pz_Ps}, pz_WP 141 (48, [some (.ref 55), none, some (.int (nI 27)), some (.int (nI a)), none, some (.int (N a))], []) s1 P → pz_WP 141 (0, pz_en 6 [.ref 55, .int (nI m), .int (nI 27), .int (nI a), .int (nI c)], []) s P := by
      have x6 : ∀ i, bB (N a &&& (-(nI 2))) i → i < 6 := fun i hi => na6 i (bB_a.mp hi).1
      by_cases z : ∃ i, fN (bB (N a)) i
      · have st : nB (fun r => if r = a then N a &&& (-(nI 2)) else N r) = fW (nB N) a (fN (bB (N a))) := by
          rw [nB_W hA1.2, bB_so1]
        have g2 := gG_s g (gG_88 H a (N a &&& (-(nI 2))))
        have g3 := gG_cm K g2.2.1 (hN_W hN x6) (show (pz_up s 88 a (N a &&& (-(nI 2)))).1 88 = _ by rw [r_88, e]) (l' := c) st (fCm_w (fun i hi => fW_m K.2.2.1 (fun b _ (h : fN (bB (N a)) b) => (⟨h.1, hSX a b hA1.2 h.2⟩ : fN (fL (X 1 m l) a) b)) hi) (R.1 (z.imp fun i hi => ⟨hi.1, hSX a i hA1.2 hi.2⟩)))
        refine ⟨_, _, gG_s g2 g3, by rw [gcomes_88, r_88, e], fun Y hY _ => hY.2, fun h => ?_⟩
        refine pv_141 _ _ _ _ s _ ?_
        rw [ca, e]
        refine ⟨va, fun y => absurd y (by decide), fun _ => ?_⟩
        refine pv_141_31 _ _ _ _ _ _ _ s _ ?_
        rw [ca]
        refine ⟨va, ?_⟩
        rintro σ1 rfl
        refine ⟨va, fun y => ?_, fun _ => pz_kv (w_cm1 K g2.2.1 (by omega)) h⟩
        rw [qz_rs] at y
        exact absurd z (bB_so1z.mp y)
      · refine ⟨_, _, gG_s g (gG_88 H a (N a &&& (-(nI 2)))), by rw [r_88, e], fun Y _ y => absurd y z, fun h => ?_⟩
        refine pv_141 _ _ _ _ s _ ?_
        rw [ca, e]
        refine ⟨va, fun y => absurd y (by decide), fun _ => ?_⟩
        refine pv_141_31 _ _ _ _ _ _ _ s _ ?_
        rw [ca]
        refine ⟨va, ?_⟩
        rintro σ1 rfl
        refine ⟨va, fun _ => h, fun y => absurd ?_ y⟩
        rw [qz_rs]
        exact bB_so1z.mpr z
    obtain ⟨s1, D1, g1, e1, k1, w1⟩ := one
    refine ⟨?_, ?_, ?_, ?_, ?_, ?_, ?_, ?_, ?_, ?_, ?_, ?_, ?_, ?_, ?_, ?_, ?_, ?_, ?_, ?_, ?_, ?_, fun _ => ⟨fun v σ' => ∃ r, v = some (.int r) ∧ σ' = pz_up s1 88 a (N a) ∧ (r = 0 ↔ N a = 0), w1 (pv_141_48 _ _ _ _ _ (by
        rw [ca]
        refine ⟨fun y => absurd y (by decide), fun _ => ⟨va, ?_⟩⟩
        rintro σ2 rfl
        rw [qz_rs]
        exact ⟨va, fun y => ⟨0, rfl, rfl, fun _ => y, fun _ => rfl⟩, fun y => ⟨1, rfl, rfl, fun q => absurd q (by decide), fun q => absurd q y⟩⟩)), by
        rintro r39 σ39 ⟨r, h1, rfl, h2⟩
        cases h1
        have g4 := gG_s g1 (gG_88 g1.2.1 a (N a))
        have fin : ∀ Y, Y 1 m l = nB N → D1 Y → ((∃ i, bB (N a) i) → fCm F Y m (l + 1) (nB N)) → fRo F Y m l a b c 27 := fun Y hY dY h => by
          show ((∃ i, fN (fL (Y 1 m l) a) i) → fCm F Y m c (fW (Y 1 m l) a (fN (fL (Y 1 m l) a)))) ∧ ((∃ i, fL (Y 1 m l) a i) → fCm F Y m (l + 1) (Y 1 m l))
          rw [hY, eL hN hA1.2]
          exact ⟨k1 Y dY, h⟩
        refine ⟨fun z => ⟨rfl, _, g4, fun Y _ hY dY => fin Y hY dY.1 (fun ⟨i, hi⟩ => absurd hi (bB_0.mp (h2.mp z) i))⟩, fun z => ?_⟩
        have q : ∃ i, bB (N a) i := Classical.not_not.mp fun u => z (h2.mpr (bB_0.mpr fun i hi => u ⟨i, hi⟩))
        exact gQ_cm K g4 hN (show _ = N by rw [r_88, e1]; funext r; by_cases y : r = a <;> simp [y]) l1 rfl (fCm_w K.2.2.1 (R.2 (q.imp fun i hi => hSX a i hA1.2 hi))) (fun Y _ hY dY cY => fin Y hY dY.1 (fun _ => cY))⟩, ?_, ?_, ?_, ?_, trivial⟩
    all_goals (intro z; exact absurd z (by decide))
  · -- 28
    have hC1 := hC (by decide) (by decide)
    rw [hC1.1]
    refine ⟨?_, ?_, ?_, ?_, ?_, ?_, ?_, ?_, ?_, ?_, ?_, ?_, ?_, ?_, ?_, ?_, ?_, ?_, ?_, ?_, ?_, ?_, ?_, fun _ => gQ_cm K g hN e (l' := c) (by omega) rfl (fCm_w K.2.2.1 R) (fun Y _ hY dY cY => by show fCm F Y m c (Y 1 m l); rw [hY]; exact cY), ?_, ?_, ?_, trivial⟩
    all_goals (intro z; exact absurd z (by decide))
  · -- 31
    refine ⟨?_, ?_, ?_, ?_, ?_, ?_, ?_, ?_, ?_, ?_, ?_, ?_, ?_, ?_, ?_, ?_, ?_, ?_, ?_, ?_, ?_, ?_, ?_, ?_, ?_, ?_, fun _ => ⟨vm, by
      rw [cm, s62]
      refine ⟨fun z => ?_, fun z => ?_⟩
      · have hA1 := hA31 rfl z
        rw [hA1.1, nI_clamp (show a < 2 ^ 31 by omega), e]
        refine ⟨vp_in_nI hA1.2 (by decide), pz_kv (w_endM m10 H.2.2.2.2.2 (H.2.2.2.2.1 m K.2.1.1).1 _) ⟨rfl, _, gG_s g (gG_end H m10 K.2.1.1 R.1 (fun i hi => R.2 z i (hSX a i hA1.2 hi))), fun Y _ hY dY => ?_⟩⟩
        show Y 2 m 0 0 ∧ (F 8 m = nI 2 → ∀ i, fL (Y 1 m l) a i → Y 5 m i 0)
        rw [hY, eL hN hA1.2]
        exact ⟨dY.2.1.1, fun _ i hi => (dY.2.2 i hi).1⟩
      · exact pz_kv (w_endM m10 H.2.2.2.2.2 (H.2.2.2.2.1 m K.2.1.1).1 _) ⟨rfl, _, gG_s g (gG_end H m10 K.2.1.1 R.1 (fun i hi => absurd hi bB_n)), fun Y _ hY dY => ⟨dY.2.1.1, fun q => absurd q z⟩⟩⟩, trivial⟩
    all_goals (intro z; exact absurd z (by decide))
