/-! ===== analyse: the beginning, the count, both sides together ===== -/
theorem gCs0 {F : iv_F} : True := trivial
/-- the words of a METHOD stay out of what comes behind it -/
theorem gco_81 {N : Nat → Int32} {j : Nat} : ∀ d r (s : pz_Sg), (gco j N d r s).1 81 = s.1 81
  | 0, _, _ => rfl
  | d + 1, r, s => by
    unfold gco
    rw [gco_81 d, fadd_o (by decide) (by decide)]
theorem gco_86 {N : Nat → Int32} {j a : Nat} (h1 : a ≠ 80) (h2 : a ≠ 55) : ∀ d r (s : pz_Sg), (gco j N d r s).1 a = s.1 a
  | 0, _, _ => rfl
  | d + 1, r, s => by
    unfold gco
    rw [gco_86 h1 h2 d, fadd_o h1 h2]
theorem gco_80 {N : Nat → Int32} {j y : Nat} (hy : 8 * j + 8 ≤ y) : ∀ d r (s : pz_Sg), r + d ≤ 8 → (gco j N d r s).1 80 y = s.1 80 y
  | 0, _, _, _ => rfl
  | d + 1, r, s, h => by
    unfold gco
    rw [gco_80 hy d (r + 1) _ (by omega), fadd_w (by decide), if_neg (by omega)]
theorem gcomes_81 {F : iv_F} {s : pz_Sg} {m l j : Nat} {N : Nat → Int32} (hL : (F 9 m).toNatClampNeg ≤ 24) (hj : 25 * (m + 1) ≤ j) : (gcomes F s m l N).1 81 j = s.1 81 j := by
  have := gms_le (F := F) (m := m) (l := l)
  unfold gcomes
  rw [gco_81, fadd_w (by decide), if_neg (by omega)]
theorem gcomes_80 {F : iv_F} {s : pz_Sg} {m l j : Nat} {N : Nat → Int32} (hL : (F 9 m).toNatClampNeg ≤ 24) (hj : 200 * (m + 1) ≤ j) : (gcomes F s m l N).1 80 j = s.1 80 j := by
  have := gms_le (F := F) (m := m) (l := l)
  unfold gcomes
  rw [gco_80 (by omega) 8 0 _ (by decide), fadd_o (by decide) (by decide)]
theorem gcomes_o {F : iv_F} {s : pz_Sg} {m l a : Nat} {N : Nat → Int32} (h1 : a ≠ 80) (h2 : a ≠ 55) (h3 : a ≠ 81) : (gcomes F s m l N).1 a = s.1 a := by
  unfold gcomes
  rw [gco_86 h1 h2, fadd_o h3 h2]
/-- METHODS below m have been begun -/
def gJ (F : iv_F) (X : fX) (B : Nat → Nat → Int64) (m : Nat) (s : pz_Sg) : Prop := gI F m X s ∧ (∀ j, 25 * m ≤ j → j < 250 → s.1 81 j = 0) ∧ (∀ j, 200 * m ≤ j → j < 2000 → s.1 80 j = 0) ∧ (∀ j, j < 40 → s.1 86 j = 0 ∧ s.1 87 j = 0) ∧ (∀ m', m' < m → fCm F (gCs F s) m' 0 (fB F m')) ∧ s.2 = B
/-- METHOD m's own words are nothing yet -/
theorem gJ_new {F : iv_F} {X : fX} {B : Nat → Nat → Int64} {m : Nat} (m10 : m < 10) {s s' : pz_Sg} (hL : (F 9 m).toNatClampNeg ≤ 24) (h : gJ F X B m s) (hs : s' = pz_up (pz_up (pz_up (pz_up s 82 m 0) 83 m 0) 84 m 0) 85 m 0) : gI F (m + 1) X s' := by
  obtain ⟨⟨i0, i1, i2, i3, i4, i5⟩, z1, z2, z3, -⟩ := h
  subst hs
  have o : ∀ a, gN a = false → (pz_up (pz_up (pz_up (pz_up s 82 m 0) 83 m 0) 84 m 0) 85 m 0).1 a = s.1 a := fun a ha => by
    rw [qz_rn _ _ _ _ (fun e => by rw [e] at ha; cases ha), qz_rn _ _ _ _ (fun e => by rw [e] at ha; cases ha), qz_rn _ _ _ _ (fun e => by rw [e] at ha; cases ha), qz_rn _ _ _ _ (fun e => by rw [e] at ha; cases ha)]
  refine ⟨⟨fun a ha => (o a ha).trans (i0.1 a ha), i0.2⟩, fun m' hm' l hl => ?_, fun m' hm' => ?_, i3, fun m' hm' => ?_, i5⟩
  · by_cases e : m' = m
    · subst e
      refine ⟨fun r hr b hb => ?_, fun z => absurd (z1 (25 * m' + l) (by omega) (by omega)) z⟩
      have : s.1 80 (8 * (25 * m' + l) + r) = 0 := z2 _ (by omega) (by omega)
      rw [show (pz_up (pz_up (pz_up (pz_up s 82 m' 0) 83 m' 0) 84 m' 0) 85 m' 0).1 80 (8 * (25 * m' + l) + r) = s.1 80 (8 * (25 * m' + l) + r) from rfl, this] at hb
      exact absurd hb bB_n
    · exact i1 m' (by omega) l hl
  · by_cases e : m' = m
    · subst e
      refine ⟨fun z => absurd (z1 (25 * m' + (F 9 m').toNatClampNeg) (by omega) (by omega)) z, fun z => absurd ?_ z, fun z => absurd ?_ z, fun f z => ?_, fun b z => ?_, fun w hw p => ?_⟩
      · simp [qz_rd]
      · simp [qz_rd]
      · have e : (pz_up (pz_up (pz_up (pz_up s 82 m' 0) 83 m' 0) 84 m' 0) 85 m' 0).1 84 m' = 0 := by simp [qz_rd]
        rw [e] at z
        exact absurd z bB_n
      · have e : (pz_up (pz_up (pz_up (pz_up s 82 m' 0) 83 m' 0) 84 m' 0) 85 m' 0).1 85 m' = 0 := by simp [qz_rd]
        rw [e] at z
        exact absurd z bB_n
      · obtain ⟨a1, a2⟩ := z3 (4 * m' + w) (by omega)
        rw [show (pz_up (pz_up (pz_up (pz_up s 82 m' 0) 83 m' 0) 84 m' 0) 85 m' 0).1 86 (4 * m' + w) = 0 from a1, show (pz_up (pz_up (pz_up (pz_up s 82 m' 0) 83 m' 0) 84 m' 0) 85 m' 0).1 87 (4 * m' + w) = 0 from a2]
        exact ⟨fun z => absurd z bB_n, fun z => absurd z bB_n⟩
    · have := i2 m' (by omega)
      simpa [qz_rd, e] using this
  · by_cases e : m' = m
    · subst e
      exact ⟨Or.inl (by simp [qz_rd]), Or.inl (by simp [qz_rd])⟩
    · have := i4 m' (by omega)
      simpa [qz_rd, e] using this
theorem gI_row {F : iv_F} {nm : Nat} {X : fX} {σ σ' : pz_Sg} (H : gI F nm X σ) (h1 : ∀ a, a ≠ 88 → σ'.1 a = σ.1 a) : gI F nm X σ' := by
  obtain ⟨i0, i1, i2, i3, i4, i5⟩ := H
  refine ⟨⟨fun a ha => by rw [h1 a (fun e => by rw [e] at ha; cases ha)]; exact i0.1 a ha, fun j hj => by rw [h1 55 (by decide)]; exact i0.2 j hj⟩, ?_, ?_, ?_, ?_, ?_⟩
  · rw [h1 80 (by decide), h1 81 (by decide)]; exact i1
  · rw [h1 81 (by decide), h1 82 (by decide), h1 83 (by decide), h1 84 (by decide), h1 85 (by decide), h1 86 (by decide), h1 87 (by decide)]; exact i2
  · rw [h1 81 (by decide)]; exact i3
  · rw [h1 82 (by decide), h1 83 (by decide)]; exact i4
  · rw [h1 55 (by decide)]; exact i5
theorem w_initM {F : iv_F} {nt nf ns nm : Nat} {X : fX} {B : Nat → Nat → Int64} (hP : fP F nt nf ns nm) (hX : fCl F nm X) (h7 : F 55 7 = nI nm) {P : pz_Ps} (hk : ∀ s, gI F nm X s → (∀ m, m < nm → fCm F (gCs F s) m 0 (fB F m)) → s.2 = B → pz_WP 142 (166, [some (.ref 55), none, none], []) (pz_up s 55 39 1) P) : ∀ d m s, m + d = nm → gJ F X B m s → pz_WP 142 (74, [some (.ref 55), some (.int (nI m)), none], []) s P := by
  have bm := hP.1.2.2.2
  intro d
  induction d with
  | zero =>
    intro m s hm J
    have hm : m = nm := by omega
    subst hm
    refine pv_142_74 _ s _ ?_
    rw [J.1.1.2 7 (by decide), h7]
    refine ⟨fun _ => ?_, fun z => absurd (Int32.le_refl _) z⟩
    rintro σ1 rfl
    exact hk s J.1 J.2.2.2.2.1 J.2.2.2.2.2
  | succ d ih =>
    intro m s hm J
    have mn : m < nm := by omega
    have m10 : m < 10 := by omega
    have vm : vp_in (nI m) 10 := vp_in_nI m10 (by decide)
    have cm : (nI m).toNatClampNeg = m := nI_clamp (by omega)
    have hL := fP_L' hP m mn
    obtain ⟨q, hq, e7⟩ := fP_q hP m mn
    have eq : (F 7 m).toNatClampNeg = q := by rw [e7]; exact nI_clamp (by omega)
    have e61 : F 61 m = nI q := ((hP.2.1.1 m mn).2.1.1).symm.trans e7
    obtain ⟨s4, hs4⟩ : ∃ s4, s4 = pz_up (pz_up (pz_up (pz_up s 82 m 0) 83 m 0) 84 m 0) 85 m 0 := ⟨_, rfl⟩
    have H4 := gJ_new m10 hL J hs4
    have o4 : ∀ a, a ≠ 82 → a ≠ 83 → a ≠ 84 → a ≠ 85 → s4.1 a = s.1 a := fun a h2 h3 h4 h5 => by
      rw [hs4, qz_rn _ _ _ _ h5, qz_rn _ _ _ _ h4, qz_rn _ _ _ _ h3, qz_rn _ _ _ _ h2]
    have cM : ∀ m', m' < m → ∀ s', (∀ a, a ≠ 88 → s'.1 a = s4.1 a) → fCm F (gCs F s') m' 0 (fB F m') := fun m' hm' s' h => by
      have h0 := J.2.2.2.2.1 m' hm'
      have e1 : s'.1 80 = s.1 80 := (h 80 (by decide)).trans (o4 80 (by decide) (by decide) (by decide) (by decide))
      have e2 : s'.1 81 = s.1 81 := (h 81 (by decide)).trans (o4 81 (by decide) (by decide) (by decide) (by decide))
      have e3 : s'.1 82 m' = s.1 82 m' := by
        rw [h 82 (by decide), hs4]
        have : ¬ m' = m := by omega
        simp [qz_rd, this]
      have e4 : s'.1 85 m' = s.1 85 m' := by
        rw [h 85 (by decide), hs4]
        have : ¬ m' = m := by omega
        simp [qz_rd, this]
      refine ⟨fun hl => ⟨?_, fun i hi => ?_⟩, fun hl => ⟨?_, fun e => ?_⟩⟩
      · show ¬ s'.1 81 _ = 0
        rw [e2]; exact (h0.1 hl).1
      · show i < 48 ∧ bB (s'.1 80 _) _
        rw [e1]; exact (h0.1 hl).2 i hi
      · show ¬ s'.1 82 m' = 0 ∨ ¬ s'.1 81 _ = 0
        rw [e2, e3]; exact (h0.2 hl).1
      · show bB (s'.1 85 m') 0 ∨ (_ ∧ _ ∧ ¬ s'.1 81 _ = 0)
        rw [e2, e4]; exact (h0.2 hl).2 e
    -- the row that it begins with
    have row : ∀ d' r (s' : pz_Sg), r + d' = 8 → (∀ a, a ≠ 88 → s'.1 a = s4.1 a) → s'.2 = B → (∀ r', r' < r → ∀ b, bB (s'.1 88 r') b ↔ b = 0 ∨ (r' < q ∧ b = 2 + r')) → pz_WP 142 (112, [some (.ref 55), some (.int (nI m)), some (.int (nI r))], []) s' P := by
      intro d'
      induction d' with
      | zero =>
        intro r s' hr ho hB2 hrow
        have hr : r = 8 := by omega
        subst hr
        have H' : gI F (m + 1) X s' := gI_row H4 ho
        have hN : ∀ r, r < 8 → ∀ b, bB (s'.1 88 r) b → b < 6 := fun r hr b hb => by
          have := (hrow r hr b).mp hb
          omega
        have eB : nB (s'.1 88) = fB F m := funext fun i => propext (by
          unfold nB fB
          rw [eq]
          exact and_congr_right fun hi => hrow (i / 6) (by omega) (i % 6))
        have g := gG_comes (nm := m + 1) (by omega) (fun m' hm' => fP_L' hP m' (by omega)) H' (m := m) (l := 0) (by omega) hN (by rw [eB]; exact (hX m mn).1)
        refine pv_142_112 _ _ s' _ ⟨fun _ => pz_kv (w_comes (l := 0) hP H' mn (by decide)) ?_, fun z => absurd (by decide) z⟩
        rw [nI_1]
        refine ih (m + 1) _ (by omega) ⟨g.2.1, fun j h1 h2 => ?_, fun j h1 h2 => ?_, fun j hj => ?_, fun m' hm' => ?_, (g.1.2.1.2.2 rfl).trans hB2⟩
        · rw [gcomes_81 hL h1, ho 81 (by decide), o4 81 (by decide) (by decide) (by decide) (by decide)]
          exact J.2.1 j (by omega) h2
        · rw [gcomes_80 hL h1, ho 80 (by decide), o4 80 (by decide) (by decide) (by decide) (by decide)]
          exact J.2.2.1 j (by omega) h2
        · rw [gcomes_o (by decide) (by decide) (by decide), gcomes_o (by decide) (by decide) (by decide), ho 86 (by decide), ho 87 (by decide), o4 86 (by decide) (by decide) (by decide) (by decide), o4 87 (by decide) (by decide) (by decide) (by decide)]
          exact J.2.2.2.1 j hj
        · by_cases em : m' = m
          · subst em
            -- what comes tells at once
            have l0 : gms F m' 0 = 0 ∨ (gms F m' 0 = (F 9 m').toNatClampNeg ∧ ¬ 0 < (F 9 m').toNatClampNeg) := by
              unfold gms
              split
              · exact Or.inl rfl
              · exact Or.inr ⟨rfl, by assumption⟩
            have gz : gG F (m' + 1) X (pz_up s' 55 39 0) (pz_up s' 55 39 0) (fun _ => True) := gG_r (gI_fl H' (Or.inl rfl))
            have b81 := H'.2.2.2.1 (25 * m' + gms F m' 0) (by have := gms_le (F := F) (m := m') (l := 0); omega)
            have n81 : ¬ (gcomes F s' m' 0 (s'.1 88)).1 81 (25 * m' + gms F m' 0) = 0 := by
              unfold gcomes
              rw [gco_81, fadd_w (by decide), if_pos rfl]
              rcases b81 with t | t <;> rw [t] <;> decide
            have b80 : ∀ d2 r2 (s2 : pz_Sg), r2 + d2 = 8 → ∀ i, 6 * r2 ≤ i → nB (s'.1 88) i → bB ((gco (25 * m' + gms F m' 0) (s'.1 88) d2 r2 s2).1 80 (8 * (25 * m' + gms F m' 0) + i / 6)) (i % 6) := by
              intro d2
              induction d2 with
              | zero => intro r2 s2 h2 i h3 h4; exact absurd h4.1 (by omega)
              | succ d2 ih2 =>
                intro r2 s2 h2 i h3 h4
                unfold gco
                by_cases ei : i / 6 = r2
                · have mono : ∀ d3 r3 (s3 : pz_Sg) y x, bB (s3.1 80 y) x → bB ((gco (25 * m' + gms F m' 0) (s'.1 88) d3 r3 s3).1 80 y) x := by
                    intro d3
                    induction d3 with
                    | zero => intro r3 s3 y x h; exact h
                    | succ d3 ih3 =>
                      intro r3 s3 y x h
                      unfold gco
                      refine ih3 _ _ y x ?_
                      rw [fadd_w (by decide)]
                      split
                      · rename_i ey
                        rw [bB_o, ← ey]
                        exact Or.inl h
                      · exact h
                  refine mono _ _ _ _ _ ?_
                  rw [ei, fadd_w (by decide), if_pos rfl, bB_o]
                  refine Or.inr ?_
                  have := h4.2
                  rw [ei] at this
                  exact this
                · exact ih2 (r2 + 1) _ (by omega) i (by omega) h4
            rcases l0 with l0 | ⟨l0, l0'⟩
            · have l0' : 0 < (F 9 m').toNatClampNeg ∨ ¬ 0 < (F 9 m').toNatClampNeg := by omega
              rcases l0' with hl | hl
              · refine ⟨fun _ => ⟨?_, fun i hi => ?_⟩, fun z => absurd hl z⟩
                · rw [l0] at n81
                  exact n81
                · rw [← eB] at hi
                  have := b80 8 0 (fadd 55 39 s' 81 (25 * m' + gms F m' 0) 1) (by decide) i (by omega) hi
                  rw [l0] at this
                  refine ⟨hi.1, ?_⟩
                  show bB ((gcomes F s' m' 0 (s'.1 88)).1 80 (8 * (25 * m' + 0) + i / 6)) (i % 6)
                  unfold gcomes
                  rw [l0]
                  exact this
              · have l00 : (F 9 m').toNatClampNeg = 0 := by omega
                rw [l0] at n81
                refine ⟨fun z => absurd z hl, fun _ => ⟨Or.inr ?_, fun e => Or.inr ⟨rfl, e, ?_⟩⟩⟩
                · rw [l00]; exact n81
                · rw [l00]; exact n81
            · rw [l0] at n81
              exact ⟨fun z => absurd z l0', fun _ => ⟨Or.inr n81, fun e => Or.inr ⟨rfl, e, n81⟩⟩⟩
          · exact gCm_mo g.1.1 (cM m' (by omega) s' ho)
      | succ d' ih' =>
        intro r s' hr ho hB2 hrow
        have r8 : r < 8 := by omega
        have v8 : vp_in (nI r) 8 := vp_in_nI r8 (by decide)
        have nx : ∀ x : Int32, (∀ b, bB x b ↔ b = 0 ∨ (r < q ∧ b = 2 + r)) → ∀ σ2 : pz_Sg, σ2 = pz_up s' 88 r x → pz_WP 142 (112, [some (.ref 55), some (.int (nI m)), some (.int (nI (r + 1)))], []) σ2 P := by
          rintro x hx σ2 rfl
          refine ih' (r + 1) _ (by omega) (fun a ha => by rw [qz_rn _ _ _ _ ha]; exact ho a ha) hB2 (fun r' hr' b => ?_)
          rw [r_88]
          show bB (if r' = r then x else s'.1 88 r') b ↔ _
          by_cases er : r' = r
          · rw [if_pos er, er]
            exact hx b
          · rw [if_neg er]
            exact hrow r' (by omega) b
        refine pv_142_112 _ _ s' _ ⟨fun z => absurd z (nI_ge r8 (by decide)), fun _ => ?_⟩
        rw [cm, ho 61 (by decide), o4 61 (by decide) (by decide) (by decide) (by decide), J.1.1.1 61 rfl, e61, nI_clamp (show r < 2 ^ 31 by omega), nI_1]
        refine ⟨vm, fun z => ⟨v8, nx 1 (fun b => ?_)⟩, fun z => ⟨v8, nx _ (fun b => ?_)⟩⟩
        · have : ¬ r < q := fun y => nI_ge y (by omega) z
          rw [bB_1]
          exact ⟨fun h => Or.inl h, fun h => h.elim id (fun h => absurd h.1 this)⟩
        · have rq : r < q := Nat.not_le.mp fun y => z (nI_le y (by omega))
          rw [bB_o, bB_1, (by decide +kernel : ∀ k, k < 3 → nI 4 <<< (nI k &&& 31) = (1 : Int32) <<< (nI (k + 2) &&& 31)) r (by omega), bB_sh (by omega)]
          exact or_congr Iff.rfl ⟨fun h => ⟨rq, by rw [show b = r + 2 from h]; omega⟩, fun h => by rw [h.2]; show 2 + r = r + 2; omega⟩
    refine pv_142_74 _ s _ ?_
    rw [J.1.1.2 7 (by decide), h7, cm]
    refine ⟨fun z => absurd z (nI_ge mn (by omega)), fun _ => ⟨vm, ?_⟩⟩
    rintro σ2 rfl
    refine ⟨vm, ?_⟩
    rintro σ2 rfl
    refine ⟨vm, ?_⟩
    rintro σ2 rfl
    refine ⟨vm, ?_⟩
    intro σ5 e5
    rw [← hs4] at e5
    subst e5
    exact row 8 0 σ5 (by decide) (fun _ _ => rfl) (by rw [hs4]; exact J.2.2.2.2.2) (fun r' hr' => absurd hr' (Nat.not_lt_zero _))
