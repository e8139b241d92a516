/-! ===== the reference's analyse ===== -/
theorem bB_mo {x y : Int32} (h : ∀ i, bt x i = true → bt y i = true) (z : ¬ x = 0) : ¬ y = 0 := fun e => z (bB_0.mpr fun i hi => bB_0.mp e i (h i hi))
theorem gCm_mo {F : iv_F} {s s' : pz_Sg} (h : fr_mo 80 8 s s') {m l : Nat} {st : Nat → Prop} (hc : fCm F (gCs F s) m l st) : fCm F (gCs F s') m l st := by
  have h80 := h.2 0 (by decide)
  have h81 := h.2 1 (by decide)
  have h82 := h.2 2 (by decide)
  have h85 := h.2 5 (by decide)
  refine ⟨fun hl => ⟨?_, fun i hi => ?_⟩, fun hl => ⟨?_, fun e => ?_⟩⟩
  · exact bB_mo (h81 _) (hc.1 hl).1
  · have := (hc.1 hl).2 i hi
    exact ⟨this.1, h80 _ _ this.2⟩
  · exact (hc.2 hl).1.imp (bB_mo (h82 _)) (bB_mo (h81 _))
  · exact ((hc.2 hl).2 e).imp (fun z => h85 _ _ z) (fun z => ⟨z.1, z.2.1, bB_mo (h81 _) z.2.2⟩)
/-- one round over all LINES -/
theorem w_round {F : iv_F} {nt nf ns nm : Nat} {X : fX} (hP : fP F nt nf ns nm) (hX : fCl F nm X) (h7 : F 55 7 = nI nm) {s0 : pz_Sg} (H0 : gI F nm X s0) {P : pz_Ps} (hk : ∀ s, gG F nm X s0 s (fun Y => gE nm Y ∧ ∀ m, m < nm → ∀ l, l < (F 9 m).toNatClampNeg → Y 0 m l 0 → fRu F Y m l) → pz_WP 142 (166, [some (.ref 55), none, none], []) s P) : pz_WP 142 (180, [some (.ref 55), some (.int 0), none], []) s0 P := by
  have bm := hP.1.2.2.2
  have l180 : ∀ d m s, m + d = nm → gG F nm X s0 s (fun Y => ∀ m', m' < m → ((Y 2 m' 0 0 → Y 9 m' 0 0) ∧ ∀ b, Y 5 m' b 0 → Y 10 m' b 0) ∧ ∀ l, l < (F 9 m').toNatClampNeg → Y 0 m' l 0 → gE nm Y → fRu F Y m' l) → pz_WP 142 (180, [some (.ref 55), some (.int (nI m)), none], []) s P := by
    intro d
    induction d with
    | zero =>
      intro m s hm g
      have hm : m = nm := by omega
      subst hm
      refine pv_142_180 _ s _ ?_
      rw [g.2.1.1.2 7 (by decide), h7]
      refine ⟨fun _ => hk s (gG_w g (fun Y hY => ?_)), fun z => absurd (Int32.le_refl _) z⟩
      have hE : gE m Y := fun m' hm' => (hY m' hm').1
      exact ⟨hE, fun m' hm' l hl z => (hY m' hm').2 l hl z hE⟩
    | succ d ih =>
      intro m s hm g
      have mn : m < nm := by omega
      have m10 : m < 10 := by omega
      obtain ⟨y, hy, e63, ey⟩ := gP_63 hP mn
      have vm : vp_in (nI m) 10 := vp_in_nI m10 (by decide)
      have cm : (nI m).toNatClampNeg = m := nI_clamp (by omega)
      have e62 : F 62 m = F 8 m := ((hP.2.1.1 m mn).2.2.1.1).symm
      have l190 : ∀ d' l s, l + d' = y → gG F nm X s0 s (fun Y => (∀ m', m' < m → ((Y 2 m' 0 0 → Y 9 m' 0 0) ∧ ∀ b, Y 5 m' b 0 → Y 10 m' b 0) ∧ ∀ l, l < (F 9 m').toNatClampNeg → Y 0 m' l 0 → gE nm Y → fRu F Y m' l) ∧ ∀ l', l' < l → Y 0 m l' 0 → gE nm Y → fRu F Y m l') → pz_WP 142 (190, [some (.ref 55), some (.int (nI m)), some (.int (nI l))], []) s P := by
        intro d'
        induction d' with
        | zero =>
          intro l s hl g
          have hl : l = y := by omega
          subst hl
          have H := g.2.1
          have ix : nI 25 * nI m + nI l = nI (25 * m + l) := by rw [pk_mul, nI_add]
          have cx : (nI (25 * m + l)).toNatClampNeg = 25 * m + l := nI_clamp (by omega)
          -- on to the next METHOD
          have nxt : ∀ s1, gG F nm X s s1 (fun Y => (Y 2 m 0 0 → Y 9 m 0 0) ∧ ∀ b, Y 5 m b 0 → Y 10 m b 0) → pz_WP 142 (180, [some (.ref 55), some (.int (nI (m + 1))), none], []) s1 P := by
            intro s1 g1
            refine ih (m + 1) s1 (by omega) (gG_w (gG_s g g1) (fun Y hY m' hm' => ?_))
            by_cases em : m' = m
            · subst em
              refine ⟨hY.2, fun l' hl' => hY.1.2 l' (by rw [ey] at hl'; exact hl')⟩
            · exact hY.1.1 m' (by omega)
          refine pv_142_190 _ _ s _ ?_
          rw [cm, H.1.1 63 rfl, e63, ix, cx, H.1.1 62 rfl, e62, nI_1]
          refine ⟨vm, fun _ => ⟨vm, vp_in_nI (by omega) (by decide), fun z => nxt s (gG_x (gG_r H) (fun _ _ => ⟨fun u => u.elim id (fun u => ?_), fun b u => u.elim id (fun u => ?_)⟩)), fun z => ⟨vm, fun z2 => ?_, fun z2 => ?_⟩⟩, fun z => absurd (Int32.le_refl _) z⟩
          · rw [ey] at u
            exact absurd z u
          · have u2 := u.2.2
            rw [ey] at u2
            exact absurd z u2
          · have rx : X 2 m 0 0 ∧ (F 8 m = nI 2 → X 5 m 0 0) := (H.2.2.1 m mn).1 (by rw [ey]; exact z)
            have g1 := gG_end H m10 mn (x := 1) rx.1 (fun b hb => by rw [bB_1] at hb; rw [show b = 0 from hb]; exact rx.2 z2)
            refine pz_kv (w_endM m10 H.2.2.2.2.2 (H.2.2.2.2.1 m mn).1 1) (nxt _ (gG_x g1 (fun _ hY => ⟨fun _ => hY.1.2, fun b u => u.elim id (fun u => ?_)⟩)))
            rw [u.1]
            exact (hY.2 0 (by rw [bB_1])).2
          · have rx : X 2 m 0 0 ∧ (F 8 m = nI 2 → X 5 m 0 0) := (H.2.2.1 m mn).1 (by rw [ey]; exact z)
            have g1 := gG_end H m10 mn (x := 0) rx.1 (fun b hb => absurd hb bB_n)
            exact pz_kv (w_endM m10 H.2.2.2.2.2 (H.2.2.2.2.1 m mn).1 0) (nxt _ (gG_x g1 (fun _ hY => ⟨fun _ => hY.1.2, fun b u => u.elim id (fun u => absurd u.2.1 z2)⟩)))
        | succ d' ih' =>
          intro l s hl g
          have H := g.2.1
          have ly : l < y := by omega
          have i1 : nI 25 * nI m + nI l = nI (25 * m + l) := by rw [pk_mul, nI_add]
          have c1 : (nI (25 * m + l)).toNatClampNeg = 25 * m + l := nI_clamp (by omega)
          refine pv_142_190 _ _ s _ ?_
          rw [cm, H.1.1 63 rfl, e63, i1, c1]
          refine ⟨vm, fun z => absurd z (nI_ge ly (by omega)), fun _ => ⟨vp_in_nI (by omega) (by decide), fun z => ?_, fun z => ?_⟩⟩
          · rw [nI_1]
            refine ih' (l + 1) s (by omega) (gG_x g (fun _ hY => ⟨hY.1, fun l' hl' u => ?_⟩))
            by_cases el : l' = l
            · subst el
              exact absurd z u
            · exact hY.2 l' (by omega) u
          · refine ⟨_, w_through hP hX H mn (by omega) z, ?_⟩
            rintro σ3 ⟨-, g3⟩
            rw [nI_1]
            refine ih' (l + 1) σ3 (by omega) (gG_w (gG_s g g3) (fun Y hY => ⟨hY.1.1, fun l' hl' u => ?_⟩))
            by_cases el : l' = l
            · subst el
              exact hY.2
            · exact hY.1.2 l' (by omega) u
      refine pv_142_180 _ s _ ?_
      rw [g.2.1.1.2 7 (by decide), h7]
      exact ⟨fun z => absurd z (nI_ge mn (by omega)), fun _ => l190 y 0 s (by omega) (gG_w g (fun Y hY => ⟨hY, fun l' hl' => absurd hl' (Nat.not_lt_zero _)⟩))⟩
  exact l180 nm 0 s0 (by omega) (gG_w (gG_r H0) (fun Y _ m' hm' => absurd hm' (Nat.not_lt_zero _)))
theorem gI_fl {F : iv_F} {nm : Nat} {X : fX} {σ : pz_Sg} (H : gI F nm X σ) {v : Int32} (hv : v = 0 ∨ v = 1) : gI F nm X (pz_up σ 55 39 v) := by
  refine ⟨⟨fun a ha => by rw [qz_rn _ _ _ _ (fun e => by rw [e] at ha; cases ha)]; exact H.1.1 a ha, fun j hj => ?_⟩, H.2.1, H.2.2.1, H.2.2.2.1, H.2.2.2.2.1, ?_⟩
  · rw [qz_rd, if_neg (fun z => hj z.2)]
    exact H.1.2 j hj
  · rw [qz_rs]
    exact hv
theorem fms_55 {s : pz_Sg} {v : Int32} : fms 80 8 2000 (pz_up s 55 39 v) = fms 80 8 2000 s := by
  have : ∀ n, n ≤ 8 * (2000 * 32) → fcz (fun t => bt ((pz_up s 55 39 v).1 (80 + t / (2000 * 32)) (t / 32 % 2000)) (t % 32)) n = fcz (fun t => bt (s.1 (80 + t / (2000 * 32)) (t / 32 % 2000)) (t % 32)) n := by
    intro n
    induction n with
    | zero => intro _; rfl
    | succ n ihn =>
      intro hn
      unfold fcz
      rw [ihn (by omega), qz_rn _ _ _ _ (show 80 + n / (2000 * 32) ≠ 55 by omega)]
  unfold fms
  rw [this _ (Nat.le_refl _)]
  rfl
/-- round by round: in the end the rules are kept -/
theorem w_rounds {F : iv_F} {nt nf ns nm : Nat} {X : fX} {B : Nat → Nat → Int64} (hP : fP F nt nf ns nm) (hX : fCl F nm X) (h7 : F 55 7 = nI nm) {P : pz_Ps} : ∀ N s, fms 80 8 2000 s < N → gI F nm X s → (∀ m, m < nm → fCm F (gCs F s) m 0 (fB F m)) → (s.1 55 39 = 0 → gE nm (gCs F s) ∧ fCl F nm (gCs F s)) → s.2 = B → (∀ s, gI F nm X s → s.1 55 39 = 0 → gE nm (gCs F s) → fCl F nm (gCs F s) → s.2 = B → pz_WP 142 (283, [some (.ref 55), some (.int 0), some (.int 0)], []) (pz_up s 55 21 1) P) → pz_WP 142 (166, [some (.ref 55), none, none], []) s P := by
  intro N
  induction N with
  | zero => intro s h; exact absurd h (Nat.not_lt_zero _)
  | succ N ih =>
    intro s hN H hB hf h2 hk'
    refine pv_142_166 s _ ⟨fun z => ?_, fun z => ?_⟩
    · rintro σ1 rfl
      exact hk' s H z (hf z).1 (hf z).2 h2
    · rintro σ2 rfl
      refine w_round hP hX h7 (gI_fl H (Or.inl rfl)) (fun s2 g => ?_)
      have h22 : s2.2 = B := (g.1.2.1.2.2 rfl).trans h2
      have B2 : ∀ m, m < nm → fCm F (gCs F s2) m 0 (fB F m) := fun m hm => gCm_mo g.1.1 (hB m hm)
      have cl : s2.1 55 39 = 0 → gE nm (gCs F s2) ∧ fCl F nm (gCs F s2) := fun y => by
        obtain ⟨h1, h2⟩ := g.2.2 y
        exact ⟨h1, fun m hm => ⟨B2 m hm, h2 m hm⟩⟩
      rcases g.1.2.2 with ⟨sa, fl⟩ | ⟨sa, fl⟩
      · have f0 : s2.1 55 39 = 0 := fl.trans (qz_rs _ _ _ _)
        refine pv_142_166 s2 _ ⟨fun _ => ?_, fun y => absurd f0 y⟩
        rintro σ1 rfl
        exact hk' s2 g.2.1 f0 (cl f0).1 (cl f0).2 h22
      · have dec := fr_ms (by decide) g.1 sa
        rw [fms_55] at dec
        exact ih s2 (by omega) g.2.1 B2 cl h22 hk'
