theorem qz_Wg1 : ∀ o, o < 32 → ((6 ≤ o ∧ o ≤ 9) → qz_W (3 * o) = 1) ∧ (o = 7 → qz_W (3 * o + 1) = 1) ∧ ((10 ≤ o ∧ o ≤ 15) ∨ o = 20 → qz_W (3 * o) = 1 ∧ qz_W (3 * o + 1) = 1) ∧ ((10 ≤ o ∧ o ≤ 13) → qz_W (3 * o + 2) = 3 ∨ qz_W (3 * o + 2) = 4) := by decide +kernel
theorem qz_Wg2 : ∀ o, o < 32 → ((16 ≤ o ∧ o ≤ 19) → (qz_W (3 * o) = 1 ∨ qz_W (3 * o) = 5 ∨ qz_W (3 * o) = 6) ∧ (qz_W (3 * o + 1) = 1 ∨ qz_W (3 * o + 1) = 5 ∨ qz_W (3 * o + 1) = 6)) ∧ ((23 ≤ o ∧ o ≤ 27) → qz_W (3 * o) = 1 ∧ qz_W (3 * o + 2) = 8) := by decide +kernel
theorem qz_Wg3 : ∀ o, o < 32 → (o = 28 → qz_W (3 * o + 2) = 8) ∧ (o = 29 → qz_W (3 * o) = 1) ∧ (o = 30 → qz_W (3 * o) = 9) ∧ (o = 31 → qz_W (3 * o) = 10) ∧ (o = 21 → qz_W (3 * o) = 1 ∧ qz_W (3 * o + 1) = 7 ∧ qz_W (3 * o + 2) = 1) := by decide +kernel
theorem qz_s1 {F : iv_F} {nt nf ns nm m k : Nat} {x : Int32} (h : qz_su F nt nf ns nm m k x) (e : k = 1) : x = nI x.toNatClampNeg ∧ x.toNatClampNeg < 8 := by
  subst e
  have := vp_N (n := 8) h (by decide)
  exact ⟨this.2, this.1⟩
theorem qz_s8 {F : iv_F} {nt nf ns nm m k : Nat} {x : Int32} (h : qz_su F nt nf ns nm m k x) (e : k = 8) : x = nI x.toNatClampNeg ∧ x.toNatClampNeg < 25 := by
  subst e
  have := vp_N (n := 25) h (by decide)
  exact ⟨this.2, this.1⟩
theorem qz_s9 {F : iv_F} {nt nf ns nm m k : Nat} {x : Int32} (h : qz_su F nt nf ns nm m k x) (e : k = 9) : x = nI x.toNatClampNeg ∧ x.toNatClampNeg < 4 := by
  subst e
  have := vp_N (n := 4) h (by decide)
  exact ⟨this.2, this.1⟩
theorem qz_s7 {F : iv_F} {nt nf ns nm m k : Nat} {x : Int32} (bm : nm ≤ 10) (h : qz_su F nt nf ns nm m k x) (e : k = 7) : x = nI x.toNatClampNeg ∧ x.toNatClampNeg < nm := by
  subst e
  have := vp_N (n := nm) h (by omega)
  exact ⟨this.2, this.1⟩
theorem qz_s34 {F : iv_F} {nt nf ns nm m k : Nat} {x : Int32} (bf : nf ≤ 16) (h : qz_su F nt nf ns nm m k x) (e : k = 3 ∨ k = 4) : x = nI x.toNatClampNeg ∧ x.toNatClampNeg < nf := by
  rcases e with rfl | rfl
  · have := vp_N (n := nf) h.1 (by omega)
    exact ⟨this.2, this.1⟩
  · have := vp_N (n := nf) h.1 (by omega)
    exact ⟨this.2, this.1⟩
theorem qz_s56 {F : iv_F} {nt nf ns nm m k : Nat} {x : Int32} (bs : ns ≤ 8) (h : qz_su F nt nf ns nm m k x) (e : k = 1 ∨ k = 5 ∨ k = 6) : x = nI x.toNatClampNeg ∧ x.toNatClampNeg < 8 := by
  rcases e with rfl | rfl | rfl
  · exact qz_s1 h rfl
  · have := vp_N (n := ns) h.1 (by omega)
    exact ⟨this.2, by omega⟩
  · have := vp_N (n := ns) h.1 (by omega)
    exact ⟨this.2, by omega⟩
theorem qz_s10 {F : iv_F} {nt nf ns nm m k : Nat} {x : Int32} (h : qz_su F nt nf ns nm m k x) (e : k = 10) (h8 : ¬ F 8 m = 0) : x = nI x.toNatClampNeg ∧ x.toNatClampNeg < 8 := by
  subst e
  exact qz_s1 (F := F) (nt := nt) (nf := nf) (ns := ns) (nm := nm) (m := m) (k := 1) (h.resolve_left h8) rfl
/-- what mayThrow leaves of a LINE that was weighed -/
theorem w_tailT {F : iv_F} {nt nf ns nm : Nat} {X : fX} {m l : Nat} {w : Int64} (K : fK F nt nf ns nm X m l w) {σ σ1 : pz_Sg} (hw : σ.2 32 (24 * m + l) = w) {o a b c : Nat} {th : Int32} (h : fQ F nm X m l w o a b c σ (some (.int th)) σ1) {P : pz_Sg → Prop} (hP : ∀ σ2, fG F nm X σ σ2 (fun Y => fRo F Y m l a b c o) → P σ2) : ∃ Q : pz_Ps, pz_WP 17 (0, pz_en 6 [.ref 31, .int (nI m), .int (nI l), .int th], []) σ1 Q ∧ ∀ σ2, Q none σ2 → P σ2 := by
  obtain ⟨th', e, h1, C, g, h2⟩ := h
  cases e
  have wn : ¬ σ1.2 32 (24 * m + l) = 0 := fG_nz g (by rw [hw]; exact fZ_n K.2.2.2)
  refine pz_kv (pv_17 _ _ _ σ1 _ (w_mayThrow K.1.1.2.2.2 (fP_L K.1) K.1.2.2.2 (fP_4 K.1) K.2.1.1 K.2.1.2 th 9 1 σ1 (by decide) g.2.1 wn (fun f f1 f2 y => h1 f f1 f2 y))) (hP _ ?_)
  have g2 := fG_thrs K.1.1.2.2.2 (fP_L' K.1) K.2.1.1 K.2.1.2 (th := th) 9 1 σ1 g.2.1 wn (by decide) (fun f f1 f2 y => h1 f f1 f2 y)
  refine fG_x (fG_s g g2) (fun s cY => h2 _ ?_ cY.1 (fun f f1 f2 y => cY.2 f f1 f2 y))
  show qB ((fthrs F m l th 9 1 σ1).2 32 (24 * m + l)) = qB w
  rw [s.1, hw]
theorem fQv_Q {F : iv_F} {nm : Nat} {X : fX} {m l : Nat} {w : Int64} {o a b c : Nat} {σ σ' : pz_Sg} (h : fQv F nm X m l w o a b c σ σ') : fQ F nm X m l w o a b c σ (some (.int 0)) σ' := by
  obtain ⟨C, g, h⟩ := h
  exact ⟨0, rfl, fun f _ _ z => absurd z bB_n, C, g, fun Y hY cY _ => h Y hY cY⟩
theorem w_weigh {F : iv_F} {nt nf ns nm : Nat} {X : fX} (hP : fP F nt nf ns nm) (hX : fCl F nm X) (hX0 : ∀ {k m x i}, X k m x i → f0 F k m x i) {σ : pz_Sg} (H : fI F nm X σ) {m l : Nat} (hm : m < nm) (hl : l < (F 9 m).toNatClampNeg) : pz_WP 19 (0, pz_en 8 [.ref 31, .int (nI m), .int (nI l)], []) σ (fun v σ' => v = none ∧ fG F nm X σ σ' (fun Y => Y 0 m l 0 → fRu F Y m l)) := by
  have bm := hP.1.2.2.2
  have bl := fP_L' hP m hm
  obtain ⟨ix, cx, vx⟩ := fix24 (m := m) (l := l) (by omega) (by omega)
  refine pv_19 _ _ σ _ ?_
  rw [ix, cx, H.1 10 rfl]
  refine ⟨vx, fun z => ⟨rfl, fG_r H |>.1, H, fun _ y => absurd (lg0.mp z) y⟩, fun z => ⟨vx, ?_⟩⟩
  have wn : ¬ σ.2 32 (24 * m + l) = 0 := fun y => z (lg0.mpr y)
  obtain ⟨x1, x2⟩ := H.2.1 m hm l hl
  obtain ⟨x0, hz⟩ := x2 wn
  obtain ⟨w, hw⟩ : ∃ w, w = σ.2 32 (24 * m + l) := ⟨_, rfl⟩
  rw [← hw] at wn x1 hz ⊢
  have K : fK F nt nf ns nm X m l w := ⟨hP, ⟨hm, hl⟩, x1, hz⟩
  obtain ⟨o, ho, e10, u1, u2, u3, u21⟩ := fOp hP.2.2.1 hm hl
  have R := (hX m hm).2 l hl x0
  unfold fRu at R
  rw [e10, nI_clamp (by omega)] at R
  have eR : ∀ Y, fRu F Y m l = fRo F Y m l (F 11 (24 * m + l)).toNatClampNeg (F 12 (24 * m + l)).toNatClampNeg (F 13 (24 * m + l)).toNatClampNeg o := fun Y => by
    unfold fRu
    rw [e10, nI_clamp (by omega)]
  obtain ⟨k1, k2, k3, k4⟩ := qz_Wg1 o ho
  obtain ⟨k5, k6⟩ := qz_Wg2 o ho
  obtain ⟨k7, k8, k9, k10, k11⟩ := qz_Wg3 o ho
  rw [e10]
  -- behind each kind of LINE, what it may throw
  have done : ∀ σ2, fG F nm X σ σ2 (fun Y => fRo F Y m l (F 11 (24 * m + l)).toNatClampNeg (F 12 (24 * m + l)).toNatClampNeg (F 13 (24 * m + l)).toNatClampNeg o) → (none : Option Value) = none ∧ fG F nm X σ σ2 (fun Y => Y 0 m l 0 → fRu F Y m l) := fun σ2 g => ⟨rfl, fG_w g (fun Y h _ => by rw [eR]; exact h)⟩
  have t58 : (10 ≤ o ∧ o ≤ 15) ∨ o = 20 → pz_WP 19 (58, [some (.ref 31), some (.int (nI m)), some (.int (nI l)), none, some (.long w), none, none, none], []) σ (fun v σ' => v = none ∧ fG F nm X σ σ' (fun Y => Y 0 m l 0 → fRu F Y m l)) := by
    intro h
    refine pv_19_58 _ _ _ σ _ ⟨_, w_part K H (c := (F 13 (24 * m + l)).toNatClampNeg) e10 h (qz_s1 u1 (k3 h).1) (qz_s1 u2 (k3 h).2) (fun a b => ?_) R, fun r1 σ1 hq => w_tailT K hw.symm hq done⟩
    have := qz_s34 hP.1.2.1 u3 (k4 ⟨a, b⟩)
    exact ⟨this.1, by have := hP.1.2.1; omega⟩
  have t167 : o < 10 ∨ o = 22 ∨ 29 ≤ o → pz_WP 19 (167, [some (.ref 31), some (.int (nI m)), some (.int (nI l)), none, some (.long w), none, some (.int (nI o)), none], []) σ (fun v σ' => v = none ∧ fG F nm X σ σ' (fun Y => Y 0 m l 0 → fRu F Y m l)) := by
    intro h
    refine pv_19_167 _ _ _ _ σ _ ⟨fun y => ?_, fun y => ?_⟩
    · have o29 : o < 29 := (nI_ltI (by omega) (by decide)).mp y
      exact ⟨_, w_plain K H (F 13 (24 * m + l)).toNatClampNeg e10 (by omega) (fun a b => qz_s1 u1 (k1 ⟨a, b⟩)) (fun a => qz_s1 u2 (k2 a)) R, fun r1 σ1 hq => w_tailT K hw.symm hq done⟩
    · have o29 : ¬ o < 29 := fun q => y ((nI_ltI (by omega) (by decide)).mpr q)
      refine ⟨_, w_check K H (F 12 (24 * m + l)).toNatClampNeg (F 13 (24 * m + l)).toNatClampNeg e10 (by omega) ⟨fun q => ?_, fun q => qz_s9 u1 (k9 q)⟩ R, fun r1 σ1 hq => w_tailT K hw.symm hq done⟩
      rcases q with q | ⟨q, q2⟩
      · exact qz_s1 u1 (k8 q)
      · exact qz_s10 u1 (k10 q) (by rw [q2]; decide)
  have t96 : ¬ ((10 ≤ o ∧ o ≤ 15) ∨ o = 20) → ¬ (16 ≤ o ∧ o ≤ 19) → pz_WP 19 (96, [some (.ref 31), some (.int (nI m)), some (.int (nI l)), some (.int (nI (24 * m + l))), some (.long w), none, some (.int (nI o)), some (.int 0)], []) σ (fun v σ' => v = none ∧ fG F nm X σ σ' (fun Y => Y 0 m l 0 → fRu F Y m l)) := by
    intro h1 h2
    refine pv_19_96 _ _ _ _ _ _ σ _ ⟨fun y => ?_, fun y => ⟨fun y2 => ⟨vx, ?_⟩, fun y2 => ⟨fun y3 => t167 ?_, fun y3 => ⟨fun y4 => t167 ?_, fun y4 => ?_⟩⟩⟩⟩
    · have o21 : o = 21 := (nI_eq (by omega) (by decide)).mp y
      subst o21
      have hb := qz_s7 bm u2 (k11 rfl).2.1
      have hc := qz_s1 u3 (k11 rfl).2.2
      obtain ⟨q, hq, e7⟩ := fP_q hP _ hb.2
      have q2 := (u21 rfl).2
      rw [e7, hc.1, nI_add, nI_leI (by have := hc.2; omega) (by decide)] at q2
      refine ⟨_, w_call K hX0 H (F 11 (24 * m + l)).toNatClampNeg hb hc (by rw [e7, nI_clamp (by omega)]; exact q2) R, fun r1 σ1 hq => w_tailT K hw.symm hq done⟩
    · have o28 : o = 28 := (nI_eq (by omega) (by decide)).mp y2
      subst o28
      have hc := qz_s8 u3 (k7 rfl)
      rw [cx, H.1 13 rfl]
      rw [hc.1]
      refine pz_kv (w_reach bm (fP_L hP) H hm (by have := hc.2; omega) w) ?_
      have g := fG_rc K H R
      exact w_tailT K hw.symm (a := (F 11 (24 * m + l)).toNatClampNeg) (b := (F 12 (24 * m + l)).toNatClampNeg) (c := (F 13 (24 * m + l)).toNatClampNeg) (o := 28) ⟨0, rfl, fun f _ _ z => absurd z bB_n, _, g, fun Y hY cY _ => by
        show fCm F Y m (F 13 (24 * m + l)).toNatClampNeg (Y 1 m l)
        rw [hY]
        exact cY⟩ done
    · have : o < 23 := (nI_ltI (by omega) (by decide)).mp y3
      have n21 : ¬ o = 21 := fun e => y (by rw [e])
      omega
    · have : 27 < o := (nI_ltI (by decide) (by omega)).mp y4
      have n28 : ¬ o = 28 := fun e => y2 (by rw [e])
      omega
    · have a1 : ¬ o < 23 := fun q => y3 ((nI_ltI (by omega) (by decide)).mpr q)
      have a2 : ¬ 27 < o := fun q => y4 ((nI_ltI (by decide) (by omega)).mpr q)
      have a3 : 23 ≤ o ∧ o ≤ 27 := by omega
      refine ⟨_, w_branch K H (F 12 (24 * m + l)).toNatClampNeg e10 a3 (qz_s1 u1 (k6 a3).1) (qz_s8 u3 (k6 a3).2) R, ?_⟩
      rintro σ1 ⟨-, hq⟩
      exact w_tailT K hw.symm (fQv_Q hq) done
  have t51 : ¬ (10 ≤ o ∧ o ≤ 15) → pz_WP 19 (51, [some (.ref 31), some (.int (nI m)), some (.int (nI l)), some (.int (nI (24 * m + l))), some (.long w), none, some (.int (nI o)), some (.int 0)], []) σ (fun v σ' => v = none ∧ fG F nm X σ σ' (fun Y => Y 0 m l 0 → fRu F Y m l)) := by
    intro h1
    refine pv_19_51 _ _ _ _ _ _ σ _ ⟨fun y => t58 (Or.inr ((nI_eq (by omega) (by decide)).mp y)), fun y => ⟨fun y2 => t96 ?_ ?_, fun y2 => ⟨fun y3 => t96 ?_ ?_, fun y3 => ?_⟩⟩⟩
    · have n20 : ¬ o = 20 := fun e => y (by rw [e])
      omega
    · have : o < 16 := (nI_ltI (by omega) (by decide)).mp y2
      omega
    · have n20 : ¬ o = 20 := fun e => y (by rw [e])
      omega
    · have : 19 < o := (nI_ltI (by decide) (by omega)).mp y3
      omega
    · have a1 : ¬ o < 16 := fun q => y2 ((nI_ltI (by omega) (by decide)).mpr q)
      have a2 : ¬ 19 < o := fun q => y3 ((nI_ltI (by decide) (by omega)).mpr q)
      have a3 : 16 ≤ o ∧ o ≤ 19 := by omega
      refine ⟨_, w_static K H (F 13 (24 * m + l)).toNatClampNeg e10 a3 (qz_s56 hP.1.2.2.1 u1 (k5 a3).1) (qz_s56 hP.1.2.2.1 u2 (k5 a3).2) R, ?_⟩
      rintro σ1 ⟨-, hq⟩
      exact w_tailT K hw.symm (fQv_Q hq) done
  refine ⟨fun y => t51 ?_, fun y => ⟨fun y2 => t58 (Or.inl ?_), fun y2 => t51 ?_⟩⟩
  · have : o < 10 := (nI_ltI (by omega) (by decide)).mp y
    omega
  · have a1 : ¬ o < 10 := fun q => y ((nI_ltI (by omega) (by decide)).mpr q)
    have a2 := (nI_leI (by omega) (by decide)).mp y2
    omega
  · have a2 : ¬ o ≤ 15 := fun q => y2 ((nI_leI (by omega) (by decide)).mpr q)
    omega
/-- Foresight.beginning -/
theorem w_begin {F : iv_F} {σ : pz_Sg} {m q : Nat} (hm : m < 10) (h7 : σ.1 7 m = nI q) (e7 : F 7 m = nI q) (hq : q ≤ 3) : pz_WP 12 (0, pz_en 6 [.ref 31, .int (nI m)], []) σ (fun v σ' => σ' = σ ∧ ∃ w, v = some (.long w) ∧ qB w = fB F m) := by
  have vm : vp_in (nI m) 10 := vp_in_nI hm (by decide)
  have cm : (nI m).toNatClampNeg = m := nI_clamp (by omega)
  have go : ∀ d r w, r + d = 8 → (∀ i, qB w i ↔ i < 6 * r ∧ (i % 6 = 0 ∨ (i / 6 < q ∧ i % 6 = 2 + i / 6))) → pz_WP 12 (5, [some (.ref 31), some (.int (nI m)), some (.long w), none, some (.int (nI r)), none], []) σ (fun v σ' => σ' = σ ∧ ∃ w, v = some (.long w) ∧ qB w = fB F m) := by
    intro d
    induction d with
    | zero =>
      intro r w hr hw
      have hr : r = 8 := by omega
      subst hr
      refine pv_12_5 _ _ _ σ _ ⟨fun _ => ⟨rfl, w, rfl, funext fun i => propext ?_⟩, fun z => absurd (by decide) z⟩
      rw [hw]
      unfold fB
      rw [e7, nI_clamp (by omega)]
    | succ d ih =>
      intro r w hr hw
      have st : ∀ x : Int32, (∀ b, bB x b ↔ b = 0 ∨ (r < q ∧ b = 2 + r)) → pz_WP 12 (36, [some (.ref 31), some (.int (nI m)), some (.long w), none, some (.int (nI r)), none], [.int x]) σ (fun v σ' => σ' = σ ∧ ∃ w, v = some (.long w) ∧ qB w = fB F m) := by
        intro x hx
        refine pv_12_36 _ _ _ _ σ _ (pz_kl (w_with w r x σ) ?_)
        rw [nI_1]
        refine ih (r + 1) _ (by omega) (fun i => ?_)
        rw [qw_B (by omega) (fun b hb => by have := (hx b).mp hb; omega)]
        unfold fW
        rw [hx, hw]
        by_cases z : 6 * r ≤ i ∧ i < 6 * r + 6
        · have e1 : i / 6 = r := by omega
          have e2 : i % 6 = i - 6 * r := by omega
          rw [e1, e2]
          constructor
          · rintro (h | h)
            · exact ⟨by omega, h.2.2⟩
            · exact absurd z h.1
          · intro h
            exact Or.inl ⟨z.1, z.2, h.2⟩
        · constructor
          · rintro (h | h)
            · exact absurd ⟨h.1, h.2.1⟩ z
            · exact ⟨by omega, h.2.2⟩
          · intro h
            exact Or.inr ⟨z, by omega, h.2⟩
      refine pv_12_5 _ _ _ σ _ ⟨fun z => absurd z (nI_ge (by omega) (by decide)), fun _ => ?_⟩
      rw [cm, h7]
      refine ⟨vm, fun z => st 1 (fun b => ?_), fun z => st _ (fun b => ?_)⟩
      · have : ¬ r < q := fun y => nI_ge y (by omega) z
        rw [bB_1]
        exact ⟨fun h => Or.inl h, fun h => h.elim id (fun h => absurd h.1 this)⟩
      · have rq : r < q := Nat.not_le.mp fun y => z (nI_le y (by omega))
        rw [bB_o, bB_1, (by decide +kernel : ∀ k, k < 3 → nI 4 <<< (nI k &&& 31) = (1 : Int32) <<< (nI (k + 2) &&& 31)) r (by omega), bB_sh (by omega)]
        exact or_congr Iff.rfl ⟨fun h => ⟨rq, by rw [show b = r + 2 from h]; omega⟩, fun h => by rw [h.2]; show 2 + r = r + 2; omega⟩
  exact pv_12 _ σ _ (go 8 0 0 (by decide) (fun i => ⟨fun h => absurd h (qB_0.mp rfl i), fun h => absurd h.1 (by omega)⟩))
/-- Foresight.forget -/
def fZo (σ σ' : pz_Sg) : Prop := (∀ a, fcN a = false → σ'.1 a = σ.1 a) ∧ (∀ j, j < 240 → σ'.2 32 j = 0) ∧ (∀ j, j < 40 → σ'.1 33 j = 0 ∧ σ'.1 34 j = 0) ∧ ∀ j, j < 10 → σ'.1 35 j = 0 ∧ σ'.1 36 j = 0 ∧ σ'.1 37 j = 0 ∧ σ'.1 38 j = 0
theorem w_forget {σ : pz_Sg} : pz_WP 11 (0, pz_en 2 [.ref 31], []) σ (fun v σ' => v = none ∧ fZo σ σ') := by
  have l3 : ∀ d k s, k + d = 10 → ((∀ a, fcN a = false → s.1 a = σ.1 a) ∧ (∀ j, j < 240 → s.2 32 j = 0) ∧ (∀ j, j < 40 → s.1 33 j = 0 ∧ s.1 34 j = 0) ∧ ∀ j, j < k → s.1 35 j = 0 ∧ s.1 36 j = 0 ∧ s.1 37 j = 0 ∧ s.1 38 j = 0) → pz_WP 11 (52, [some (.ref 31), some (.int (nI k))], []) s (fun v σ' => v = none ∧ fZo σ σ') := by
    intro d
    induction d with
    | zero =>
      intro k s hk h
      have hk : k = 10 := by omega
      subst hk
      exact pv_11_52 _ s _ ⟨fun _ => ⟨rfl, h⟩, fun z => absurd (by decide) z⟩
    | succ d ih =>
      intro k s hk h
      have vk : vp_in (nI k) 10 := vp_in_nI (by omega) (by decide)
      refine pv_11_52 _ s _ ⟨fun z => absurd z (nI_ge (by omega) (by decide)), fun _ => ?_⟩
      rw [nI_clamp (by omega), nI_1]
      refine ⟨vk, ?_⟩
      rintro σ1 rfl
      refine ⟨vk, ?_⟩
      rintro σ1 rfl
      refine ⟨vk, ?_⟩
      rintro σ1 rfl
      refine ⟨vk, ?_⟩
      rintro σ1 rfl
      refine ih (k + 1) _ (by omega) ⟨fun a ha => ?_, h.2.1, h.2.2.1, fun j hj => ?_⟩
      · rw [qz_rn _ _ _ _ (fun e => by rw [e] at ha; cases ha), qz_rn _ _ _ _ (fun e => by rw [e] at ha; cases ha), qz_rn _ _ _ _ (fun e => by rw [e] at ha; cases ha), qz_rn _ _ _ _ (fun e => by rw [e] at ha; cases ha)]
        exact h.1 a ha
      · by_cases e : j = k
        · subst e
          simp [qz_rd]
        · have := h.2.2.2 j (by omega)
          simpa [qz_rd, e] using this
  have l2 : ∀ d k s, k + d = 40 → ((∀ a, fcN a = false → s.1 a = σ.1 a) ∧ (∀ j, j < 240 → s.2 32 j = 0) ∧ ∀ j, j < k → s.1 33 j = 0 ∧ s.1 34 j = 0) → pz_WP 11 (24, [some (.ref 31), some (.int (nI k))], []) s (fun v σ' => v = none ∧ fZo σ σ') := by
    intro d
    induction d with
    | zero =>
      intro k s hk h
      have hk : k = 40 := by omega
      subst hk
      exact pv_11_24 _ s _ ⟨fun _ => l3 10 0 s (by decide) ⟨h.1, h.2.1, h.2.2, fun j hj => absurd hj (Nat.not_lt_zero _)⟩, fun z => absurd (by decide) z⟩
    | succ d ih =>
      intro k s hk h
      have vk : vp_in (nI k) 40 := vp_in_nI (by omega) (by decide)
      refine pv_11_24 _ s _ ⟨fun z => absurd z (nI_ge (by omega) (by decide)), fun _ => ?_⟩
      rw [nI_clamp (by omega), nI_1]
      refine ⟨vk, ?_⟩
      rintro σ1 rfl
      refine ⟨vk, ?_⟩
      rintro σ1 rfl
      refine ih (k + 1) _ (by omega) ⟨fun a ha => ?_, h.2.1, fun j hj => ?_⟩
      · rw [qz_rn _ _ _ _ (fun e => by rw [e] at ha; cases ha), qz_rn _ _ _ _ (fun e => by rw [e] at ha; cases ha)]
        exact h.1 a ha
      · by_cases e : j = k
        · subst e
          simp [qz_rd]
        · have := h.2.2 j (by omega)
          simpa [qz_rd, e] using this
  have l1 : ∀ d k s, k + d = 240 → ((∀ a, fcN a = false → s.1 a = σ.1 a) ∧ ∀ j, j < k → s.2 32 j = 0) → pz_WP 11 (2, [some (.ref 31), some (.int (nI k))], []) s (fun v σ' => v = none ∧ fZo σ σ') := by
    intro d
    induction d with
    | zero =>
      intro k s hk h
      have hk : k = 240 := by omega
      subst hk
      exact pv_11_2 _ s _ ⟨fun _ => l2 40 0 s (by decide) ⟨h.1, h.2, fun j hj => absurd hj (Nat.not_lt_zero _)⟩, fun z => absurd (by decide) z⟩
    | succ d ih =>
      intro k s hk h
      refine pv_11_2 _ s _ ⟨fun z => absurd z (nI_ge (by omega) (by decide)), fun _ => ⟨vp_in_nI (by omega) (by decide), ?_⟩⟩
      rw [nI_clamp (by omega), nI_1]
      rintro σ1 rfl
      refine ih (k + 1) _ (by omega) ⟨h.1, fun j hj => ?_⟩
      rw [qz_rq]
      by_cases e : j = k
      · rw [if_pos ⟨rfl, e⟩]
      · rw [if_neg (fun y => e y.2)]
        exact h.2 j (by omega)
  exact pv_11 σ _ (l1 240 0 σ (by decide) ⟨fun _ _ => rfl, fun j hj => absurd hj (Nat.not_lt_zero _)⟩)
theorem fI_0 {F : iv_F} {nm : Nat} (bm : nm ≤ 10) {X : fX} {σ σ' : pz_Sg} (hL : ∀ m, m < nm → (F 9 m).toNatClampNeg ≤ 24) (hF : ∀ a, fcN a = false → σ.1 a = F a) (h : fZo σ σ') : fI F nm X σ' := by
  obtain ⟨h0, h1, h2, h3⟩ := h
  refine ⟨fun a ha => (h0 a ha).trans (hF a ha), fun m hm l hl => ?_, fun m hm => ?_, fun m hm z => ?_, fun m hm => ?_⟩
  · have := hL m hm
    rw [h1 (24 * m + l) (by omega)]
    exact ⟨fun i hi => absurd hi (qB_0.mp rfl i), fun z => absurd rfl z⟩
  · obtain ⟨a1, a2, a3, a4⟩ := h3 m (by omega)
    rw [a1, a2, a3, a4]
    refine ⟨fun z => absurd rfl z, fun z => absurd rfl z, fun f z => absurd z bB_n, fun f z => absurd z bB_n, fun w hw p => ?_⟩
    obtain ⟨b1, b2⟩ := h2 (4 * m + w) (by omega)
    rw [b1, b2]
    exact ⟨fun z => absurd z bB_n, fun z => absurd z bB_n⟩
  · exact absurd (h3 m (by omega)).2.2.2 z
  · exact ⟨Or.inl (h3 m hm).2.2.1, Or.inl (h3 m hm).2.2.2⟩
theorem fI_fl {F : iv_F} {nm : Nat} {X : fX} {σ : pz_Sg} (H : fI F nm X σ) (v : Int32) : fI F nm X (pz_up σ 31 8 v) := ⟨fun a ha => by rw [qz_rn _ _ _ _ (fun e => by rw [e] at ha; cases ha)]; exact H.1 a ha, H.2.1, H.2.2.1, H.2.2.2.1, H.2.2.2.2⟩
/-- Foresight.foresee: what is held in the end keeps the rules, and holds nothing beyond them -/
theorem w_foresee {F : iv_F} {nt nf ns nm : Nat} {X : fX} (hP : fP F nt nf ns nm) (hX : fCl F nm X) (hX0 : ∀ {k m x i}, X k m x i → f0 F k m x i) {σ : pz_Sg} (hF : ∀ a, fcN a = false → σ.1 a = F a) (h13 : F 1 3 = nI nm) : pz_WP 10 (0, pz_en 4 [.ref 31], []) σ (fun v σ' => v = none ∧ fI F nm X σ' ∧ fCl F nm (fCs σ')) := by
  have bm := hP.1.2.2.2
  have hL := fP_L' hP
  -- one METHOD's LINES
  have l55 : ∀ (P : pz_Ps) (k : Nat) (s0 : pz_Sg) (m : Nat), m < nm → (∀ s D, fG F nm X s0 s D → pz_WP 10 (31, [some (.ref 31), some (.int (nI k)), some (.int (nI (m + 1))), none], []) s P ∨ True → True) → ∀ (C0 : fX → Prop), (∀ s, fG F nm X s0 s (fun Y => C0 Y ∧ ∀ l, l < (F 9 m).toNatClampNeg → Y 0 m l 0 → fRu F Y m l) → pz_WP 10 (31, [some (.ref 31), some (.int (nI k)), some (.int (nI (m + 1))), none], []) s P) → ∀ d l s, l + d = (F 9 m).toNatClampNeg → fG F nm X s0 s (fun Y => C0 Y ∧ ∀ l', l' < l → Y 0 m l' 0 → fRu F Y m l') → pz_WP 10 (55, [some (.ref 31), some (.int (nI k)), some (.int (nI m)), some (.int (nI l))], []) s P := by
    intro P k s0 m hm _ C0 hk d
    obtain ⟨y, hy, e9⟩ := fP_L hP m hm
    have ey : (F 9 m).toNatClampNeg = y := by rw [e9]; exact nI_clamp (by omega)
    have vm : vp_in (nI m) 10 := vp_in_nI (by omega) (by decide)
    have cm : (nI m).toNatClampNeg = m := nI_clamp (by omega)
    induction d with
    | zero =>
      intro l s hl g
      have hl : l = y := by omega
      subst hl
      refine pv_10_55 _ _ _ s _ ?_
      rw [cm, g.2.1.1 9 rfl, e9, nI_1]
      refine ⟨vm, fun _ => hk s ?_, fun z => absurd (Int32.le_refl _) z⟩
      rw [ey]
      exact g
    | succ d ih =>
      intro l s hl g
      refine pv_10_55 _ _ _ s _ ?_
      rw [cm, g.2.1.1 9 rfl, e9, nI_1, nI_1]
      refine ⟨vm, fun z => absurd z (nI_ge (by omega) (by omega)), fun _ => ⟨_, w_weigh hP hX hX0 g.2.1 hm (by omega), ?_⟩⟩
      rintro σ1 ⟨-, g2⟩
      refine ih (l + 1) σ1 (by omega) (fG_w (fG_s g g2) (fun Y hY => ⟨hY.1.1, fun l' hl' z => ?_⟩))
      by_cases e : l' = l
      · subst e
        exact hY.2 z
      · exact hY.1.2 l' (by omega) z
  -- all METHODS
  have l31 : ∀ (P : pz_Ps) (k : Nat) (s0 : pz_Sg), (∀ s, fG F nm X s0 s (fun Y => fCl F nm Y) → pz_WP 10 (11, [some (.ref 31), some (.int (nI (k + 1))), none, none], []) s P) → ∀ d m s, m + d = nm → fG F nm X s0 s (fun Y => ∀ m', m' < m → fCm F Y m' 0 (fB F m') ∧ ∀ l, l < (F 9 m').toNatClampNeg → Y 0 m' l 0 → fRu F Y m' l) → pz_WP 10 (31, [some (.ref 31), some (.int (nI k)), some (.int (nI m)), none], []) s P := by
    intro P k s0 hk d
    induction d with
    | zero =>
      intro m s hm g
      have hm : m = nm := by omega
      subst hm
      refine pv_10_31 _ _ s _ ?_
      rw [g.2.1.1 1 rfl, h13, nI_1]
      exact ⟨fun _ => hk s g, fun z => absurd (Int32.le_refl _) z⟩
    | succ d ih =>
      intro m s hm g
      obtain ⟨q, hq, e7⟩ := fP_q hP m (by omega)
      refine pv_10_31 _ _ s _ ?_
      rw [g.2.1.1 1 rfl, h13, nI_1]
      refine ⟨fun z => absurd z (nI_ge (by omega) (by omega)), fun _ => ⟨_, w_begin (F := F) (q := q) (by omega) (by rw [g.2.1.1 7 rfl]; exact e7) e7 hq, ?_⟩⟩
      rintro r1 σ1 ⟨rfl, w, hw, hB⟩
      cases hw
      have zB : fZ (qB r1) := fun r hr => ⟨0, by decide, by rw [hB]; exact ⟨by omega, Or.inl (by omega)⟩⟩
      have g2 := fG_reach bm hL g.2.1 (m := m) (l := 0) (w := r1) (by omega) (by rw [hB]; exact (hX m (by omega)).1) zB
      refine pz_kv (w_reach (l := 0) bm (fP_L hP) g.2.1 (by omega) (by decide) r1) ?_
      refine l55 P k s0 m (by omega) (fun _ _ _ _ => trivial) (fun Y => (∀ m', m' < m → fCm F Y m' 0 (fB F m') ∧ ∀ l, l < (F 9 m').toNatClampNeg → Y 0 m' l 0 → fRu F Y m' l) ∧ fCm F Y m 0 (fB F m)) (fun s' g3 => ih (m + 1) s' (by omega) (fG_w g3 (fun Y hY m' hm' => ?_))) (F 9 m).toNatClampNeg 0 _ (by omega) (fG_w (fG_s g g2) (fun Y hY => ⟨⟨hY.1, by rw [← hB]; exact hY.2⟩, fun l' hl' => absurd hl' (Nat.not_lt_zero _)⟩))
      by_cases e : m' = m
      · subst e
        exact ⟨hY.1.2, hY.2⟩
      · exact hY.1.1 m' (by omega)
  -- round by round
  have l11 : ∀ N k s, fms 33 6 40 s < N → fI F nm X s → (s.1 31 8 = 0 ∨ s.1 31 8 = 1) → (s.1 31 8 = 0 → fCl F nm (fCs s)) → k + fms 33 6 40 s ≤ 60000 → pz_WP 10 (11, [some (.ref 31), some (.int (nI k)), none, none], []) s (fun v σ' => v = none ∧ fI F nm X σ' ∧ fCl F nm (fCs σ')) := by
    intro N
    induction N with
    | zero => intro k s h; exact absurd h (Nat.not_lt_zero _)
    | succ N ih =>
      intro k s hN H hf hc hb
      refine pv_10_11 _ s _ ⟨fun z => absurd z (nI_ge (by omega) (by decide)), fun _ => ⟨fun z => ⟨rfl, H, hc z⟩, fun z => ?_⟩⟩
      rintro σ1 rfl
      have ms : fms 33 6 40 (pz_up s 31 8 0) = fms 33 6 40 s := by
        have : ∀ n, n ≤ 6 * (40 * 32) → fcz (fun t => bt ((pz_up s 31 8 0).1 (33 + t / (40 * 32)) (t / 32 % 40)) (t % 32)) n = fcz (fun t => bt (s.1 (33 + t / (40 * 32)) (t / 32 % 40)) (t % 32)) n := by
          intro n
          induction n with
          | zero => intro _; rfl
          | succ n ihn =>
            intro hn
            unfold fcz
            rw [ihn (by omega), qz_rn _ _ _ _ (show 33 + n / (40 * 32) ≠ 31 by omega)]
        unfold fms
        rw [this _ (Nat.le_refl _)]
        rfl
      refine l31 _ k (pz_up s 31 8 0) (fun s2 g => ?_) nm 0 _ (by omega) (fG_w (fG_r (fI_fl H 0)) (fun Y _ m' hm' => absurd hm' (Nat.not_lt_zero _)))
      rcases g.1.2.2 with ⟨sa, fl⟩ | ⟨sa, fl⟩
      · have f0 : s2.1 31 8 = 0 := fl.trans (qz_rs _ _ _ _)
        refine pv_10_11 _ s2 _ ⟨fun z => absurd z (nI_ge (by omega) (by decide)), fun _ => ⟨fun _ => ⟨rfl, g.2.1, g.2.2 f0⟩, fun z => absurd f0 z⟩⟩
      · have dec := fr_ms (by decide) g.1 sa
        rw [ms] at dec
        exact ih (k + 1) s2 (by omega) g.2.1 (Or.inr fl) (fun z => absurd (fl.symm.trans z) (by decide)) (by omega)
  refine pv_10 σ _ ⟨_, w_forget, ?_⟩
  rintro σ1 ⟨-, hz⟩ σ2 rfl
  have H1 := fI_fl (fI_0 (X := X) bm hL hF hz) 1
  have b := fms_le (b := 33) (n := 6) (R := 40) (σ := pz_up σ1 31 8 1)
  exact l11 _ 0 _ (Nat.lt_succ_self _) H1 (Or.inr (qz_rs _ _ _ _)) (fun z => absurd ((qz_rs _ _ _ _).symm.trans z) (by decide)) (by omega)
