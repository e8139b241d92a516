/-! ===== the reference's analysis: how its words grow. 81 at a METHOD's end stands for its end (2, and 5 at bit 0); 9 and 10 are what is told of it already ===== -/
def gCs (F : iv_F) (σ : pz_Sg) : fX := fun k m x i => match k with
  | 0 => ¬ σ.1 81 (25 * m + x) = 0
  | 1 => i < 48 ∧ bB (σ.1 80 (8 * (25 * m + x) + i / 6)) (i % 6)
  | 2 => ¬ σ.1 82 m = 0 ∨ ¬ σ.1 81 (25 * m + (F 9 m).toNatClampNeg) = 0
  | 3 => ¬ σ.1 83 m = 0
  | 4 => bB (σ.1 84 m) x
  | 5 => bB (σ.1 85 m) x ∨ (x = 0 ∧ F 8 m = nI 2 ∧ ¬ σ.1 81 (25 * m + (F 9 m).toNatClampNeg) = 0)
  | 6 => x < 4 ∧ bB (σ.1 86 (4 * m + x)) i
  | 7 => x < 4 ∧ bB (σ.1 87 (4 * m + x)) i
  | 9 => ¬ σ.1 82 m = 0
  | 10 => bB (σ.1 85 m) x
  | _ => False
/-- all that is told of the METHODS' ends is told -/
def gE (nm : Nat) (Y : fX) : Prop := ∀ m, m < nm → (Y 2 m 0 0 → Y 9 m 0 0) ∧ ∀ b, Y 5 m b 0 → Y 10 m b 0
def gN (a : Nat) : Bool := (decide (80 ≤ a) && decide (a ≤ 88)) || a == 55
def gI (F : iv_F) (nm : Nat) (X : fX) (σ : pz_Sg) : Prop :=
  ((∀ a, gN a = false → σ.1 a = F a) ∧ ∀ j, j ≠ 39 → σ.1 55 j = F 55 j) ∧
  (∀ m, m < nm → ∀ l, l < (F 9 m).toNatClampNeg → (∀ r, r < 8 → ∀ b, bB (σ.1 80 (8 * (25 * m + l) + r)) b → b < 6 ∧ X 1 m l (6 * r + b)) ∧ (¬ σ.1 81 (25 * m + l) = 0 → X 0 m l 0)) ∧
  (∀ m, m < nm → (¬ σ.1 81 (25 * m + (F 9 m).toNatClampNeg) = 0 → X 2 m 0 0 ∧ (F 8 m = nI 2 → X 5 m 0 0)) ∧ (¬ σ.1 82 m = 0 → X 2 m 0 0) ∧ (¬ σ.1 83 m = 0 → X 3 m 0 0) ∧ (∀ f, bB (σ.1 84 m) f → X 4 m f 0) ∧ (∀ b, bB (σ.1 85 m) b → X 5 m b 0) ∧ ∀ w, w < 4 → ∀ p, (bB (σ.1 86 (4 * m + w)) p → X 6 m w p) ∧ (bB (σ.1 87 (4 * m + w)) p → X 7 m w p)) ∧
  ((∀ j, j < 250 → σ.1 81 j = 0 ∨ σ.1 81 j = 1) ∧ (∀ m, m < nm → (σ.1 82 m = 0 ∨ σ.1 82 m = 1) ∧ (σ.1 83 m = 0 ∨ σ.1 83 m = 1)) ∧ (σ.1 55 39 = 0 ∨ σ.1 55 39 = 1))
def gG (F : iv_F) (nm : Nat) (X : fX) (σ σ' : pz_Sg) (C : fX → Prop) : Prop := fr 80 8 2000 55 39 σ σ' ∧ gI F nm X σ' ∧ (σ'.1 55 39 = 0 → C (gCs F σ'))
theorem gCs_c {F : iv_F} {σ σ' : pz_Sg} (h : fr_sa 80 8 σ σ') : gCs F σ' = gCs F σ := by
  have h0 : σ'.1 80 = σ.1 80 := h.2 0 (by decide)
  have h1 : σ'.1 81 = σ.1 81 := h.2 1 (by decide)
  have h2 : σ'.1 82 = σ.1 82 := h.2 2 (by decide)
  have h3 : σ'.1 83 = σ.1 83 := h.2 3 (by decide)
  have h4 : σ'.1 84 = σ.1 84 := h.2 4 (by decide)
  have h5 : σ'.1 85 = σ.1 85 := h.2 5 (by decide)
  have h6 : σ'.1 86 = σ.1 86 := h.2 6 (by decide)
  have h7 : σ'.1 87 = σ.1 87 := h.2 7 (by decide)
  unfold gCs
  rw [h0, h1, h2, h3, h4, h5, h6, h7]
theorem gG_r {F : iv_F} {nm : Nat} {X : fX} {σ : pz_Sg} (H : gI F nm X σ) : gG F nm X σ σ (fun _ => True) := ⟨fr_refl, H, fun _ => trivial⟩
theorem gG_w {F : iv_F} {nm : Nat} {X : fX} {σ σ' : pz_Sg} {C D : fX → Prop} (h : gG F nm X σ σ' C) (hc : ∀ Y, C Y → D Y) : gG F nm X σ σ' D := ⟨h.1, h.2.1, fun z => hc _ (h.2.2 z)⟩
theorem gG_sa {F : iv_F} {nm : Nat} {X : fX} {σ σ' : pz_Sg} {C : fX → Prop} (h : gG F nm X σ σ' C) (z : σ'.1 55 39 = 0) : fr_sa 80 8 σ σ' ∧ σ.1 55 39 = 0 := by
  rcases h.1.2.2 with ⟨a, b⟩ | ⟨a, b⟩
  · exact ⟨a, b.symm.trans z⟩
  · exact absurd (b.symm.trans z) (by decide)
theorem gG_s {F : iv_F} {nm : Nat} {X : fX} {σ σ1 σ2 : pz_Sg} {C D : fX → Prop} (h1 : gG F nm X σ σ1 C) (h2 : gG F nm X σ1 σ2 D) : gG F nm X σ σ2 (fun Y => C Y ∧ D Y) := by
  refine ⟨fr_trans h1.1 h2.1, h2.2.1, fun z => ?_⟩
  obtain ⟨s, z1⟩ := gG_sa h2 z
  refine ⟨?_, h2.2.2 z⟩
  rw [gCs_c s]
  exact h1.2.2 z1
theorem gG_x {F : iv_F} {nm : Nat} {X : fX} {σ σ' : pz_Sg} {C D : fX → Prop} (h : gG F nm X σ σ' C) (hd : fr_sa 80 8 σ σ' → C (gCs F σ') → D (gCs F σ')) : gG F nm X σ σ' D := ⟨h.1, h.2.1, fun z => hd (gG_sa h z).1 (h.2.2 z)⟩
theorem gp55 : ∀ x, x < 8 → 80 + x ≠ 55 := fun x hx => by omega
theorem fadd_fl {p q : Nat} {σ : pz_Sg} {a j : Nat} {v : Int32} (ha : a ≠ p) (h : σ.1 p q = 0 ∨ σ.1 p q = 1) : (fadd p q σ a j v).1 p q = 0 ∨ (fadd p q σ a j v).1 p q = 1 := by
  unfold fadd
  split
  · exact h
  · exact Or.inr (qz_rs _ _ _ _)
/-- the frame of each step -/
theorem g0_add {F : iv_F} {σ : pz_Sg} (h : (∀ a, gN a = false → σ.1 a = F a) ∧ ∀ j, j ≠ 39 → σ.1 55 j = F 55 j) {x j : Nat} {v : Int32} (hx : gN x = true) (hx5 : x ≠ 55) : (∀ a, gN a = false → (fadd 55 39 σ x j v).1 a = F a) ∧ ∀ j', j' ≠ 39 → (fadd 55 39 σ x j v).1 55 j' = F 55 j' := by
  refine ⟨fun a ha => ?_, fun j' hj => ?_⟩
  · rw [fadd_o (fun e => by rw [e, hx] at ha; cases ha) (fun e => by rw [e] at ha; cases ha)]
    exact h.1 a ha
  · rw [fadd_p hx5 hj]
    exact h.2 j' hj

theorem gI_80 {F : iv_F} {nm : Nat} {X : fX} {σ : pz_Sg} (hL : ∀ m, m < nm → (F 9 m).toNatClampNeg ≤ 24) (H : gI F nm X σ) {m l r : Nat} (hm : m < nm) (hl : l ≤ (F 9 m).toNatClampNeg) (hr : r < 8) {v : Int32} (hv : l < (F 9 m).toNatClampNeg → ∀ b, bB v b → b < 6 ∧ X 1 m l (6 * r + b)) : gI F nm X (fadd 55 39 σ 80 (8 * (25 * m + l) + r) v) := by
  obtain ⟨i0, i1, i2, i3, i4, i5⟩ := H
  have o : ∀ x, x ≠ 80 → x ≠ 55 → (fadd 55 39 σ 80 (8 * (25 * m + l) + r) v).1 x = σ.1 x := fun x h1 h2 => fadd_o h1 h2
  refine ⟨g0_add i0 rfl (by decide), fun m' hm' l' hl' => ?_, fun m' hm' => by rw [o 81 (by decide) (by decide), o 82 (by decide) (by decide), o 83 (by decide) (by decide), o 84 (by decide) (by decide), o 85 (by decide) (by decide), o 86 (by decide) (by decide), o 87 (by decide) (by decide)]; exact i2 m' hm', fun j hj => by rw [o 81 (by decide) (by decide)]; exact i3 j hj, fun m' hm' => by rw [o 82 (by decide) (by decide), o 83 (by decide) (by decide)]; exact i4 m' hm', fadd_fl (by decide) i5⟩
  have b1 := hL m hm
  have b2 := hL m' hm'
  rw [o 81 (by decide) (by decide)]
  refine ⟨fun r' hr' b z => ?_, (i1 m' hm' l' hl').2⟩
  rw [fadd_w (by decide)] at z
  by_cases e : 8 * (25 * m' + l') + r' = 8 * (25 * m + l) + r
  · have e1 : m' = m := by omega
    have e2 : l' = l := by omega
    have e3 : r' = r := by omega
    subst e1
    subst e2
    subst e3
    rw [if_pos rfl, bB_o] at z
    exact z.elim ((i1 m' hm' l' hl').1 r' hr' b) (hv hl' b)
  · rw [if_neg e] at z
    exact (i1 m' hm' l' hl').1 r' hr' b z
theorem gI_81 {F : iv_F} {nm : Nat} {X : fX} {σ : pz_Sg} (bm : nm ≤ 10) (hL : ∀ m, m < nm → (F 9 m).toNatClampNeg ≤ 24) (H : gI F nm X σ) {m l : Nat} (hm : m < nm) (hl : l ≤ (F 9 m).toNatClampNeg) (h1 : l < (F 9 m).toNatClampNeg → X 0 m l 0) (h2 : ¬ l < (F 9 m).toNatClampNeg → X 2 m 0 0 ∧ (F 8 m = nI 2 → X 5 m 0 0)) : gI F nm X (fadd 55 39 σ 81 (25 * m + l) 1) := by
  obtain ⟨i0, i1, i2, i3, i4, i5⟩ := H
  have o : ∀ x, x ≠ 81 → x ≠ 55 → (fadd 55 39 σ 81 (25 * m + l) 1).1 x = σ.1 x := fun x h1 h2 => fadd_o h1 h2
  have b1 := hL m hm
  refine ⟨g0_add i0 rfl (by decide), fun m' hm' l' hl' => ?_, fun m' hm' => ?_, fun j hj => ?_, fun m' hm' => by rw [o 82 (by decide) (by decide), o 83 (by decide) (by decide)]; exact i4 m' hm', fadd_fl (by decide) i5⟩
  · have b2 := hL m' hm'
    rw [o 80 (by decide) (by decide)]
    refine ⟨(i1 m' hm' l' hl').1, fun z => ?_⟩
    rw [fadd_w (by decide)] at z
    by_cases e : 25 * m' + l' = 25 * m + l
    · have e1 : m' = m := by omega
      have e2 : l' = l := by omega
      subst e1
      subst e2
      exact h1 hl'
    · rw [if_neg e] at z
      exact (i1 m' hm' l' hl').2 z
  · have b2 := hL m' hm'
    obtain ⟨a0, a⟩ := i2 m' hm'
    rw [o 82 (by decide) (by decide), o 83 (by decide) (by decide), o 84 (by decide) (by decide), o 85 (by decide) (by decide), o 86 (by decide) (by decide), o 87 (by decide) (by decide)]
    refine ⟨fun z => ?_, a⟩
    rw [fadd_w (by decide)] at z
    by_cases e : 25 * m' + (F 9 m').toNatClampNeg = 25 * m + l
    · have e1 : m' = m := by omega
      subst e1
      exact h2 (by omega)
    · rw [if_neg e] at z
      exact a0 z
  · rw [fadd_w (by decide)]
    split
    · have := i3 (25 * m + l) (by omega)
      rcases this with t | t <;> rw [t] <;> exact Or.inr (by decide)
    · exact i3 j hj
theorem gI_83 {F : iv_F} {nm : Nat} {X : fX} {σ : pz_Sg} (H : gI F nm X σ) {m : Nat} (hm : m < 10) (hv : X 3 m 0 0) : gI F nm X (fadd 55 39 σ 83 m 1) := by
  obtain ⟨i0, i1, i2, i3, i4, i5⟩ := H
  have o : ∀ x, x ≠ 83 → x ≠ 55 → (fadd 55 39 σ 83 m 1).1 x = σ.1 x := fun x h1 h2 => fadd_o h1 h2
  refine ⟨g0_add i0 rfl (by decide), fun m' hm' l' hl' => by rw [o 80 (by decide) (by decide), o 81 (by decide) (by decide)]; exact i1 m' hm' l' hl', fun m' hm' => ?_, fun j hj => by rw [o 81 (by decide) (by decide)]; exact i3 j hj, fun m' hm' => ?_, fadd_fl (by decide) i5⟩
  · obtain ⟨a0, a1, a2, a3⟩ := i2 m' hm'
    rw [o 81 (by decide) (by decide), o 82 (by decide) (by decide), o 84 (by decide) (by decide), o 85 (by decide) (by decide), o 86 (by decide) (by decide), o 87 (by decide) (by decide)]
    refine ⟨a0, a1, fun z => ?_, a3⟩
    by_cases e : m' = m
    · subst e
      exact hv
    · rw [fadd_w (by decide), if_neg e] at z
      exact a2 z
  · obtain ⟨a1, a2⟩ := i4 m' hm'
    rw [o 82 (by decide) (by decide), fadd_w (by decide)]
    refine ⟨a1, ?_⟩
    split
    · rename_i e
      subst e
      rcases a2 with t | t <;> rw [t] <;> exact Or.inr (by decide)
    · exact a2
theorem gI_84 {F : iv_F} {nm : Nat} {X : fX} {σ : pz_Sg} (H : gI F nm X σ) {m : Nat} {v : Int32} (hv : ∀ p, bB v p → X 4 m p 0) : gI F nm X (fadd 55 39 σ 84 m v) := by
  obtain ⟨i0, i1, i2, i3, i4, i5⟩ := H
  have o : ∀ x, x ≠ 84 → x ≠ 55 → (fadd 55 39 σ 84 m v).1 x = σ.1 x := fun x h1 h2 => fadd_o h1 h2
  refine ⟨g0_add i0 rfl (by decide), fun m' hm' l' hl' => by rw [o 80 (by decide) (by decide), o 81 (by decide) (by decide)]; exact i1 m' hm' l' hl', fun m' hm' => ?_, fun j hj => by rw [o 81 (by decide) (by decide)]; exact i3 j hj, fun m' hm' => by rw [o 82 (by decide) (by decide), o 83 (by decide) (by decide)]; exact i4 m' hm', fadd_fl (by decide) i5⟩
  obtain ⟨a0, a1, a2, a3, a4⟩ := i2 m' hm'
  rw [o 81 (by decide) (by decide), o 82 (by decide) (by decide), o 83 (by decide) (by decide), o 85 (by decide) (by decide), o 86 (by decide) (by decide), o 87 (by decide) (by decide)]
  refine ⟨a0, a1, a2, fun f z => ?_, a4⟩
  rw [fadd_w (by decide)] at z
  by_cases e : m' = m
  · subst e
    rw [if_pos rfl, bB_o] at z
    exact z.elim (a3 f) (hv f)
  · rw [if_neg e] at z
    exact a3 f z
theorem gI_85 {F : iv_F} {nm : Nat} {X : fX} {σ : pz_Sg} (H : gI F nm X σ) {m : Nat} {v : Int32} (hv : ∀ p, bB v p → X 5 m p 0) : gI F nm X (fadd 55 39 σ 85 m v) := by
  obtain ⟨i0, i1, i2, i3, i4, i5⟩ := H
  have o : ∀ x, x ≠ 85 → x ≠ 55 → (fadd 55 39 σ 85 m v).1 x = σ.1 x := fun x h1 h2 => fadd_o h1 h2
  refine ⟨g0_add i0 rfl (by decide), fun m' hm' l' hl' => by rw [o 80 (by decide) (by decide), o 81 (by decide) (by decide)]; exact i1 m' hm' l' hl', fun m' hm' => ?_, fun j hj => by rw [o 81 (by decide) (by decide)]; exact i3 j hj, fun m' hm' => by rw [o 82 (by decide) (by decide), o 83 (by decide) (by decide)]; exact i4 m' hm', fadd_fl (by decide) i5⟩
  obtain ⟨a0, a1, a2, a3, a4, a5⟩ := i2 m' hm'
  rw [o 81 (by decide) (by decide), o 82 (by decide) (by decide), o 83 (by decide) (by decide), o 84 (by decide) (by decide), o 86 (by decide) (by decide), o 87 (by decide) (by decide)]
  refine ⟨a0, a1, a2, a3, fun f z => ?_, a5⟩
  rw [fadd_w (by decide)] at z
  by_cases e : m' = m
  · subst e
    rw [if_pos rfl, bB_o] at z
    exact z.elim (a4 f) (hv f)
  · rw [if_neg e] at z
    exact a4 f z
theorem gI_82 {F : iv_F} {nm : Nat} {X : fX} {σ : pz_Sg} (H : gI F nm X σ) {m : Nat} (hm : m < 10) (hv : X 2 m 0 0) : gI F nm X (fadd 55 39 σ 82 m 1) := by
  obtain ⟨i0, i1, i2, i3, i4, i5⟩ := H
  have o : ∀ x, x ≠ 82 → x ≠ 55 → (fadd 55 39 σ 82 m 1).1 x = σ.1 x := fun x h1 h2 => fadd_o h1 h2
  refine ⟨g0_add i0 rfl (by decide), fun m' hm' l' hl' => by rw [o 80 (by decide) (by decide), o 81 (by decide) (by decide)]; exact i1 m' hm' l' hl', fun m' hm' => ?_, fun j hj => by rw [o 81 (by decide) (by decide)]; exact i3 j hj, fun m' hm' => ?_, fadd_fl (by decide) i5⟩
  · obtain ⟨a0, a1, a2⟩ := i2 m' hm'
    rw [o 81 (by decide) (by decide), o 83 (by decide) (by decide), o 84 (by decide) (by decide), o 85 (by decide) (by decide), o 86 (by decide) (by decide), o 87 (by decide) (by decide)]
    refine ⟨a0, fun z => ?_, a2⟩
    by_cases e : m' = m
    · subst e
      exact hv
    · rw [fadd_w (by decide), if_neg e] at z
      exact a1 z
  · obtain ⟨a1, a2⟩ := i4 m' hm'
    rw [o 83 (by decide) (by decide), fadd_w (by decide)]
    refine ⟨?_, a2⟩
    split
    · rename_i e
      subst e
      rcases a1 with t | t <;> rw [t] <;> exact Or.inr (by decide)
    · exact a1
theorem gI_86 {F : iv_F} {nm : Nat} {X : fX} {σ : pz_Sg} (H : gI F nm X σ) {m w : Nat} (hw : w < 4) {v : Int32} (hv : ∀ p, bB v p → X 6 m w p) : gI F nm X (fadd 55 39 σ 86 (4 * m + w) v) := by
  obtain ⟨i0, i1, i2, i3, i4, i5⟩ := H
  have o : ∀ x, x ≠ 86 → x ≠ 55 → (fadd 55 39 σ 86 (4 * m + w) v).1 x = σ.1 x := fun x h1 h2 => fadd_o h1 h2
  refine ⟨g0_add i0 rfl (by decide), fun m' hm' l' hl' => by rw [o 80 (by decide) (by decide), o 81 (by decide) (by decide)]; exact i1 m' hm' l' hl', fun m' hm' => ?_, fun j hj => by rw [o 81 (by decide) (by decide)]; exact i3 j hj, fun m' hm' => by rw [o 82 (by decide) (by decide), o 83 (by decide) (by decide)]; exact i4 m' hm', fadd_fl (by decide) i5⟩
  obtain ⟨a0, a1, a2, a3, a4, a5⟩ := i2 m' hm'
  rw [o 81 (by decide) (by decide), o 82 (by decide) (by decide), o 83 (by decide) (by decide), o 84 (by decide) (by decide), o 85 (by decide) (by decide), o 87 (by decide) (by decide)]
  refine ⟨a0, a1, a2, a3, a4, fun w' hw' p => ⟨fun z => ?_, (a5 w' hw' p).2⟩⟩
  rw [fadd_w (by decide)] at z
  by_cases e : 4 * m' + w' = 4 * m + w
  · have e1 : m' = m := by omega
    have e2 : w' = w := by omega
    subst e1
    subst e2
    rw [if_pos rfl, bB_o] at z
    exact z.elim (a5 w' hw' p).1 (hv p)
  · rw [if_neg e] at z
    exact (a5 w' hw' p).1 z
theorem gI_87 {F : iv_F} {nm : Nat} {X : fX} {σ : pz_Sg} (H : gI F nm X σ) {m w : Nat} (hw : w < 4) {v : Int32} (hv : ∀ p, bB v p → X 7 m w p) : gI F nm X (fadd 55 39 σ 87 (4 * m + w) v) := by
  obtain ⟨i0, i1, i2, i3, i4, i5⟩ := H
  have o : ∀ x, x ≠ 87 → x ≠ 55 → (fadd 55 39 σ 87 (4 * m + w) v).1 x = σ.1 x := fun x h1 h2 => fadd_o h1 h2
  refine ⟨g0_add i0 rfl (by decide), fun m' hm' l' hl' => by rw [o 80 (by decide) (by decide), o 81 (by decide) (by decide)]; exact i1 m' hm' l' hl', fun m' hm' => ?_, fun j hj => by rw [o 81 (by decide) (by decide)]; exact i3 j hj, fun m' hm' => by rw [o 82 (by decide) (by decide), o 83 (by decide) (by decide)]; exact i4 m' hm', fadd_fl (by decide) i5⟩
  obtain ⟨a0, a1, a2, a3, a4, a5⟩ := i2 m' hm'
  rw [o 81 (by decide) (by decide), o 82 (by decide) (by decide), o 83 (by decide) (by decide), o 84 (by decide) (by decide), o 85 (by decide) (by decide), o 86 (by decide) (by decide)]
  refine ⟨a0, a1, a2, a3, a4, fun w' hw' p => ⟨(a5 w' hw' p).1, fun z => ?_⟩⟩
  rw [fadd_w (by decide)] at z
  by_cases e : 4 * m' + w' = 4 * m + w
  · have e1 : m' = m := by omega
    have e2 : w' = w := by omega
    subst e1
    subst e2
    rw [if_pos rfl, bB_o] at z
    exact z.elim (a5 w' hw' p).2 (hv p)
  · rw [if_neg e] at z
    exact (a5 w' hw' p).2 z
/-- a row of locals, a word each -/
def nB (N : Nat → Int32) : Nat → Prop := fun i => i < 48 ∧ bB (N (i / 6)) (i % 6)
theorem nB_L {N : Nat → Int32} (hN : ∀ r, r < 8 → ∀ b, bB (N r) b → b < 6) {r b : Nat} (hr : r < 8) : fL (nB N) r b ↔ bB (N r) b := by
  unfold fL nB
  constructor
  · rintro ⟨h1, -, h2⟩
    rw [show (6 * r + b) / 6 = r by omega, show (6 * r + b) % 6 = b by omega] at h2
    exact h2
  · intro h
    have := hN r hr b h
    refine ⟨this, by omega, ?_⟩
    rw [show (6 * r + b) / 6 = r by omega, show (6 * r + b) % 6 = b by omega]
    exact h
theorem nB_W {N : Nat → Int32} {a : Nat} (ha : a < 8) {x : Int32} : nB (fun r => if r = a then x else N r) = fW (nB N) a (bB x) := funext fun i => propext (by
  show (i < 48 ∧ bB (if i / 6 = a then x else N (i / 6)) (i % 6)) ↔ (6 * a ≤ i ∧ i < 6 * a + 6 ∧ bB x (i - 6 * a)) ∨ (¬ (6 * a ≤ i ∧ i < 6 * a + 6) ∧ (i < 48 ∧ bB (N (i / 6)) (i % 6)))
  by_cases z : 6 * a ≤ i ∧ i < 6 * a + 6
  · rw [if_pos (by omega : i / 6 = a), show i % 6 = i - 6 * a by omega]
    exact ⟨fun h => Or.inl ⟨z.1, z.2, h.2⟩, fun h => h.elim (fun h => ⟨by omega, h.2.2⟩) (fun h => absurd z h.1)⟩
  · rw [if_neg (by omega : ¬ i / 6 = a)]
    exact ⟨fun h => Or.inr ⟨z, h⟩, fun h => h.elim (fun h => absurd ⟨h.1, h.2.1⟩ z) (fun h => h.2)⟩)
/-! the steps -/
def gms (F : iv_F) (m l : Nat) : Nat := if l < (F 9 m).toNatClampNeg then l else (F 9 m).toNatClampNeg
def gco (j : Nat) (N : Nat → Int32) : Nat → Nat → pz_Sg → pz_Sg
  | 0, _, σ => σ
  | d + 1, r, σ => gco j N d (r + 1) (fadd 55 39 σ 80 (8 * j + r) (N r))
def gcomes (F : iv_F) (σ : pz_Sg) (m l : Nat) (N : Nat → Int32) : pz_Sg := gco (25 * m + gms F m l) N 8 0 (fadd 55 39 σ 81 (25 * m + gms F m l) 1)
theorem gG_co {F : iv_F} {nm : Nat} {X : fX} (bm : nm ≤ 10) (hL : ∀ m, m < nm → (F 9 m).toNatClampNeg ≤ 24) {m l : Nat} (hm : m < nm) (hl : l ≤ (F 9 m).toNatClampNeg) {N : Nat → Int32} (hN : ∀ r, r < 8 → ∀ b, bB (N r) b → b < 6) (hX : l < (F 9 m).toNatClampNeg → ∀ i, nB N i → X 1 m l i) : ∀ d r σ, r + d = 8 → gI F nm X σ → gG F nm X σ (gco (25 * m + l) N d r σ) (fun Y => ∀ i, 6 * r ≤ i → nB N i → Y 1 m l i)
  | 0, r, σ, h, H => gG_w (gG_r H) (fun Y _ i h1 h2 => absurd h2.1 (by omega))
  | d + 1, r, σ, h, H => by
    have b1 := hL m hm
    unfold gco
    have g1 : gG F nm X σ (fadd 55 39 σ 80 (8 * (25 * m + l) + r) (N r)) (fun Y => ∀ i, 6 * r ≤ i → i < 6 * r + 6 → nB N i → Y 1 m l i) := by
      refine ⟨fadd_fr (b := 80) (n := 8) (a := 0) (by decide) (by omega) gp55, gI_80 hL H hm hl (by omega) (fun hl' b hb => ⟨hN r (by omega) b hb, hX hl' _ ?_⟩), fun _ i h1 h2 h3 => ⟨h3.1, ?_⟩⟩
      · have := hN r (by omega) b hb
        refine ⟨by omega, ?_⟩
        rw [show (6 * r + b) / 6 = r by omega, show (6 * r + b) % 6 = b by omega]
        exact hb
      · have e : i / 6 = r := by omega
        have h3 := h3.2
        rw [e] at h3 ⊢
        rw [fadd_w (by decide), if_pos rfl, bB_o]
        exact Or.inr h3
    refine gG_w (gG_s g1 (gG_co bm hL hm hl hN hX d (r + 1) _ (by omega) g1.2.1)) (fun Y hY i h1 h2 => ?_)
    by_cases z : i < 6 * r + 6
    · exact hY.1 i h1 z h2
    · exact hY.2 i (by omega) h2
theorem gG_comes {F : iv_F} {nm : Nat} {X : fX} (bm : nm ≤ 10) (hL : ∀ m, m < nm → (F 9 m).toNatClampNeg ≤ 24) {σ : pz_Sg} (H : gI F nm X σ) {m l : Nat} (hm : m < nm) {N : Nat → Int32} (hN : ∀ r, r < 8 → ∀ b, bB (N r) b → b < 6) (hc : fCm F X m l (nB N)) : gG F nm X σ (gcomes F σ m l N) (fun Y => fCm F Y m l (nB N)) := by
  unfold gcomes gms
  have b1 := hL m hm
  by_cases hl : l < (F 9 m).toNatClampNeg
  · rw [if_pos hl]
    have g1 : gG F nm X σ (fadd 55 39 σ 81 (25 * m + l) 1) (fun Y => Y 0 m l 0) := by
      refine ⟨fadd_fr (b := 80) (n := 8) (a := 1) (by decide) (by omega) gp55, gI_81 bm hL H hm (by omega) (fun h => (hc.1 h).1) hc.2, fun _ => ?_⟩
      show ¬ (fadd 55 39 σ 81 (25 * m + l) 1).1 81 (25 * m + l) = 0
      rw [fadd_w (by decide), if_pos rfl]
      rcases H.2.2.2.1 (25 * m + l) (by omega) with t | t <;> rw [t] <;> decide
    refine gG_w (gG_s g1 (gG_co bm hL hm (by omega) hN (fun h => (hc.1 h).2) 8 0 _ (by decide) g1.2.1)) (fun Y hY => ⟨fun _ => ⟨hY.1, fun i hi => hY.2 i (by omega) hi⟩, fun z => absurd hl z⟩)
  · rw [if_neg hl]
    have g1 : gG F nm X σ (fadd 55 39 σ 81 (25 * m + (F 9 m).toNatClampNeg) 1) (fun Y => Y 2 m 0 0 ∧ (F 8 m = nI 2 → Y 5 m 0 0)) := by
      have k : ¬ (fadd 55 39 σ 81 (25 * m + (F 9 m).toNatClampNeg) 1).1 81 (25 * m + (F 9 m).toNatClampNeg) = 0 := by
        rw [fadd_w (by decide), if_pos rfl]
        rcases H.2.2.2.1 (25 * m + (F 9 m).toNatClampNeg) (by omega) with t | t <;> rw [t] <;> decide
      exact ⟨fadd_fr (b := 80) (n := 8) (a := 1) (by decide) (by omega) gp55, gI_81 bm hL H hm (Nat.le_refl _) (fun h => absurd h (Nat.lt_irrefl _)) (fun _ => hc.2 hl), fun _ => ⟨Or.inr k, fun e => Or.inr ⟨rfl, e, k⟩⟩⟩
    exact gG_w (gG_s g1 (gG_co bm hL hm (Nat.le_refl _) hN (fun h => absurd h (Nat.lt_irrefl _)) 8 0 _ (by decide) g1.2.1)) (fun Y hY => ⟨fun z => absurd z hl, fun _ => hY.1⟩)
def gend (σ : pz_Sg) (m : Nat) (x : Int32) : pz_Sg := fadd 55 39 (fadd 55 39 σ 82 m 1) 85 m x
theorem gG_end {F : iv_F} {nm : Nat} {X : fX} {σ : pz_Sg} (H : gI F nm X σ) {m : Nat} (hm : m < 10) (hn : m < nm) {x : Int32} (h2 : X 2 m 0 0) (h5 : ∀ b, bB x b → X 5 m b 0) : gG F nm X σ (gend σ m x) (fun Y => (Y 2 m 0 0 ∧ Y 9 m 0 0) ∧ ∀ b, bB x b → Y 5 m b 0 ∧ Y 10 m b 0) := by
  have g1 : gG F nm X σ (fadd 55 39 σ 82 m 1) (fun Y => Y 2 m 0 0 ∧ Y 9 m 0 0) := by
    have k : ¬ (fadd 55 39 σ 82 m 1).1 82 m = 0 := by
      rw [fadd_w (by decide), if_pos rfl]
      rcases (H.2.2.2.2.1 m hn).1 with t | t <;> rw [t] <;> decide
    exact ⟨fadd_fr (b := 80) (n := 8) (a := 2) (by decide) (by omega) gp55, gI_82 H hm h2, fun _ => ⟨Or.inl k, k⟩⟩
  refine gG_s g1 ⟨fadd_fr (b := 80) (n := 8) (a := 5) (by decide) (by omega) gp55, gI_85 g1.2.1 h5, fun _ b hb => ?_⟩
  have k : bB ((fadd 55 39 (fadd 55 39 σ 82 m 1) 85 m x).1 85 m) b := by
    rw [fadd_w (by decide), if_pos rfl, bB_o]
    exact Or.inr hb
  exact ⟨Or.inl k, k⟩
theorem gG_86 {F : iv_F} {nm : Nat} {X : fX} {σ : pz_Sg} (H : gI F nm X σ) {a k : Nat} (ha : (a = 86 ∧ k = 6) ∨ (a = 87 ∧ k = 7)) {m w : Nat} (hm : m < 10) (hw : w < 4) {v : Int32} (hv : ∀ p, bB v p → X k m w p) : gG F nm X σ (fadd 55 39 σ a (4 * m + w) v) (fun Y => ∀ p, bB v p → Y k m w p) := by
  rcases ha with ⟨rfl, rfl⟩ | ⟨rfl, rfl⟩
  · refine ⟨fadd_fr (b := 80) (n := 8) (a := 6) (by decide) (by omega) gp55, gI_86 H hw hv, fun _ p hp => ⟨hw, ?_⟩⟩
    rw [fadd_w (by decide), if_pos rfl, bB_o]
    exact Or.inr hp
  · refine ⟨fadd_fr (b := 80) (n := 8) (a := 7) (by decide) (by omega) gp55, gI_87 H hw hv, fun _ p hp => ⟨hw, ?_⟩⟩
    rw [fadd_w (by decide), if_pos rfl, bB_o]
    exact Or.inr hp
def gth (a : Nat) (σ : pz_Sg) (m : Nat) (is pl : Int32) (k : Nat) : pz_Sg := if bt is (k + 2) = true then fadd 55 39 σ a (4 * m + k) pl else σ
def gtouch (a : Nat) (σ : pz_Sg) (m : Nat) (is pl : Int32) : pz_Sg := gth a (gth a (gth a (gth a σ m is pl 0) m is pl 1) m is pl 2) m is pl 3
theorem gG_th {F : iv_F} {nm : Nat} {X : fX} {σ : pz_Sg} (H : gI F nm X σ) {a k : Nat} (ha : (a = 86 ∧ k = 6) ∨ (a = 87 ∧ k = 7)) {m w : Nat} (hm : m < 10) (hw : w < 4) {is pl : Int32} (hv : bB is (w + 2) → ∀ p, bB pl p → X k m w p) : gG F nm X σ (gth a σ m is pl w) (fun Y => bB is (w + 2) → ∀ p, bB pl p → Y k m w p) := by
  unfold gth
  by_cases h : bt is (w + 2) = true
  · rw [if_pos h]
    exact gG_w (gG_86 H ha hm hw (hv h)) (fun Y hY _ => hY)
  · rw [if_neg h]
    exact gG_w (gG_r H) (fun Y _ z => absurd z h)
theorem gG_touch {F : iv_F} {nm : Nat} {X : fX} {σ : pz_Sg} (H : gI F nm X σ) {a k : Nat} (ha : (a = 86 ∧ k = 6) ∨ (a = 87 ∧ k = 7)) {m : Nat} (hm : m < 10) {is pl : Int32} {P Q : Nat → Prop} (h1 : bB pl = P) (h2 : bB is = Q) (hv : fTo X k m P Q) : gG F nm X σ (gtouch a σ m is pl) (fun Y => fTo Y k m P Q) := by
  subst h1
  subst h2
  have g0 := gG_th H ha hm (w := 0) (by decide) (is := is) (pl := pl) (hv 0 (by decide))
  have g1 := gG_th g0.2.1 ha hm (w := 1) (by decide) (is := is) (pl := pl) (hv 1 (by decide))
  have g2 := gG_th g1.2.1 ha hm (w := 2) (by decide) (is := is) (pl := pl) (hv 2 (by decide))
  have g3 := gG_th g2.2.1 ha hm (w := 3) (by decide) (is := is) (pl := pl) (hv 3 (by decide))
  refine gG_w (gG_s g0 (gG_s g1 (gG_s g2 g3))) (fun Y hY w hw => ?_)
  match w, hw with
  | 0, _ => exact hY.1
  | 1, _ => exact hY.2.1
  | 2, _ => exact hY.2.2.1
  | 3, _ => exact hY.2.2.2
theorem gG_print {F : iv_F} {nm : Nat} {X : fX} {σ : pz_Sg} (H : gI F nm X σ) {m : Nat} (hm : m < 10) (hn : m < nm) (h : X 3 m 0 0) : gG F nm X σ (fadd 55 39 σ 83 m 1) (fun Y => Y 3 m 0 0) := by
  refine ⟨fadd_fr (b := 80) (n := 8) (a := 3) (by decide) (by omega) gp55, gI_83 H hm h, fun _ => ?_⟩
  show ¬ (fadd 55 39 σ 83 m 1).1 83 m = 0
  rw [fadd_w (by decide), if_pos rfl]
  rcases (H.2.2.2.2.1 m hn).2 with t | t <;> rw [t] <;> decide
noncomputable def gthr (F : iv_F) (σ : pz_Sg) (m l f : Nat) (N : Nat → Int32) : pz_Sg := if fk F m l f = 0 then fadd 55 39 σ 84 m ((1 : Int32) <<< (nI f &&& 31)) else gcomes F σ m (fk F m l f - 1) N
/-- a fault that line l may throw, with N as it is ahead of it -/
theorem gG_thr {F : iv_F} {nm : Nat} {X : fX} (bm : nm ≤ 10) (hL : ∀ m, m < nm → (F 9 m).toNatClampNeg ≤ 24) {σ : pz_Sg} (H : gI F nm X σ) {m l f : Nat} (hm : m < nm) {N : Nat → Int32} (hN : ∀ r, r < 8 → ∀ b, bB (N r) b → b < 6) (hf : f < 32) (hs : ∀ i, nB N i → X 1 m l i) (hX : fTh F X m l f) : gG F nm X σ (gthr F σ m l f N) (fun Y => Y 1 m l = nB N → fTh F Y m l f) := by
  unfold gthr
  by_cases h : fk F m l f = 0
  · rw [if_pos h]
    refine ⟨fadd_fr (b := 80) (n := 8) (a := 4) (by decide) (by omega) gp55, gI_84 H (fun p hp => ?_), fun _ _ => ⟨fun _ => ?_, fun t ht => absurd (ht.symm.trans h) (Nat.succ_ne_zero _)⟩⟩
    · rw [bB_sh hf] at hp
      rw [show p = f from hp]
      exact hX.1 h
    · show bB _ f
      rw [fadd_w (by decide), if_pos rfl, bB_o]
      exact Or.inr (by rw [bB_sh hf])
  · rw [if_neg h]
    obtain ⟨t, ht⟩ : ∃ t, fk F m l f = t + 1 := ⟨fk F m l f - 1, by omega⟩
    rw [show fk F m l f - 1 = t by omega]
    refine gG_w (gG_comes bm hL H hm hN (fCm_w hs (hX.2 t ht))) (fun Y hY e => ⟨fun y => absurd y h, fun t' ht' => ?_⟩)
    have e2 : t' = t := by omega
    subst e2
    rw [e]
    exact hY
