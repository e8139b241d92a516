/-! ===== the class's Foresight: how its words grow ===== -/
def qB (w : Int64) : Nat → Prop := fun i => bq w i = true
def bB (x : Int32) : Nat → Prop := fun i => bt x i = true
theorem bB_of {x : Int32} {P : Nat → Prop} (h : ∀ i, i < 32 → (bt x i = true ↔ P i)) (hb : ∀ i, P i → i < 32) : bB x = P := funext fun i => propext (by
  rcases Nat.lt_or_ge i 32 with z | z
  · exact h i z
  · exact ⟨fun y => absurd ((b_big z).symm.trans y) (by decide), fun y => absurd (hb i y) (by omega)⟩)
theorem bB_1 : bB 1 = fun i => i = 0 := bB_of (by decide +kernel) (fun i h => by omega)
theorem bB_2 : bB (nI 2) = fun i => i = 1 := bB_of (by decide +kernel) (fun i h => by omega)
theorem bB_33 : bB (nI 33) = fun i => i = 0 ∨ i = 5 := bB_of (by decide +kernel) (fun i h => by omega)
theorem bB_32 : bB (nI 32) = fun i => i = 5 := bB_of (by decide +kernel) (fun i h => by omega)
theorem bB_sh {k : Nat} (hk : k < 32) : bB ((1 : Int32) <<< (nI k &&& 31)) = fun i => i = k := funext fun i => propext (by
  show bt _ i = true ↔ _
  rw [b_bit hk, decide_eq_true_iff])
theorem qB_0 {w : Int64} : w = 0 ↔ ∀ i, ¬ qB w i := by
  rw [q_z]
  refine ⟨fun h i z => ?_, fun h i _ => ?_⟩
  · rcases Nat.lt_or_ge i 64 with y | y
    · exact absurd ((h i y).symm.trans z) (by decide)
    · exact absurd ((q_big y).symm.trans z) (by decide)
  · exact Bool.eq_false_iff.mpr (h i)
theorem bB_0 {x : Int32} : x = 0 ↔ ∀ i, ¬ bB x i := by
  rw [b_z]
  refine ⟨fun h i z => ?_, fun h i _ => ?_⟩
  · rcases Nat.lt_or_ge i 32 with y | y
    · exact absurd ((h i y).symm.trans z) (by decide)
    · exact absurd ((b_big y).symm.trans z) (by decide)
  · exact Bool.eq_false_iff.mpr (h i)
/-- Foresight.with, Foresight.mayOf -/
def qw (w : Int64) (a : Nat) (x : Int32) : Int64 := (w &&& (((lN 63) <<< ((nI a * nI 6).toInt64 &&& 63)) ^^^ (-1 : Int64))) ||| (x.toInt64 <<< ((nI a * nI 6).toInt64 &&& 63))
theorem qw_B {w : Int64} {a : Nat} (ha : a < 8) {x : Int32} (hx : ∀ i, bB x i → i < 6) : qB (qw w a x) = fW (qB w) a (bB x) := funext fun i => propext (by
  have hx' : ∀ i, 6 ≤ i → bt x i = false := fun i hi => Bool.eq_false_iff.mpr fun z => absurd (hx i z) (by omega)
  rcases Nat.lt_or_ge i 64 with y | y
  · show bq (qw w a x) i = true ↔ _
    unfold qw
    rw [q_with w ha hx' y]
    unfold fW
    by_cases z : 6 * a ≤ i ∧ i < 6 * a + 6
    · rw [if_pos z]
      exact ⟨fun h => Or.inl ⟨z.1, z.2, h⟩, fun h => h.elim (fun h => h.2.2) (fun h => absurd z h.1)⟩
    · rw [if_neg z]
      exact ⟨fun h => Or.inr ⟨z, h⟩, fun h => h.elim (fun h => absurd ⟨h.1, h.2.1⟩ z) (fun h => h.2)⟩
  · refine ⟨fun h => absurd ((q_big y).symm.trans h) (by decide), fun h => h.elim (fun h => ?_) (fun h => absurd ((q_big y).symm.trans h.2) (by decide))⟩
    have := h.2.1
    omega)
theorem my_B {w : Int64} {r : Nat} (hr : r < 8) : bB (iv_my w r) = fL (qB w) r := funext fun b => propext (by
  show bt (iv_my w r) b = true ↔ _
  unfold iv_my
  rw [q_my w hr, Bool.and_eq_true, decide_eq_true_iff]
  exact Iff.rfl)
theorem w_with (w : Int64) (a : Nat) (x : Int32) (σ : pz_Sg) : pz_WP 4 (0, pz_en 5 [.long w, .int (nI a), .int x], []) σ (pz_is (some (.long (qw w a x))) σ) := pv_4 w _ _ σ _ ⟨rfl, rfl⟩
theorem lg0 {x y : Int64} : lg_cmp x y = 0 ↔ x = y := by
  unfold lg_cmp
  constructor
  · intro h
    split at h
    · exact absurd h (by decide)
    · split at h
      · rename_i e
        first
        | exact e
        | exact absurd h (by decide)
      · first
        | exact absurd h (by decide)
        | (rename_i h1 h2; exact Int64.le_antisymm (Int64.not_lt.mp h1) (Int64.not_lt.mp h2))
  · rintro rfl
    rw [if_neg (Int64.lt_irrefl)]
    split
    · rfl
    · rename_i h
      first
      | exact absurd rfl h
      | rfl
/-- what the class holds -/
def fCs (σ : pz_Sg) : fX := fun k m x i => match k with
  | 0 => ¬ σ.2 32 (24 * m + x) = 0
  | 1 => qB (σ.2 32 (24 * m + x)) i
  | 2 => ¬ σ.1 38 m = 0
  | 3 => ¬ σ.1 37 m = 0
  | 4 => bB (σ.1 35 m) x
  | 5 => bB (σ.1 36 m) x
  | 6 => x < 4 ∧ bB (σ.1 33 (4 * m + x)) i
  | 7 => x < 4 ∧ bB (σ.1 34 (4 * m + x)) i
  | _ => False
def fcN (a : Nat) : Bool := decide (31 ≤ a) && decide (a ≤ 38)
/-- all eight locals may be something -/
def fZ (st : Nat → Prop) : Prop := ∀ r, r < 8 → ∃ b, fL st r b
def fI (F : iv_F) (nm : Nat) (X : fX) (σ : pz_Sg) : Prop :=
  (∀ a, fcN a = false → σ.1 a = F a) ∧
  (∀ m, m < nm → ∀ l, l < (F 9 m).toNatClampNeg → (∀ i, qB (σ.2 32 (24 * m + l)) i → X 1 m l i) ∧ (¬ σ.2 32 (24 * m + l) = 0 → X 0 m l 0 ∧ fZ (qB (σ.2 32 (24 * m + l))))) ∧
  (∀ m, m < nm → (¬ σ.1 38 m = 0 → X 2 m 0 0) ∧ (¬ σ.1 37 m = 0 → X 3 m 0 0) ∧ (∀ f, bB (σ.1 35 m) f → X 4 m f 0) ∧ (∀ b, bB (σ.1 36 m) b → X 5 m b 0) ∧ ∀ w, w < 4 → ∀ p, (bB (σ.1 33 (4 * m + w)) p → X 6 m w p) ∧ (bB (σ.1 34 (4 * m + w)) p → X 7 m w p)) ∧
  (∀ m, m < nm → ¬ σ.1 38 m = 0 → F 8 m = nI 2 → ∃ b, bB (σ.1 36 m) b) ∧
  (∀ m, m < 10 → (σ.1 37 m = 0 ∨ σ.1 37 m = 1) ∧ (σ.1 38 m = 0 ∨ σ.1 38 m = 1))
def fG (F : iv_F) (nm : Nat) (X : fX) (σ σ' : pz_Sg) (C : fX → Prop) : Prop := fr 33 6 40 31 8 σ σ' ∧ fI F nm X σ' ∧ (σ'.1 31 8 = 0 → C (fCs σ'))
theorem fCs_c {σ σ' : pz_Sg} (h : fr_sa 33 6 σ σ') : fCs σ' = fCs σ := by
  have h0 := h.1
  have h3 : σ'.1 33 = σ.1 33 := h.2 0 (by decide)
  have h4 : σ'.1 34 = σ.1 34 := h.2 1 (by decide)
  have h5 : σ'.1 35 = σ.1 35 := h.2 2 (by decide)
  have h6 : σ'.1 36 = σ.1 36 := h.2 3 (by decide)
  have h7 : σ'.1 37 = σ.1 37 := h.2 4 (by decide)
  have h8 : σ'.1 38 = σ.1 38 := h.2 5 (by decide)
  unfold fCs
  rw [h0, h3, h4, h5, h6, h7, h8]
theorem fG_r {F : iv_F} {nm : Nat} {X : fX} {σ : pz_Sg} (H : fI F nm X σ) : fG F nm X σ σ (fun _ => True) := ⟨fr_refl, H, fun _ => trivial⟩
theorem fG_w {F : iv_F} {nm : Nat} {X : fX} {σ σ' : pz_Sg} {C D : fX → Prop} (h : fG F nm X σ σ' C) (hc : ∀ Y, C Y → D Y) : fG F nm X σ σ' D := ⟨h.1, h.2.1, fun z => hc _ (h.2.2 z)⟩
/-- nothing was gained: nothing has changed -/
theorem fG_sa {F : iv_F} {nm : Nat} {X : fX} {σ σ' : pz_Sg} {C : fX → Prop} (h : fG F nm X σ σ' C) (z : σ'.1 31 8 = 0) : fr_sa 33 6 σ σ' ∧ σ.1 31 8 = 0 := by
  rcases h.1.2.2 with ⟨a, b⟩ | ⟨a, b⟩
  · exact ⟨a, b.symm.trans z⟩
  · exact absurd (b.symm.trans z) (by decide)
theorem fG_s {F : iv_F} {nm : Nat} {X : fX} {σ σ1 σ2 : pz_Sg} {C D : fX → Prop} (h1 : fG F nm X σ σ1 C) (h2 : fG F nm X σ1 σ2 D) : fG F nm X σ σ2 (fun Y => C Y ∧ D Y) := by
  refine ⟨fr_trans h1.1 h2.1, h2.2.1, fun z => ?_⟩
  obtain ⟨s, z1⟩ := fG_sa h2 z
  refine ⟨?_, h2.2.2 z⟩
  rw [fCs_c s]
  exact h1.2.2 z1
theorem fI_33 {F : iv_F} {nm : Nat} {X : fX} {σ : pz_Sg} (H : fI F nm X σ) {m w : Nat} (hw : w < 4) {v : Int32} (hv : ∀ p, bB v p → X 6 m w p) : fI F nm X (fadd 31 8 σ 33 (4 * m + w) v) := by
  obtain ⟨i0, i1, i2, i3, i4⟩ := H
  have o : ∀ x, x ≠ 33 → x ≠ 31 → (fadd 31 8 σ 33 (4 * m + w) v).1 x = σ.1 x := fun x h1 h2 => fadd_o h1 h2
  refine ⟨fun a ha => ?_, fun m' hm' l hl => by rw [fadd_2]; exact i1 m' hm' l hl, fun m' hm' => ?_, fun m' hm' => by rw [o 38 (by decide) (by decide), o 36 (by decide) (by decide)]; exact i3 m' hm', fun m' hm' => by rw [o 37 (by decide) (by decide), o 38 (by decide) (by decide)]; exact i4 m' hm'⟩
  · rw [o a (fun e => by rw [e] at ha; cases ha) (fun e => by rw [e] at ha; cases ha)]
    exact i0 a ha
  · obtain ⟨a1, a2, a3, a4, a5⟩ := i2 m' hm'
    rw [o 38 (by decide) (by decide), o 37 (by decide) (by decide), o 35 (by decide) (by decide), o 36 (by decide) (by decide), o 34 (by decide) (by decide)]
    refine ⟨a1, a2, a3, a4, fun w' hw' p => ⟨fun z => ?_, (a5 w' hw' p).2⟩⟩
    rw [fadd_w (by decide)] at z
    by_cases e : 4 * m' + w' = 4 * m + w
    · have e1 : m' = m := by omega
      have e2 : w' = w := by omega
      subst e1
      subst e2
      rw [if_pos rfl] at z
      have z' := z
      unfold bB at z'
      rw [b_or, Bool.or_eq_true] at z'
      exact z'.elim (a5 w' hw' p).1 (hv p)
    · rw [if_neg e] at z
      exact (a5 w' hw' p).1 z
theorem fI_34 {F : iv_F} {nm : Nat} {X : fX} {σ : pz_Sg} (H : fI F nm X σ) {m w : Nat} (hw : w < 4) {v : Int32} (hv : ∀ p, bB v p → X 7 m w p) : fI F nm X (fadd 31 8 σ 34 (4 * m + w) v) := by
  obtain ⟨i0, i1, i2, i3, i4⟩ := H
  have o : ∀ x, x ≠ 34 → x ≠ 31 → (fadd 31 8 σ 34 (4 * m + w) v).1 x = σ.1 x := fun x h1 h2 => fadd_o h1 h2
  refine ⟨fun a ha => ?_, fun m' hm' l hl => by rw [fadd_2]; exact i1 m' hm' l hl, fun m' hm' => ?_, fun m' hm' => by rw [o 38 (by decide) (by decide), o 36 (by decide) (by decide)]; exact i3 m' hm', fun m' hm' => by rw [o 37 (by decide) (by decide), o 38 (by decide) (by decide)]; exact i4 m' hm'⟩
  · rw [o a (fun e => by rw [e] at ha; cases ha) (fun e => by rw [e] at ha; cases ha)]
    exact i0 a ha
  · obtain ⟨a1, a2, a3, a4, a5⟩ := i2 m' hm'
    rw [o 38 (by decide) (by decide), o 37 (by decide) (by decide), o 35 (by decide) (by decide), o 36 (by decide) (by decide), o 33 (by decide) (by decide)]
    refine ⟨a1, a2, a3, a4, fun w' hw' p => ⟨(a5 w' hw' p).1, fun z => ?_⟩⟩
    rw [fadd_w (by decide)] at z
    by_cases e : 4 * m' + w' = 4 * m + w
    · have e1 : m' = m := by omega
      have e2 : w' = w := by omega
      subst e1
      subst e2
      rw [if_pos rfl] at z
      have z' := z
      unfold bB at z'
      rw [b_or, Bool.or_eq_true] at z'
      exact z'.elim (a5 w' hw' p).2 (hv p)
    · rw [if_neg e] at z
      exact (a5 w' hw' p).2 z
theorem fI_35 {F : iv_F} {nm : Nat} {X : fX} {σ : pz_Sg} (H : fI F nm X σ) {m : Nat} {v : Int32} (hv : ∀ p, bB v p → X 4 m p 0) : fI F nm X (fadd 31 8 σ 35 m v) := by
  obtain ⟨i0, i1, i2, i3, i4⟩ := H
  have o : ∀ x, x ≠ 35 → x ≠ 31 → (fadd 31 8 σ 35 m v).1 x = σ.1 x := fun x h1 h2 => fadd_o h1 h2
  refine ⟨fun a ha => ?_, fun m' hm' l hl => by rw [fadd_2]; exact i1 m' hm' l hl, fun m' hm' => ?_, fun m' hm' => by rw [o 38 (by decide) (by decide), o 36 (by decide) (by decide)]; exact i3 m' hm', fun m' hm' => by rw [o 37 (by decide) (by decide), o 38 (by decide) (by decide)]; exact i4 m' hm'⟩
  · rw [o a (fun e => by rw [e] at ha; cases ha) (fun e => by rw [e] at ha; cases ha)]
    exact i0 a ha
  · obtain ⟨a1, a2, a3, a4, a5⟩ := i2 m' hm'
    rw [o 38 (by decide) (by decide), o 37 (by decide) (by decide), o 36 (by decide) (by decide), o 33 (by decide) (by decide), o 34 (by decide) (by decide)]
    refine ⟨a1, a2, fun f z => ?_, a4, a5⟩
    rw [fadd_w (by decide)] at z
    by_cases e : m' = m
    · subst e
      rw [if_pos rfl] at z
      have z' := z
      unfold bB at z'
      rw [b_or, Bool.or_eq_true] at z'
      exact z'.elim (a3 f) (hv f)
    · rw [if_neg e] at z
      exact a3 f z
theorem fI_37 {F : iv_F} {nm : Nat} {X : fX} {σ : pz_Sg} (H : fI F nm X σ) {m : Nat} (hm : m < 10) (hv : X 3 m 0 0) : fI F nm X (fadd 31 8 σ 37 m 1) := by
  obtain ⟨i0, i1, i2, i3, i4⟩ := H
  have o : ∀ x, x ≠ 37 → x ≠ 31 → (fadd 31 8 σ 37 m 1).1 x = σ.1 x := fun x h1 h2 => fadd_o h1 h2
  refine ⟨fun a ha => ?_, fun m' hm' l hl => by rw [fadd_2]; exact i1 m' hm' l hl, fun m' hm' => ?_, fun m' hm' => by rw [o 38 (by decide) (by decide), o 36 (by decide) (by decide)]; exact i3 m' hm', fun m' hm' => ?_⟩
  · rw [o a (fun e => by rw [e] at ha; cases ha) (fun e => by rw [e] at ha; cases ha)]
    exact i0 a ha
  · obtain ⟨a1, a2, a3, a4, a5⟩ := i2 m' hm'
    rw [o 38 (by decide) (by decide), o 35 (by decide) (by decide), o 36 (by decide) (by decide), o 33 (by decide) (by decide), o 34 (by decide) (by decide)]
    refine ⟨a1, fun z => ?_, a3, a4, a5⟩
    by_cases e : m' = m
    · subst e
      exact hv
    · rw [fadd_w (by decide), if_neg e] at z
      exact a2 z
  · obtain ⟨a1, a2⟩ := i4 m' hm'
    rw [o 38 (by decide) (by decide), fadd_w (by decide)]
    refine ⟨?_, a2⟩
    split
    · rename_i e
      subst e
      rcases a1 with a1 | a1
      · rw [a1]; exact Or.inr (by decide)
      · rw [a1]; exact Or.inr (by decide)
    · exact a1
/-- the end of a METHOD -/
def fend (F : iv_F) (σ : pz_Sg) (m : Nat) (x : Int32) : pz_Sg := if F 8 m = nI 2 then fadd 31 8 (fadd 31 8 σ 38 m 1) 36 m x else fadd 31 8 σ 38 m 1
theorem fI_end {F : iv_F} {nm : Nat} {X : fX} {σ : pz_Sg} (H : fI F nm X σ) {m : Nat} (hm : m < 10) {x : Int32} (h2 : X 2 m 0 0) (h5 : F 8 m = nI 2 → (∀ b, bB x b → X 5 m b 0) ∧ ∃ b, bB x b) : fI F nm X (fend F σ m x) := by
  obtain ⟨i0, i1, i2, i3, i4⟩ := H
  have o : ∀ y, y ≠ 36 → y ≠ 38 → y ≠ 31 → (fend F σ m x).1 y = σ.1 y := fun y h1 h2 h3 => by
    unfold fend
    split
    · rw [fadd_o h1 h3, fadd_o h2 h3]
    · rw [fadd_o h2 h3]
  have o2 : (fend F σ m x).2 = σ.2 := by
    unfold fend
    split
    · rw [fadd_2, fadd_2]
    · rw [fadd_2]
  have g38 : ∀ y, (fend F σ m x).1 38 y = if y = m then σ.1 38 m ||| 1 else σ.1 38 y := fun y => by
    unfold fend
    split
    · rw [fadd_o (by decide) (by decide), fadd_w (by decide)]
    · rw [fadd_w (by decide)]
  have g36 : ∀ y, (fend F σ m x).1 36 y = if y = m ∧ F 8 m = nI 2 then σ.1 36 m ||| x else σ.1 36 y := fun y => by
    unfold fend
    split
    · rename_i e
      rw [fadd_w (by decide), fadd_o (by decide) (by decide)]
      simp [e]
    · rename_i e
      rw [fadd_o (by decide) (by decide)]
      simp [e]
  refine ⟨fun a ha => ?_, fun m' hm' l hl => by rw [o2]; exact i1 m' hm' l hl, fun m' hm' => ?_, fun m' hm' z e => ?_, fun m' hm' => ?_⟩
  · rw [o a (fun e => by rw [e] at ha; cases ha) (fun e => by rw [e] at ha; cases ha) (fun e => by rw [e] at ha; cases ha)]
    exact i0 a ha
  · obtain ⟨a1, a2, a3, a4, a5⟩ := i2 m' hm'
    rw [o 37 (by decide) (by decide) (by decide), o 35 (by decide) (by decide) (by decide), o 33 (by decide) (by decide) (by decide), o 34 (by decide) (by decide) (by decide)]
    refine ⟨fun z => ?_, a2, a3, fun b z => ?_, a5⟩
    · by_cases e : m' = m
      · subst e
        exact h2
      · rw [g38, if_neg e] at z
        exact a1 z
    · rw [g36] at z
      by_cases e : m' = m ∧ F 8 m = nI 2
      · rw [if_pos e] at z
        obtain ⟨e1, e2⟩ := e
        subst e1
        have z' := z
        unfold bB at z'
        rw [b_or, Bool.or_eq_true] at z'
        exact z'.elim (a4 b) ((h5 e2).1 b)
      · rw [if_neg e] at z
        exact a4 b z
  · by_cases e1 : m' = m
    · subst e1
      obtain ⟨b, hb⟩ := (h5 e).2
      refine ⟨b, ?_⟩
      rw [g36, if_pos ⟨rfl, e⟩]
      show bt _ b = true
      rw [b_or, show bt x b = true from hb, Bool.or_true]
    · rw [g38, if_neg e1] at z
      rw [g36, if_neg (fun y => e1 y.1)]
      exact i3 m' hm' z e
  · obtain ⟨a1, a2⟩ := i4 m' hm'
    rw [o 37 (by decide) (by decide) (by decide), g38]
    refine ⟨a1, ?_⟩
    split
    · rename_i e
      subst e
      rcases a2 with a2 | a2
      · rw [a2]; exact Or.inr (by decide)
      · rw [a2]; exact Or.inr (by decide)
    · exact a2
theorem fI_32 {F : iv_F} {nm : Nat} {X : fX} {σ : pz_Sg} (hL : ∀ m, m < nm → (F 9 m).toNatClampNeg ≤ 24) (H : fI F nm X σ) {m l : Nat} (hm : m < nm) (hl : l < (F 9 m).toNatClampNeg) {w : Int64} (h0 : X 0 m l 0) (h1 : ∀ i, qB w i → X 1 m l i) (hz : fZ (qB w)) : fI F nm X (fjoin σ (24 * m + l) w) := by
  obtain ⟨i0, i1, i2, i3, i4⟩ := H
  have o : ∀ x, x ≠ 31 → (fjoin σ (24 * m + l) w).1 x = σ.1 x := fun x h => fjoin_1 h
  refine ⟨fun a ha => ?_, fun m' hm' l' hl' => ?_, fun m' hm' => by rw [o 38 (by decide), o 37 (by decide), o 35 (by decide), o 36 (by decide), o 33 (by decide), o 34 (by decide)]; exact i2 m' hm', fun m' hm' => by rw [o 38 (by decide), o 36 (by decide)]; exact i3 m' hm', fun m' hm' => by rw [o 37 (by decide), o 38 (by decide)]; exact i4 m' hm'⟩
  · rw [o a (fun e => by rw [e] at ha; cases ha)]
    exact i0 a ha
  · rw [fjoin_w]
    have b1 := hL m hm
    have b2 := hL m' hm'
    by_cases e : 24 * m' + l' = 24 * m + l
    · have e1 : m' = m := by omega
      have e2 : l' = l := by omega
      subst e1
      subst e2
      rw [if_pos rfl]
      refine ⟨fun i z => ?_, fun _ => ⟨h0, fun r hr => ?_⟩⟩
      · have z' := z
        unfold qB at z'
        rw [q_or, Bool.or_eq_true] at z'
        exact z'.elim ((i1 m' hm' l' hl').1 i) (h1 i)
      · obtain ⟨b, hb⟩ := hz r hr
        refine ⟨b, hb.1, ?_⟩
        show bq _ _ = true
        rw [q_or, show bq w (6 * r + b) = true from hb.2, Bool.or_true]
    · rw [if_neg e]
      exact i1 m' hm' l' hl'
/-! the steps: add, mayPrint, end, reach, mayTouch, mayThrow -/
def freach (F : iv_F) (σ : pz_Sg) (m l : Nat) (w : Int64) : pz_Sg := if l < (F 9 m).toNatClampNeg then fjoin σ (24 * m + l) w else fend F σ m 1
theorem fp31 : ∀ x, x < 6 → 33 + x ≠ 31 := fun x hx => by omega
theorem fr_end {F : iv_F} {σ : pz_Sg} {m : Nat} (hm : m < 10) {x : Int32} : fr 33 6 40 31 8 σ (fend F σ m x) := by
  unfold fend
  split
  · exact fr_trans (fadd_fr (b := 33) (n := 6) (a := 5) (by decide) (by omega) fp31) (fadd_fr (b := 33) (n := 6) (a := 3) (by decide) (by omega) fp31)
  · exact fadd_fr (b := 33) (n := 6) (a := 5) (by decide) (by omega) fp31
theorem fG_end {F : iv_F} {nm : Nat} {X : fX} {σ : pz_Sg} (H : fI F nm X σ) {m : Nat} (hm : m < 10) {x : Int32} (h2 : X 2 m 0 0) (h5 : F 8 m = nI 2 → (∀ b, bB x b → X 5 m b 0) ∧ ∃ b, bB x b) : fG F nm X σ (fend F σ m x) (fun Y => Y 2 m 0 0 ∧ (F 8 m = nI 2 → ∀ b, bB x b → Y 5 m b 0)) := by
  refine ⟨fr_end hm, fI_end H hm h2 h5, fun _ => ⟨?_, fun e b hb => ?_⟩⟩
  · show ¬ (fend F σ m x).1 38 m = 0
    have : (fend F σ m x).1 38 m = σ.1 38 m ||| 1 := by
      unfold fend
      split
      · rw [fadd_o (by decide) (by decide), fadd_w (by decide), if_pos rfl]
      · rw [fadd_w (by decide), if_pos rfl]
    rw [this]
    obtain ⟨-, a2⟩ := H.2.2.2.2 m hm
    rcases a2 with a2 | a2 <;> rw [a2] <;> decide
  · show bt ((fend F σ m x).1 36 m) b = true
    unfold fend
    rw [if_pos e, fadd_w (by decide), if_pos rfl, b_or, show bt x b = true from hb, Bool.or_true]
theorem fG_reach {F : iv_F} {nm : Nat} {X : fX} {σ : pz_Sg} (bm : nm ≤ 10) (hL : ∀ m, m < nm → (F 9 m).toNatClampNeg ≤ 24) (H : fI F nm X σ) {m l : Nat} (hm : m < nm) {w : Int64} (hc : fCm F X m l (qB w)) (hz : fZ (qB w)) : fG F nm X σ (freach F σ m l w) (fun Y => fCm F Y m l (qB w)) := by
  unfold freach
  by_cases hl : l < (F 9 m).toNatClampNeg
  · rw [if_pos hl]
    have bl := hL m hm
    refine ⟨fjoin_fr (by decide) (by omega) fp31, fI_32 hL H hm hl (hc.1 hl).1 (hc.1 hl).2 hz, fun _ => ⟨fun _ => ⟨?_, fun i hi => ?_⟩, fun z => absurd hl z⟩⟩
    · show ¬ (fjoin σ (24 * m + l) w).2 32 (24 * m + l) = 0
      rw [fjoin_w, if_pos rfl]
      intro e
      obtain ⟨b, hb⟩ := hz 0 (by decide)
      refine (qB_0.mp e) (6 * 0 + b) ?_
      show bq _ _ = true
      rw [q_or, show bq w (6 * 0 + b) = true from hb.2, Bool.or_true]
    · show bq ((fjoin σ (24 * m + l) w).2 32 (24 * m + l)) i = true
      rw [fjoin_w, if_pos rfl, q_or, show bq w i = true from hi, Bool.or_true]
  · rw [if_neg hl]
    refine fG_w (fG_end H (by omega) (hc.2 hl).1 (fun e => ⟨fun b hb => ?_, 0, by rw [bB_1]⟩)) (fun Y hY => ⟨fun z => absurd z hl, fun _ => ⟨hY.1, fun e => hY.2 e 0 (by rw [bB_1])⟩⟩)
    rw [bB_1] at hb
    rw [show b = 0 from hb]
    exact (hc.2 hl).2 e
theorem fG_33 {F : iv_F} {nm : Nat} {X : fX} {σ : pz_Sg} (H : fI F nm X σ) {a k : Nat} (ha : (a = 33 ∧ k = 6) ∨ (a = 34 ∧ k = 7)) {m w : Nat} (hm : m < 10) (hw : w < 4) {v : Int32} (hv : ∀ p, bB v p → X k m w p) : fG F nm X σ (fadd 31 8 σ a (4 * m + w) v) (fun Y => ∀ p, bB v p → Y k m w p) := by
  rcases ha with ⟨rfl, rfl⟩ | ⟨rfl, rfl⟩
  · refine ⟨fadd_fr (b := 33) (n := 6) (a := 0) (by decide) (by omega) fp31, fI_33 H hw hv, fun _ p hp => ⟨hw, ?_⟩⟩
    show bt _ p = true
    rw [fadd_w (by decide), if_pos rfl, b_or, show bt v p = true from hp, Bool.or_true]
  · refine ⟨fadd_fr (b := 33) (n := 6) (a := 1) (by decide) (by omega) fp31, fI_34 H hw hv, fun _ p hp => ⟨hw, ?_⟩⟩
    show bt _ p = true
    rw [fadd_w (by decide), if_pos rfl, b_or, show bt v p = true from hp, Bool.or_true]
def fth (a : Nat) (σ : pz_Sg) (m : Nat) (is pl : Int32) (k : Nat) : pz_Sg := if bt is (k + 2) = true then fadd 31 8 σ a (4 * m + k) pl else σ
def ftouch (a : Nat) (σ : pz_Sg) (m : Nat) (is pl : Int32) : pz_Sg := fth a (fth a (fth a (fth a σ m is pl 0) m is pl 1) m is pl 2) m is pl 3
theorem fG_th {F : iv_F} {nm : Nat} {X : fX} {σ : pz_Sg} (H : fI F nm X σ) {a k : Nat} (ha : (a = 33 ∧ k = 6) ∨ (a = 34 ∧ k = 7)) {m w : Nat} (hm : m < 10) (hw : w < 4) {is pl : Int32} (hv : bB is (w + 2) → ∀ p, bB pl p → X k m w p) : fG F nm X σ (fth a σ m is pl w) (fun Y => bB is (w + 2) → ∀ p, bB pl p → Y k m w p) := by
  unfold fth
  by_cases h : bt is (w + 2) = true
  · rw [if_pos h]
    exact fG_w (fG_33 H ha hm hw (hv h)) (fun Y hY _ => hY)
  · rw [if_neg h]
    exact fG_w (fG_r H) (fun Y _ z => absurd z h)
theorem fG_touch {F : iv_F} {nm : Nat} {X : fX} {σ : pz_Sg} (H : fI F nm X σ) {a k : Nat} (ha : (a = 33 ∧ k = 6) ∨ (a = 34 ∧ k = 7)) {m : Nat} (hm : m < 10) {is pl : Int32} (hv : fTo X k m (bB pl) (bB is)) : fG F nm X σ (ftouch a σ m is pl) (fun Y => fTo Y k m (bB pl) (bB is)) := by
  have g0 := fG_th H ha hm (w := 0) (by decide) (is := is) (pl := pl) (hv 0 (by decide))
  have g1 := fG_th g0.2.1 ha hm (w := 1) (by decide) (is := is) (pl := pl) (hv 1 (by decide))
  have g2 := fG_th g1.2.1 ha hm (w := 2) (by decide) (is := is) (pl := pl) (hv 2 (by decide))
  have g3 := fG_th g2.2.1 ha hm (w := 3) (by decide) (is := is) (pl := pl) (hv 3 (by decide))
  refine fG_w (fG_s g0 (fG_s g1 (fG_s g2 g3))) (fun Y hY w hw => ?_)
  match w, hw with
  | 0, _ => exact hY.1
  | 1, _ => exact hY.2.1
  | 2, _ => exact hY.2.2.1
  | 3, _ => exact hY.2.2.2
theorem fG_print {F : iv_F} {nm : Nat} {X : fX} {σ : pz_Sg} (H : fI F nm X σ) {m : Nat} (hm : m < 10) (h : X 3 m 0 0) : fG F nm X σ (fadd 31 8 σ 37 m 1) (fun Y => Y 3 m 0 0) := by
  refine ⟨fadd_fr (b := 33) (n := 6) (a := 4) (by decide) (by omega) fp31, fI_37 H hm h, fun _ => ?_⟩
  show ¬ (fadd 31 8 σ 37 m 1).1 37 m = 0
  rw [fadd_w (by decide), if_pos rfl]
  obtain ⟨a1, -⟩ := H.2.2.2.2 m hm
  rcases a1 with a1 | a1 <;> rw [a1] <;> decide
noncomputable def fthr (F : iv_F) (σ : pz_Sg) (m l f : Nat) : pz_Sg := if fk F m l f = 0 then fadd 31 8 σ 35 m ((1 : Int32) <<< (nI f &&& 31)) else freach F σ m (fk F m l f - 1) (σ.2 32 (24 * m + l))
noncomputable def fthrs (F : iv_F) (m l : Nat) (th : Int32) : Nat → Nat → pz_Sg → pz_Sg
  | 0, _, σ => σ
  | d + 1, f, σ => fthrs F m l th d (f + 1) (if bt th f = true then fthr F σ m l f else σ)
theorem fG_thr {F : iv_F} {nm : Nat} {X : fX} {σ : pz_Sg} (bm : nm ≤ 10) (hL : ∀ m, m < nm → (F 9 m).toNatClampNeg ≤ 24) (H : fI F nm X σ) {m l f : Nat} (hm : m < nm) (hl : l < (F 9 m).toNatClampNeg) (hw : ¬ σ.2 32 (24 * m + l) = 0) (hf : f < 32) (hX : fTh F X m l f) : fG F nm X σ (fthr F σ m l f) (fun Y => fTh F Y m l f) := by
  unfold fthr
  by_cases h : fk F m l f = 0
  · rw [if_pos h]
    refine ⟨fadd_fr (b := 33) (n := 6) (a := 2) (by decide) (by omega) fp31, fI_35 H (fun p hp => ?_), fun _ => ⟨fun _ => ?_, fun t ht => absurd (ht.symm.trans h) (Nat.succ_ne_zero _)⟩⟩
    · rw [bB_sh hf] at hp
      rw [show p = f from hp]
      exact hX.1 h
    · show bt _ f = true
      rw [fadd_w (by decide), if_pos rfl, b_or, b_bit hf, decide_eq_true rfl, Bool.or_true]
  · rw [if_neg h]
    obtain ⟨t, ht⟩ : ∃ t, fk F m l f = t + 1 := ⟨fk F m l f - 1, by omega⟩
    rw [show fk F m l f - 1 = t by omega]
    obtain ⟨i1, i2⟩ := H.2.1 m hm l hl
    have g := fG_reach bm hL H hm (fCm_w i1 (hX.2 t ht)) (i2 hw).2
    refine ⟨g.1, g.2.1, fun z => ⟨fun y => absurd y h, fun t' ht' => ?_⟩⟩
    have e : t' = t := by omega
    subst e
    have c := g.2.2 z
    obtain ⟨⟨s, -⟩, -⟩ := fG_sa g z
    show fCm F _ m t' (qB ((freach F σ m t' (σ.2 32 (24 * m + l))).2 32 (24 * m + l)))
    rw [s]
    exact c
theorem fG_nz {F : iv_F} {nm : Nat} {X : fX} {σ σ' : pz_Sg} {C : fX → Prop} (h : fG F nm X σ σ' C) {j : Nat} (hw : ¬ σ.2 32 j = 0) : ¬ σ'.2 32 j = 0 := fun z => hw (qB_0.mpr fun i hi => (qB_0.mp z) i (h.1.1.1 j i hi))
theorem fG_thrs {F : iv_F} {nm : Nat} {X : fX} (bm : nm ≤ 10) (hL : ∀ m, m < nm → (F 9 m).toNatClampNeg ≤ 24) {m l : Nat} (hm : m < nm) (hl : l < (F 9 m).toNatClampNeg) {th : Int32} : ∀ d f σ, fI F nm X σ → ¬ σ.2 32 (24 * m + l) = 0 → f + d ≤ 32 → (∀ g, f ≤ g → g < f + d → bB th g → fTh F X m l g) → fG F nm X σ (fthrs F m l th d f σ) (fun Y => ∀ g, f ≤ g → g < f + d → bB th g → fTh F Y m l g)
  | 0, f, σ, H, _, _, _ => fG_w (fG_r H) (fun Y _ g h1 h2 => absurd h2 (by omega))
  | d + 1, f, σ, H, hw, hb, hX => by
    unfold fthrs
    by_cases h : bt th f = true
    · rw [if_pos h]
      have g1 := fG_thr bm hL H hm hl hw (by omega) (hX f (Nat.le_refl _) (by omega) h)
      have g2 := fG_thrs bm hL hm hl (th := th) d (f + 1) _ g1.2.1 (fG_nz g1 hw) (by omega) (fun g h1 h2 => hX g (by omega) (by omega))
      refine fG_w (fG_s g1 g2) (fun Y hY g h1 h2 hg => ?_)
      by_cases e : g = f
      · subst e
        exact hY.1
      · exact hY.2 g (by omega) (by omega) hg
    · rw [if_neg h]
      refine fG_w (fG_thrs bm hL hm hl (th := th) d (f + 1) σ H hw (by omega) (fun g h1 h2 => hX g (by omega) (by omega))) (fun Y hY g h1 h2 hg => ?_)
      by_cases e : g = f
      · subst e
        exact absurd hg h
      · exact hY g (by omega) (by omega) hg
