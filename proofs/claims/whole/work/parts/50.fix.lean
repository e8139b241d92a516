/-! ===== WHAT MAY BE: the facts, the rules, and what keeps them. A fact is X k m x i:
   0 line x of m is reached; 1 bit i of what is ahead of line x of m; 2 m ends; 3 m prints; 4 m throws x; 5 bit x of m's result; 6, 7 m reads, writes place i by way x ===== -/
abbrev fX : Type := Nat → Nat → Nat → Nat → Prop
/-- local r, out of a row of locals -/
def fL (st : Nat → Prop) (r : Nat) : Nat → Prop := fun b => b < 6 ∧ st (6 * r + b)
/-- local a told anew -/
def fW (st : Nat → Prop) (a : Nat) (P : Nat → Prop) : Nat → Prop := fun i => (6 * a ≤ i ∧ i < 6 * a + 6 ∧ P (i - 6 * a)) ∨ (¬ (6 * a ≤ i ∧ i < 6 * a + 6) ∧ st i)
/-- something else than null -/
def fN (P : Nat → Prop) : Nat → Prop := fun b => 0 < b ∧ P b
/-- catch k of m, for line l and fault f -/
def fk_is (F : iv_F) (m l f k : Nat) : Prop := (¬ nI l < F 69 (4 * m + k) ∧ ¬ F 70 (4 * m + k) ≤ nI l) ∧ (F 71 (4 * m + k) = 0 ∨ F 71 (4 * m + k) = nI f)
noncomputable def fk_go (F : iv_F) (m l f : Nat) : Nat → Nat → Nat
  | 0, _ => 0
  | d + 1, k => @ite _ (fk_is F m l f k) (Classical.propDecidable _) ((F 72 (4 * m + k)).toNatClampNeg + 1) (fk_go F m l f d (k + 1))
/-- the line (and one more) at which m goes on after fault f at line l; 0 without a catch -/
noncomputable def fk (F : iv_F) (m l f : Nat) : Nat := fk_go F m l f (F 14 m).toNatClampNeg 0
/-- what comes to line l of m -/
def fCm (F : iv_F) (X : fX) (m l : Nat) (st : Nat → Prop) : Prop := (l < (F 9 m).toNatClampNeg → X 0 m l 0 ∧ ∀ i, st i → X 1 m l i) ∧ (¬ l < (F 9 m).toNatClampNeg → X 2 m 0 0 ∧ (F 8 m = nI 2 → X 5 m 0 0))
def fTh (F : iv_F) (X : fX) (m l f : Nat) : Prop := (fk F m l f = 0 → X 4 m f 0) ∧ ∀ t, fk F m l f = t + 1 → fCm F X m t (X 1 m l)
def fTo (X : fX) (k m : Nat) (P is : Nat → Prop) : Prop := ∀ w, w < 4 → is (w + 2) → ∀ p, P p → X k m w p
/-- what a called METHOD's result may be -/
def fS (F : iv_F) (X : fX) (b c : Nat) (st : Nat → Prop) : Nat → Prop := fun i => ((i = 0 ∨ i = 1 ∨ i = 5) ∧ X 5 b i 0) ∨ ∃ k, k < (F 7 b).toNatClampNeg ∧ X 5 b (k + 2) 0 ∧ fL st (c + k) i
/-- a part of a THING: line l of m, holder h, place p (24 or more: a size, no place), written or read, found in local a, or not -/
def fPa (F : iv_F) (X : fX) (m l h k p : Nat) (it tk : Prop) (a : Nat) : Prop := (fL (X 1 m l) h 0 → fTh F X m l 3) ∧ ((∃ b, fN (fL (X 1 m l) h) b) → fTo X k m (fun q => q = p ∧ p < 25) (fL (X 1 m l) h) ∧ fTh F X m l 5 ∧ (it → fTh F X m l 4) ∧ (¬ tk → fCm F X m (l + 1) (fW (X 1 m l) h (fN (fL (X 1 m l) h)))) ∧ (tk → fCm F X m (l + 1) (fW (fW (X 1 m l) h (fN (fL (X 1 m l) h))) a (fun b => b = 0 ∨ b = 5))))
def fCa (F : iv_F) (X : fX) (m l b c : Nat) : Prop := (∀ k, k < (F 7 b).toNatClampNeg → fTo X 6 m (X 6 b k) (fL (X 1 m l) (c + k)) ∧ fTo X 7 m (X 7 b k) (fL (X 1 m l) (c + k))) ∧ (fTo X 6 m (X 6 b 3) (fun i => i = 5) ∧ fTo X 7 m (X 7 b 3) (fun i => i = 5)) ∧ (X 3 b 0 0 → X 3 m 0 0) ∧ (X 2 b 0 0 → (¬ F 8 b = nI 2 → fCm F X m (l + 1) (X 1 m l)) ∧ (F 8 b = nI 2 → fCm F X m (l + 1) (fW (X 1 m l) c (fS F X b c (X 1 m l))))) ∧ ∀ f, 1 ≤ f → f ≤ 9 → X 4 b f 0 → fTh F X m l f
/-- the rule of a LINE, by its OP and operands -/
def fRo (F : iv_F) (X : fX) (m l a b c : Nat) : Nat → Prop
  | 4 => fTh F X m l 1 ∧ fCm F X m (l + 1) (X 1 m l)
  | 5 => fTh F X m l 1 ∧ fCm F X m (l + 1) (X 1 m l)
  | 6 => fCm F X m (l + 1) (fW (X 1 m l) a (fun i => i = 0))
  | 7 => fCm F X m (l + 1) (fW (X 1 m l) a (fL (X 1 m l) b))
  | 8 => fCm F X m (l + 1) (fW (X 1 m l) a (fun i => i = 1))
  | 9 => fTh F X m l 2 ∧ fCm F X m (l + 1) (fW (X 1 m l) a (fun i => i = 1))
  | 10 => fPa F X m l b 6 c False False a
  | 11 => fPa F X m l a 7 c False False a
  | 12 => fPa F X m l b 6 c False True a
  | 13 => fPa F X m l a 7 c False False a
  | 14 => fPa F X m l b 6 24 True False a
  | 15 => fPa F X m l a 7 24 True False a
  | 16 => fTo X 6 m (fun p => p = 16 + b) (fun i => i = 5) ∧ fCm F X m (l + 1) (X 1 m l)
  | 17 => fTo X 7 m (fun p => p = 16 + a) (fun i => i = 5) ∧ fCm F X m (l + 1) (X 1 m l)
  | 18 => fTo X 6 m (fun p => p = 16 + b) (fun i => i = 5) ∧ fCm F X m (l + 1) (fW (X 1 m l) a (fun i => i = 0 ∨ i = 5))
  | 19 => fTo X 7 m (fun p => p = 16 + a) (fun i => i = 5) ∧ fCm F X m (l + 1) (X 1 m l)
  | 20 => fPa F X m l b 6 25 False False a
  | 21 => fCa F X m l b c
  | 22 => X 3 m 0 0 ∧ fCm F X m (l + 1) (X 1 m l)
  | 23 => fCm F X m c (X 1 m l) ∧ fCm F X m (l + 1) (X 1 m l)
  | 24 => fCm F X m c (X 1 m l) ∧ fCm F X m (l + 1) (X 1 m l)
  | 25 => (fL (X 1 m l) a 0 → fCm F X m c (fW (X 1 m l) a (fun i => i = 0))) ∧ ((∃ i, fN (fL (X 1 m l) a) i) → fCm F X m (l + 1) (fW (X 1 m l) a (fN (fL (X 1 m l) a))))
  | 26 => fCm F X m c (X 1 m l) ∧ fCm F X m (l + 1) (X 1 m l)
  | 27 => ((∃ i, fN (fL (X 1 m l) a) i) → fCm F X m c (fW (X 1 m l) a (fN (fL (X 1 m l) a)))) ∧ ((∃ i, fL (X 1 m l) a i) → fCm F X m (l + 1) (X 1 m l))
  | 28 => fCm F X m c (X 1 m l)
  | 29 => ((∃ i, fN (fL (X 1 m l) a) i) → fTh F X m l 5) ∧ fCm F X m (l + 1) (X 1 m l)
  | 30 => fTh F X m l (6 + a)
  | 31 => X 2 m 0 0 ∧ (F 8 m = nI 2 → ∀ i, fL (X 1 m l) a i → X 5 m i 0)
  | _ => fCm F X m (l + 1) (X 1 m l)
/-- what is ahead of the first LINE -/
def fB (F : iv_F) (m : Nat) : Nat → Prop := fun i => i < 48 ∧ (i % 6 = 0 ∨ (i / 6 < (F 7 m).toNatClampNeg ∧ i % 6 = 2 + i / 6))
def fRu (F : iv_F) (X : fX) (m l : Nat) : Prop := fRo F X m l (F 11 (24 * m + l)).toNatClampNeg (F 12 (24 * m + l)).toNatClampNeg (F 13 (24 * m + l)).toNatClampNeg (F 10 (24 * m + l)).toNatClampNeg
/-- no rule adds anything -/
def fCl (F : iv_F) (nm : Nat) (X : fX) : Prop := ∀ m, m < nm → fCm F X m 0 (fB F m) ∧ ∀ l, l < (F 9 m).toNatClampNeg → X 0 m l 0 → fRu F X m l
/-- all that could ever be -/
def f0b (F : iv_F) (m b : Nat) : Prop := b = 0 ∨ b = 1 ∨ b = 5 ∨ (2 ≤ b ∧ b < 2 + (F 7 m).toNatClampNeg)
def f0 (F : iv_F) : fX := fun k m x i => match k with
  | 1 => i < 48 ∧ f0b F m (i % 6)
  | 4 => 1 ≤ x ∧ x ≤ 9
  | 5 => F 8 m = nI 2 ∧ f0b F m x
  | 6 => i < 25
  | 7 => i < 25
  | _ => True
/-! rows of locals -/
theorem fL_m {s t : Nat → Prop} (h : ∀ i, s i → t i) {r b : Nat} (z : fL s r b) : fL t r b := ⟨z.1, h _ z.2⟩
theorem fN_m {s t : Nat → Prop} (h : ∀ i, s i → t i) {b : Nat} (z : fN s b) : fN t b := ⟨z.1, h _ z.2⟩
theorem fW_m {s t P Q : Nat → Prop} (h : ∀ i, s i → t i) (g : ∀ b, b < 6 → P b → Q b) {a i : Nat} (z : fW s a P i) : fW t a Q i := z.elim (fun z => Or.inl ⟨z.1, z.2.1, g _ (by omega) z.2.2⟩) (fun z => Or.inr ⟨z.1, h _ z.2⟩)
theorem fW_L {st P : Nat → Prop} {a r b : Nat} : fL (fW st a P) r b ↔ (r = a ∧ b < 6 ∧ P b) ∨ (¬ r = a ∧ fL st r b) := by
  unfold fL fW
  constructor
  · rintro ⟨hb, h | h⟩
    · have : r = a := by omega
      subst this
      exact Or.inl ⟨rfl, hb, by rw [show 6 * r + b - 6 * r = b by omega] at h; exact h.2.2⟩
    · exact Or.inr ⟨fun e => h.1 (by omega), hb, h.2⟩
  · rintro (⟨rfl, hb, hP⟩ | ⟨hr, hb, hs⟩)
    · exact ⟨hb, Or.inl ⟨by omega, by omega, by rw [show 6 * r + b - 6 * r = b by omega]; exact hP⟩⟩
    · exact ⟨hb, Or.inr ⟨by omega, hs⟩⟩
theorem fCm_w {F : iv_F} {X : fX} {m l : Nat} {s t : Nat → Prop} (h : ∀ i, t i → s i) (z : fCm F X m l s) : fCm F X m l t := ⟨fun y => ⟨(z.1 y).1, fun i hi => (z.1 y).2 i (h i hi)⟩, z.2⟩
/-! the least of all that the rules keep -/
def fD (F : iv_F) (nm : Nat) : fX := fun k m x i => ∀ X, fCl F nm X → X k m x i
theorem fCm_D {F : iv_F} {nm m l : Nat} {S : fX → Nat → Prop} {s : Nat → Prop} (h : ∀ X, fCl F nm X → fCm F X m l (S X)) (hs : ∀ X, fCl F nm X → ∀ i, s i → S X i) : fCm F (fD F nm) m l s :=
  ⟨fun y => ⟨fun X hX => ((h X hX).1 y).1, fun i hi X hX => ((h X hX).1 y).2 i (hs X hX i hi)⟩, fun y => ⟨fun X hX => ((h X hX).2 y).1, fun z X hX => ((h X hX).2 y).2 z⟩⟩
theorem fTh_D {F : iv_F} {nm m l f : Nat} (h : ∀ X, fCl F nm X → fTh F X m l f) : fTh F (fD F nm) m l f :=
  ⟨fun y X hX => (h X hX).1 y, fun t ht => fCm_D (S := fun X => X 1 m l) (fun X hX => (h X hX).2 t ht) (fun X hX i hi => hi X hX)⟩
theorem fTo_D {F : iv_F} {nm k m : Nat} {P I : fX → Nat → Prop} {p is : Nat → Prop} (h : ∀ X, fCl F nm X → fTo X k m (P X) (I X)) (hp : ∀ X, fCl F nm X → ∀ i, p i → P X i) (hi : ∀ X, fCl F nm X → ∀ i, is i → I X i) : fTo (fD F nm) k m p is :=
  fun w hw y q hq X hX => h X hX w hw (hi X hX _ y) q (hp X hX q hq)
theorem fD_1 {F : iv_F} {nm m l : Nat} : ∀ X, fCl F nm X → ∀ i, fD F nm 1 m l i → X 1 m l i := fun X hX i h => h X hX
theorem fS_D {F : iv_F} {nm m l b c : Nat} {X : fX} (hX : fCl F nm X) {i : Nat} (h : fS F (fD F nm) b c (fD F nm 1 m l) i) : fS F X b c (X 1 m l) i := h.elim (fun h => Or.inl ⟨h.1, h.2 X hX⟩) (fun ⟨k, hk, h1, h2⟩ => Or.inr ⟨k, hk, h1 X hX, fL_m (fD_1 X hX) h2⟩)
theorem fPa_D {F : iv_F} {nm m l h k p a : Nat} {it tk : Prop} (H : ∀ X, fCl F nm X → fPa F X m l h k p it tk a) : fPa F (fD F nm) m l h k p it tk a := by
  refine ⟨fun z => fTh_D fun X hX => (H X hX).1 (fL_m (fD_1 X hX) z), fun z => ?_⟩
  have K : ∀ X, fCl F nm X → _ := fun X hX => (H X hX).2 (z.imp fun b hb => fN_m (fun i hi => fL_m (fD_1 X hX) hi) hb)
  refine ⟨fTo_D (fun X hX => (K X hX).1) (fun X hX i hi => hi) (fun X hX i hi => fL_m (fD_1 X hX) hi), fTh_D fun X hX => (K X hX).2.1, fun y => fTh_D fun X hX => (K X hX).2.2.1 y, fun y => fCm_D (fun X hX => (K X hX).2.2.2.1 y) (fun X hX i hi => ?_), fun y => fCm_D (fun X hX => (K X hX).2.2.2.2 y) (fun X hX i hi => ?_)⟩
  · exact fW_m (fD_1 X hX) (fun b _ hb => fN_m (fun i hi => fL_m (fD_1 X hX) hi) hb) hi
  · exact fW_m (fun i hi => fW_m (fD_1 X hX) (fun b _ hb => fN_m (fun i hi => fL_m (fD_1 X hX) hi) hb) hi) (fun b _ hb => hb) hi
theorem fCa_D {F : iv_F} {nm m l b c : Nat} (H : ∀ X, fCl F nm X → fCa F X m l b c) : fCa F (fD F nm) m l b c := by
  refine ⟨fun k hk => ⟨fTo_D (fun X hX => ((H X hX).1 k hk).1) (fun X hX i hi => hi X hX) (fun X hX i hi => fL_m (fD_1 X hX) hi), fTo_D (fun X hX => ((H X hX).1 k hk).2) (fun X hX i hi => hi X hX) (fun X hX i hi => fL_m (fD_1 X hX) hi)⟩, ⟨fTo_D (fun X hX => (H X hX).2.1.1) (fun X hX i hi => hi X hX) (fun X hX i hi => hi), fTo_D (fun X hX => (H X hX).2.1.2) (fun X hX i hi => hi X hX) (fun X hX i hi => hi)⟩, fun z X hX => (H X hX).2.2.1 (z X hX), fun z => ⟨fun y => fCm_D (fun X hX => ((H X hX).2.2.2.1 (z X hX)).1 y) fD_1, fun y => fCm_D (fun X hX => ((H X hX).2.2.2.1 (z X hX)).2 y) (fun X hX i hi => fW_m (fD_1 X hX) (fun b _ hb => fS_D hX hb) hi)⟩, fun f f1 f2 z => fTh_D fun X hX => (H X hX).2.2.2.2 f f1 f2 (z X hX)⟩
theorem fRo_D {F : iv_F} {nm m l a b c : Nat} : ∀ o, o < 32 → (∀ X, fCl F nm X → fRo F X m l a b c o) → fRo F (fD F nm) m l a b c o
  | 0, _, H => fCm_D (fun X hX => H X hX) fD_1
  | 1, _, H => fCm_D (fun X hX => H X hX) fD_1
  | 2, _, H => fCm_D (fun X hX => H X hX) fD_1
  | 3, _, H => fCm_D (fun X hX => H X hX) fD_1
  | 4, _, H => ⟨fTh_D fun X hX => (H X hX).1, fCm_D (fun X hX => (H X hX).2) fD_1⟩
  | 5, _, H => ⟨fTh_D fun X hX => (H X hX).1, fCm_D (fun X hX => (H X hX).2) fD_1⟩
  | 6, _, H => fCm_D (fun X hX => H X hX) (fun X hX i hi => fW_m (fD_1 X hX) (fun _ _ h => h) hi)
  | 7, _, H => fCm_D (fun X hX => H X hX) (fun X hX i hi => fW_m (fD_1 X hX) (fun _ _ h => fL_m (fD_1 X hX) h) hi)
  | 8, _, H => fCm_D (fun X hX => H X hX) (fun X hX i hi => fW_m (fD_1 X hX) (fun _ _ h => h) hi)
  | 9, _, H => ⟨fTh_D fun X hX => (H X hX).1, fCm_D (fun X hX => (H X hX).2) (fun X hX i hi => fW_m (fD_1 X hX) (fun _ _ h => h) hi)⟩
  | 10, _, H => fPa_D H
  | 11, _, H => fPa_D H
  | 12, _, H => fPa_D H
  | 13, _, H => fPa_D H
  | 14, _, H => fPa_D H
  | 15, _, H => fPa_D H
  | 16, _, H => ⟨fTo_D (fun X hX => (H X hX).1) (fun X hX i hi => hi) (fun X hX i hi => hi), fCm_D (fun X hX => (H X hX).2) fD_1⟩
  | 17, _, H => ⟨fTo_D (fun X hX => (H X hX).1) (fun X hX i hi => hi) (fun X hX i hi => hi), fCm_D (fun X hX => (H X hX).2) fD_1⟩
  | 18, _, H => ⟨fTo_D (fun X hX => (H X hX).1) (fun X hX i hi => hi) (fun X hX i hi => hi), fCm_D (fun X hX => (H X hX).2) (fun X hX i hi => fW_m (fD_1 X hX) (fun _ _ h => h) hi)⟩
  | 19, _, H => ⟨fTo_D (fun X hX => (H X hX).1) (fun X hX i hi => hi) (fun X hX i hi => hi), fCm_D (fun X hX => (H X hX).2) fD_1⟩
  | 20, _, H => fPa_D H
  | 21, _, H => fCa_D H
  | 22, _, H => ⟨fun X hX => (H X hX).1, fCm_D (fun X hX => (H X hX).2) fD_1⟩
  | 23, _, H => ⟨fCm_D (fun X hX => (H X hX).1) fD_1, fCm_D (fun X hX => (H X hX).2) fD_1⟩
  | 24, _, H => ⟨fCm_D (fun X hX => (H X hX).1) fD_1, fCm_D (fun X hX => (H X hX).2) fD_1⟩
  | 25, _, H => ⟨fun z => fCm_D (fun X hX => (H X hX).1 (fL_m (fD_1 X hX) z)) (fun X hX i hi => fW_m (fD_1 X hX) (fun _ _ h => h) hi), fun z => fCm_D (fun X hX => (H X hX).2 (z.imp fun b hb => fN_m (fun i hi => fL_m (fD_1 X hX) hi) hb)) (fun X hX i hi => fW_m (fD_1 X hX) (fun b _ hb => fN_m (fun i hi => fL_m (fD_1 X hX) hi) hb) hi)⟩
  | 26, _, H => ⟨fCm_D (fun X hX => (H X hX).1) fD_1, fCm_D (fun X hX => (H X hX).2) fD_1⟩
  | 27, _, H => ⟨fun z => fCm_D (fun X hX => (H X hX).1 (z.imp fun b hb => fN_m (fun i hi => fL_m (fD_1 X hX) hi) hb)) (fun X hX i hi => fW_m (fD_1 X hX) (fun b _ hb => fN_m (fun i hi => fL_m (fD_1 X hX) hi) hb) hi), fun z => fCm_D (fun X hX => (H X hX).2 (z.imp fun b hb => fL_m (fD_1 X hX) hb)) fD_1⟩
  | 28, _, H => fCm_D (fun X hX => H X hX) fD_1
  | 29, _, H => ⟨fun z => fTh_D fun X hX => (H X hX).1 (z.imp fun b hb => fN_m (fun i hi => fL_m (fD_1 X hX) hi) hb), fCm_D (fun X hX => (H X hX).2) fD_1⟩
  | 30, _, H => fTh_D fun X hX => H X hX
  | 31, _, H => ⟨fun X hX => (H X hX).1, fun y i hi X hX => (H X hX).2 y i (fL_m (fD_1 X hX) hi)⟩
  | n + 32, h, _ => absurd h (by omega)
theorem fD_cl {F : iv_F} {nm : Nat} (ho : ∀ m, m < nm → ∀ l, l < (F 9 m).toNatClampNeg → (F 10 (24 * m + l)).toNatClampNeg < 32) : fCl F nm (fD F nm) := fun m hm => ⟨fCm_D (fun X hX => (hX m hm).1) (fun X hX i hi => hi), fun l hl z => fRo_D _ (ho m hm l hl) (fun X hX => (hX m hm).2 l hl (z X hX))⟩
/-! all that could ever be keeps the rules too -/
theorem fk_b {F : iv_F} {m l f : Nat} : True := trivial
theorem f0b_0 {F : iv_F} {m : Nat} : f0b F m 0 := Or.inl rfl
theorem f0_cm {F : iv_F} {m l : Nat} {s : Nat → Prop} (h : ∀ i, s i → i < 48 ∧ f0b F m (i % 6)) : fCm F (f0 F) m l s := ⟨fun _ => ⟨trivial, h⟩, fun _ => ⟨trivial, fun z => ⟨z, f0b_0⟩⟩⟩
theorem f0_1 {F : iv_F} {m l : Nat} : ∀ i, f0 F 1 m l i → i < 48 ∧ f0b F m (i % 6) := fun _ h => h
theorem f0_W {F : iv_F} {m a : Nat} {s P : Nat → Prop} (ha : a < 8) (h : ∀ i, s i → i < 48 ∧ f0b F m (i % 6)) (hP : ∀ b, b < 6 → P b → f0b F m b) : ∀ i, fW s a P i → i < 48 ∧ f0b F m (i % 6) := by
  rintro i (⟨h1, h2, h3⟩ | ⟨-, h3⟩)
  · refine ⟨by omega, ?_⟩
    rw [show i % 6 = i - 6 * a by omega]
    exact hP _ (by omega) h3
  · exact h i h3
theorem f0_L {F : iv_F} {m l r b : Nat} (h : fL (f0 F 1 m l) r b) : f0b F m b := by
  have := h.2.2
  rw [show (6 * r + b) % 6 = b by have := h.1; omega] at this
  exact this
theorem f0_th {F : iv_F} {m l f : Nat} (h1 : 1 ≤ f) (h2 : f ≤ 9) : fTh F (f0 F) m l f := ⟨fun _ => ⟨h1, h2⟩, fun t _ => f0_cm f0_1⟩
theorem f0_S {F : iv_F} {m l b c i : Nat} (h : fS F (f0 F) b c (f0 F 1 m l) i) : f0b F m i := by
  rcases h with ⟨h1, -⟩ | ⟨k, -, -, h3⟩
  · rcases h1 with h1 | h1 | h1
    · exact Or.inl h1
    · exact Or.inr (Or.inl h1)
    · exact Or.inr (Or.inr (Or.inl h1))
  · exact f0_L h3
theorem f0_pa {F : iv_F} {m l h k p a : Nat} {it tk : Prop} (hk : k = 6 ∨ k = 7) (hh : h < 8) (ha : a < 8) : fPa F (f0 F) m l h k p it tk a := by
  have hN : ∀ b, b < 6 → fN (fL (f0 F 1 m l) h) b → f0b F m b := fun b _ z => f0_L z.2
  refine ⟨fun _ => f0_th (by decide) (by decide), fun _ => ⟨fun w hw _ q hq => ?_, f0_th (by decide) (by decide), fun _ => f0_th (by decide) (by decide), fun _ => f0_cm (f0_W hh f0_1 hN), fun _ => f0_cm (f0_W ha (f0_W hh f0_1 hN) (fun b _ z => z.elim (fun z => Or.inl z) (fun z => Or.inr (Or.inr (Or.inl z)))))⟩⟩
  rcases hk with rfl | rfl
  · show q < 25
    omega
  · show q < 25
    omega
