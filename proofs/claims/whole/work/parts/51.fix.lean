/-! the operands of a LINE, as numbers -/
def fOk (nt nf ns nm k x : Nat) : Prop := (k = 1 → x < 8) ∧ (k = 5 ∨ k = 6 → x < ns) ∧ (k = 9 → x < 4) ∧ (k = 7 → x < nm) ∧ (k = 3 ∨ k = 4 → x < nf) ∧ (k = 8 → x < 25) ∧ (k = 2 → x < nt)
theorem vp_N {x : Int32} {n : Nat} (h : vp_in x n) (hn : n < 2 ^ 31) : x.toNatClampNeg < n ∧ x = nI x.toNatClampNeg := by
  obtain ⟨j, hj, rfl⟩ := vp_in_of h hn
  rw [nI_clamp (by omega)]
  exact ⟨hj, rfl⟩
theorem fOk_of {F : iv_F} {nt nf ns nm m : Nat} (bt : nt ≤ 8) (bf : nf ≤ 16) (bs : ns ≤ 8) (bm : nm ≤ 10) {x : Int32} : ∀ k, k < 11 → qz_su F nt nf ns nm m k x → fOk nt nf ns nm k x.toNatClampNeg
  | 0, _, _ => ⟨fun z => by omega, fun z => by omega, fun z => by omega, fun z => by omega, fun z => by omega, fun z => by omega, fun z => by omega⟩
  | 1, _, h => ⟨fun _ => (vp_N (n := 8) h (by omega)).1, fun z => by omega, fun z => by omega, fun z => by omega, fun z => by omega, fun z => by omega, fun z => by omega⟩
  | 2, _, h => ⟨fun z => by omega, fun z => by omega, fun z => by omega, fun z => by omega, fun z => by omega, fun z => by omega, fun _ => (vp_N (n := nt) h (by omega)).1⟩
  | 3, _, h => ⟨fun z => by omega, fun z => by omega, fun z => by omega, fun z => by omega, fun _ => (vp_N (n := nf) h.1 (by omega)).1, fun z => by omega, fun z => by omega⟩
  | 4, _, h => ⟨fun z => by omega, fun z => by omega, fun z => by omega, fun z => by omega, fun _ => (vp_N (n := nf) h.1 (by omega)).1, fun z => by omega, fun z => by omega⟩
  | 5, _, h => ⟨fun z => by omega, fun _ => (vp_N (n := ns) h.1 (by omega)).1, fun z => by omega, fun z => by omega, fun z => by omega, fun z => by omega, fun z => by omega⟩
  | 6, _, h => ⟨fun z => by omega, fun _ => (vp_N (n := ns) h.1 (by omega)).1, fun z => by omega, fun z => by omega, fun z => by omega, fun z => by omega, fun z => by omega⟩
  | 7, _, h => ⟨fun z => by omega, fun z => by omega, fun z => by omega, fun _ => (vp_N (n := nm) h (by omega)).1, fun z => by omega, fun z => by omega, fun z => by omega⟩
  | 8, _, h => ⟨fun z => by omega, fun z => by omega, fun z => by omega, fun z => by omega, fun z => by omega, fun _ => (vp_N (n := 25) h (by omega)).1, fun z => by omega⟩
  | 9, _, h => ⟨fun z => by omega, fun z => by omega, fun _ => (vp_N (n := 4) h (by omega)).1, fun z => by omega, fun z => by omega, fun z => by omega, fun z => by omega⟩
  | 10, _, _ => ⟨fun z => by omega, fun z => by omega, fun z => by omega, fun z => by omega, fun z => by omega, fun z => by omega, fun z => by omega⟩
  | n + 11, h, _ => absurd h (by omega)
/-- a LINE: its OP, and what is known of its operands -/
theorem fOp {F : iv_F} {nt nf ns nm m l : Nat} (h : iv_ln F nt nf ns nm) (hm : m < nm) (hl : l < (F 9 m).toNatClampNeg) : ∃ o, o < 32 ∧ F 10 (24 * m + l) = nI o ∧ qz_su F nt nf ns nm m (qz_W (3 * o)) (F 11 (24 * m + l)) ∧ qz_su F nt nf ns nm m (qz_W (3 * o + 1)) (F 12 (24 * m + l)) ∧ qz_su F nt nf ns nm m (qz_W (3 * o + 2)) (F 13 (24 * m + l)) ∧ (o = 21 → F 11 (24 * m + l) + F 6 (F 12 (24 * m + l)).toNatClampNeg ≤ nI 8 ∧ F 13 (24 * m + l) + F 7 (F 12 (24 * m + l)).toNatClampNeg ≤ nI 8) := by
  obtain ⟨-, h⟩ := h m hm l hl
  obtain ⟨o, ho, e⟩ := vp_in_of h.1 (by decide)
  rw [e] at h
  obtain ⟨h1, h2, h3, h4⟩ := (qz_ft ho).mp h
  exact ⟨o, ho, e, h1, h2, h3, h4⟩
theorem f0_6 {F : iv_F} {m x i : Nat} : f0 F 6 m x i ↔ i < 25 := Iff.rfl
theorem f0_7 {F : iv_F} {m x i : Nat} : f0 F 7 m x i ↔ i < 25 := Iff.rfl
theorem f0_r0 {F : iv_F} {m l a b c : Nat} (_ha : ((6 ≤ 0 ∧ 0 ≤ 20) ∨ 0 = 25 ∨ 0 = 27 → a < 8)) (_hb : (10 ≤ 0 ∧ 0 ≤ 20) → b < 8 ∨ 0 = 17 ∨ 0 = 19) (_hc : 0 = 21 → c < 8) (_h30 : 0 = 30 → a < 4) : fRo F (f0 F) m l a b c 0 := f0_cm f0_1
theorem f0_r1 {F : iv_F} {m l a b c : Nat} (_ha : ((6 ≤ 1 ∧ 1 ≤ 20) ∨ 1 = 25 ∨ 1 = 27 → a < 8)) (_hb : (10 ≤ 1 ∧ 1 ≤ 20) → b < 8 ∨ 1 = 17 ∨ 1 = 19) (_hc : 1 = 21 → c < 8) (_h30 : 1 = 30 → a < 4) : fRo F (f0 F) m l a b c 1 := f0_cm f0_1
theorem f0_r2 {F : iv_F} {m l a b c : Nat} (_ha : ((6 ≤ 2 ∧ 2 ≤ 20) ∨ 2 = 25 ∨ 2 = 27 → a < 8)) (_hb : (10 ≤ 2 ∧ 2 ≤ 20) → b < 8 ∨ 2 = 17 ∨ 2 = 19) (_hc : 2 = 21 → c < 8) (_h30 : 2 = 30 → a < 4) : fRo F (f0 F) m l a b c 2 := f0_cm f0_1
theorem f0_r3 {F : iv_F} {m l a b c : Nat} (_ha : ((6 ≤ 3 ∧ 3 ≤ 20) ∨ 3 = 25 ∨ 3 = 27 → a < 8)) (_hb : (10 ≤ 3 ∧ 3 ≤ 20) → b < 8 ∨ 3 = 17 ∨ 3 = 19) (_hc : 3 = 21 → c < 8) (_h30 : 3 = 30 → a < 4) : fRo F (f0 F) m l a b c 3 := f0_cm f0_1
theorem f0_r4 {F : iv_F} {m l a b c : Nat} (_ha : ((6 ≤ 4 ∧ 4 ≤ 20) ∨ 4 = 25 ∨ 4 = 27 → a < 8)) (_hb : (10 ≤ 4 ∧ 4 ≤ 20) → b < 8 ∨ 4 = 17 ∨ 4 = 19) (_hc : 4 = 21 → c < 8) (_h30 : 4 = 30 → a < 4) : fRo F (f0 F) m l a b c 4 := ⟨f0_th (by decide) (by decide), f0_cm f0_1⟩
theorem f0_r5 {F : iv_F} {m l a b c : Nat} (_ha : ((6 ≤ 5 ∧ 5 ≤ 20) ∨ 5 = 25 ∨ 5 = 27 → a < 8)) (_hb : (10 ≤ 5 ∧ 5 ≤ 20) → b < 8 ∨ 5 = 17 ∨ 5 = 19) (_hc : 5 = 21 → c < 8) (_h30 : 5 = 30 → a < 4) : fRo F (f0 F) m l a b c 5 := ⟨f0_th (by decide) (by decide), f0_cm f0_1⟩
theorem f0_r6 {F : iv_F} {m l a b c : Nat} (ha : ((6 ≤ 6 ∧ 6 ≤ 20) ∨ 6 = 25 ∨ 6 = 27 → a < 8)) (_hb : (10 ≤ 6 ∧ 6 ≤ 20) → b < 8 ∨ 6 = 17 ∨ 6 = 19) (_hc : 6 = 21 → c < 8) (_h30 : 6 = 30 → a < 4) : fRo F (f0 F) m l a b c 6 := f0_cm (f0_W (ha (by decide)) f0_1 (fun b _ z => Or.inl z))
theorem f0_r7 {F : iv_F} {m l a b c : Nat} (ha : ((6 ≤ 7 ∧ 7 ≤ 20) ∨ 7 = 25 ∨ 7 = 27 → a < 8)) (_hb : (10 ≤ 7 ∧ 7 ≤ 20) → b < 8 ∨ 7 = 17 ∨ 7 = 19) (_hc : 7 = 21 → c < 8) (_h30 : 7 = 30 → a < 4) : fRo F (f0 F) m l a b c 7 := f0_cm (f0_W (ha (by decide)) f0_1 (fun b _ z => f0_L z))
theorem f0_r8 {F : iv_F} {m l a b c : Nat} (ha : ((6 ≤ 8 ∧ 8 ≤ 20) ∨ 8 = 25 ∨ 8 = 27 → a < 8)) (_hb : (10 ≤ 8 ∧ 8 ≤ 20) → b < 8 ∨ 8 = 17 ∨ 8 = 19) (_hc : 8 = 21 → c < 8) (_h30 : 8 = 30 → a < 4) : fRo F (f0 F) m l a b c 8 := f0_cm (f0_W (ha (by decide)) f0_1 (fun b _ z => Or.inr (Or.inl z)))
theorem f0_r9 {F : iv_F} {m l a b c : Nat} (ha : ((6 ≤ 9 ∧ 9 ≤ 20) ∨ 9 = 25 ∨ 9 = 27 → a < 8)) (_hb : (10 ≤ 9 ∧ 9 ≤ 20) → b < 8 ∨ 9 = 17 ∨ 9 = 19) (_hc : 9 = 21 → c < 8) (_h30 : 9 = 30 → a < 4) : fRo F (f0 F) m l a b c 9 := ⟨f0_th (by decide) (by decide), f0_cm (f0_W (ha (by decide)) f0_1 (fun b _ z => Or.inr (Or.inl z)))⟩
theorem f0_r10 {F : iv_F} {m l a b c : Nat} (ha : ((6 ≤ 10 ∧ 10 ≤ 20) ∨ 10 = 25 ∨ 10 = 27 → a < 8)) (hb : (10 ≤ 10 ∧ 10 ≤ 20) → b < 8 ∨ 10 = 17 ∨ 10 = 19) (_hc : 10 = 21 → c < 8) (_h30 : 10 = 30 → a < 4) : fRo F (f0 F) m l a b c 10 := f0_pa (Or.inl rfl) ((hb (by decide)).resolve_right (by decide)) (ha (by decide))
theorem f0_r11 {F : iv_F} {m l a b c : Nat} (ha : ((6 ≤ 11 ∧ 11 ≤ 20) ∨ 11 = 25 ∨ 11 = 27 → a < 8)) (_hb : (10 ≤ 11 ∧ 11 ≤ 20) → b < 8 ∨ 11 = 17 ∨ 11 = 19) (_hc : 11 = 21 → c < 8) (_h30 : 11 = 30 → a < 4) : fRo F (f0 F) m l a b c 11 := f0_pa (Or.inr rfl) (ha (by decide)) (ha (by decide))
theorem f0_r12 {F : iv_F} {m l a b c : Nat} (ha : ((6 ≤ 12 ∧ 12 ≤ 20) ∨ 12 = 25 ∨ 12 = 27 → a < 8)) (hb : (10 ≤ 12 ∧ 12 ≤ 20) → b < 8 ∨ 12 = 17 ∨ 12 = 19) (_hc : 12 = 21 → c < 8) (_h30 : 12 = 30 → a < 4) : fRo F (f0 F) m l a b c 12 := f0_pa (Or.inl rfl) ((hb (by decide)).resolve_right (by decide)) (ha (by decide))
theorem f0_r13 {F : iv_F} {m l a b c : Nat} (ha : ((6 ≤ 13 ∧ 13 ≤ 20) ∨ 13 = 25 ∨ 13 = 27 → a < 8)) (_hb : (10 ≤ 13 ∧ 13 ≤ 20) → b < 8 ∨ 13 = 17 ∨ 13 = 19) (_hc : 13 = 21 → c < 8) (_h30 : 13 = 30 → a < 4) : fRo F (f0 F) m l a b c 13 := f0_pa (Or.inr rfl) (ha (by decide)) (ha (by decide))
theorem f0_r14 {F : iv_F} {m l a b c : Nat} (ha : ((6 ≤ 14 ∧ 14 ≤ 20) ∨ 14 = 25 ∨ 14 = 27 → a < 8)) (hb : (10 ≤ 14 ∧ 14 ≤ 20) → b < 8 ∨ 14 = 17 ∨ 14 = 19) (_hc : 14 = 21 → c < 8) (_h30 : 14 = 30 → a < 4) : fRo F (f0 F) m l a b c 14 := f0_pa (Or.inl rfl) ((hb (by decide)).resolve_right (by decide)) (ha (by decide))
theorem f0_r15 {F : iv_F} {m l a b c : Nat} (ha : ((6 ≤ 15 ∧ 15 ≤ 20) ∨ 15 = 25 ∨ 15 = 27 → a < 8)) (_hb : (10 ≤ 15 ∧ 15 ≤ 20) → b < 8 ∨ 15 = 17 ∨ 15 = 19) (_hc : 15 = 21 → c < 8) (_h30 : 15 = 30 → a < 4) : fRo F (f0 F) m l a b c 15 := f0_pa (Or.inr rfl) (ha (by decide)) (ha (by decide))
theorem f0_r16 {F : iv_F} {m l a b c : Nat} (_ha : ((6 ≤ 16 ∧ 16 ≤ 20) ∨ 16 = 25 ∨ 16 = 27 → a < 8)) (hb : (10 ≤ 16 ∧ 16 ≤ 20) → b < 8 ∨ 16 = 17 ∨ 16 = 19) (_hc : 16 = 21 → c < 8) (_h30 : 16 = 30 → a < 4) : fRo F (f0 F) m l a b c 16 := ⟨fun w _ _ p (hp : p = 16 + b) => show p < 25 by have := (hb (by decide)).resolve_right (by decide); omega, f0_cm f0_1⟩
theorem f0_r17 {F : iv_F} {m l a b c : Nat} (ha : ((6 ≤ 17 ∧ 17 ≤ 20) ∨ 17 = 25 ∨ 17 = 27 → a < 8)) (_hb : (10 ≤ 17 ∧ 17 ≤ 20) → b < 8 ∨ 17 = 17 ∨ 17 = 19) (_hc : 17 = 21 → c < 8) (_h30 : 17 = 30 → a < 4) : fRo F (f0 F) m l a b c 17 := ⟨fun w _ _ p (hp : p = 16 + a) => show p < 25 by have := ha (by decide); omega, f0_cm f0_1⟩
theorem f0_r18 {F : iv_F} {m l a b c : Nat} (ha : ((6 ≤ 18 ∧ 18 ≤ 20) ∨ 18 = 25 ∨ 18 = 27 → a < 8)) (hb : (10 ≤ 18 ∧ 18 ≤ 20) → b < 8 ∨ 18 = 17 ∨ 18 = 19) (_hc : 18 = 21 → c < 8) (_h30 : 18 = 30 → a < 4) : fRo F (f0 F) m l a b c 18 := ⟨fun w _ _ p (hp : p = 16 + b) => show p < 25 by have := (hb (by decide)).resolve_right (by decide); omega, f0_cm (f0_W (ha (by decide)) f0_1 (fun b _ z => z.elim (fun z => Or.inl z) (fun z => Or.inr (Or.inr (Or.inl z)))))⟩
theorem f0_r19 {F : iv_F} {m l a b c : Nat} (ha : ((6 ≤ 19 ∧ 19 ≤ 20) ∨ 19 = 25 ∨ 19 = 27 → a < 8)) (_hb : (10 ≤ 19 ∧ 19 ≤ 20) → b < 8 ∨ 19 = 17 ∨ 19 = 19) (_hc : 19 = 21 → c < 8) (_h30 : 19 = 30 → a < 4) : fRo F (f0 F) m l a b c 19 := ⟨fun w _ _ p (hp : p = 16 + a) => show p < 25 by have := ha (by decide); omega, f0_cm f0_1⟩
theorem f0_r20 {F : iv_F} {m l a b c : Nat} (ha : ((6 ≤ 20 ∧ 20 ≤ 20) ∨ 20 = 25 ∨ 20 = 27 → a < 8)) (hb : (10 ≤ 20 ∧ 20 ≤ 20) → b < 8 ∨ 20 = 17 ∨ 20 = 19) (_hc : 20 = 21 → c < 8) (_h30 : 20 = 30 → a < 4) : fRo F (f0 F) m l a b c 20 := f0_pa (Or.inl rfl) ((hb (by decide)).resolve_right (by decide)) (ha (by decide))
theorem f0_r21 {F : iv_F} {m l a b c : Nat} (_ha : ((6 ≤ 21 ∧ 21 ≤ 20) ∨ 21 = 25 ∨ 21 = 27 → a < 8)) (_hb : (10 ≤ 21 ∧ 21 ≤ 20) → b < 8 ∨ 21 = 17 ∨ 21 = 19) (hc : 21 = 21 → c < 8) (_h30 : 21 = 30 → a < 4) : fRo F (f0 F) m l a b c 21 := ⟨fun k _ => ⟨fun w _ _ p hp => f0_6.mpr (f0_6.mp hp), fun w _ _ p hp => f0_7.mpr (f0_7.mp hp)⟩, ⟨fun w _ _ p hp => f0_6.mpr (f0_6.mp hp), fun w _ _ p hp => f0_7.mpr (f0_7.mp hp)⟩, fun _ => trivial, fun _ => ⟨fun _ => f0_cm f0_1, fun _ => f0_cm (f0_W (hc rfl) f0_1 (fun i _ z => f0_S z))⟩, fun f f1 f2 _ => f0_th f1 f2⟩
theorem f0_r22 {F : iv_F} {m l a b c : Nat} (_ha : ((6 ≤ 22 ∧ 22 ≤ 20) ∨ 22 = 25 ∨ 22 = 27 → a < 8)) (_hb : (10 ≤ 22 ∧ 22 ≤ 20) → b < 8 ∨ 22 = 17 ∨ 22 = 19) (_hc : 22 = 21 → c < 8) (_h30 : 22 = 30 → a < 4) : fRo F (f0 F) m l a b c 22 := ⟨trivial, f0_cm f0_1⟩
theorem f0_r23 {F : iv_F} {m l a b c : Nat} (_ha : ((6 ≤ 23 ∧ 23 ≤ 20) ∨ 23 = 25 ∨ 23 = 27 → a < 8)) (_hb : (10 ≤ 23 ∧ 23 ≤ 20) → b < 8 ∨ 23 = 17 ∨ 23 = 19) (_hc : 23 = 21 → c < 8) (_h30 : 23 = 30 → a < 4) : fRo F (f0 F) m l a b c 23 := ⟨f0_cm f0_1, f0_cm f0_1⟩
theorem f0_r24 {F : iv_F} {m l a b c : Nat} (_ha : ((6 ≤ 24 ∧ 24 ≤ 20) ∨ 24 = 25 ∨ 24 = 27 → a < 8)) (_hb : (10 ≤ 24 ∧ 24 ≤ 20) → b < 8 ∨ 24 = 17 ∨ 24 = 19) (_hc : 24 = 21 → c < 8) (_h30 : 24 = 30 → a < 4) : fRo F (f0 F) m l a b c 24 := ⟨f0_cm f0_1, f0_cm f0_1⟩
theorem f0_r25 {F : iv_F} {m l a b c : Nat} (ha : ((6 ≤ 25 ∧ 25 ≤ 20) ∨ 25 = 25 ∨ 25 = 27 → a < 8)) (_hb : (10 ≤ 25 ∧ 25 ≤ 20) → b < 8 ∨ 25 = 17 ∨ 25 = 19) (_hc : 25 = 21 → c < 8) (_h30 : 25 = 30 → a < 4) : fRo F (f0 F) m l a b c 25 := ⟨fun _ => f0_cm (f0_W (ha (by decide)) f0_1 (fun b _ z => Or.inl z)), fun _ => f0_cm (f0_W (ha (by decide)) f0_1 (fun b _ z => f0_L z.2))⟩
theorem f0_r26 {F : iv_F} {m l a b c : Nat} (_ha : ((6 ≤ 26 ∧ 26 ≤ 20) ∨ 26 = 25 ∨ 26 = 27 → a < 8)) (_hb : (10 ≤ 26 ∧ 26 ≤ 20) → b < 8 ∨ 26 = 17 ∨ 26 = 19) (_hc : 26 = 21 → c < 8) (_h30 : 26 = 30 → a < 4) : fRo F (f0 F) m l a b c 26 := ⟨f0_cm f0_1, f0_cm f0_1⟩
theorem f0_r27 {F : iv_F} {m l a b c : Nat} (ha : ((6 ≤ 27 ∧ 27 ≤ 20) ∨ 27 = 25 ∨ 27 = 27 → a < 8)) (_hb : (10 ≤ 27 ∧ 27 ≤ 20) → b < 8 ∨ 27 = 17 ∨ 27 = 19) (_hc : 27 = 21 → c < 8) (_h30 : 27 = 30 → a < 4) : fRo F (f0 F) m l a b c 27 := ⟨fun _ => f0_cm (f0_W (ha (by decide)) f0_1 (fun b _ z => f0_L z.2)), fun _ => f0_cm f0_1⟩
theorem f0_r28 {F : iv_F} {m l a b c : Nat} (_ha : ((6 ≤ 28 ∧ 28 ≤ 20) ∨ 28 = 25 ∨ 28 = 27 → a < 8)) (_hb : (10 ≤ 28 ∧ 28 ≤ 20) → b < 8 ∨ 28 = 17 ∨ 28 = 19) (_hc : 28 = 21 → c < 8) (_h30 : 28 = 30 → a < 4) : fRo F (f0 F) m l a b c 28 := f0_cm f0_1
theorem f0_r29 {F : iv_F} {m l a b c : Nat} (_ha : ((6 ≤ 29 ∧ 29 ≤ 20) ∨ 29 = 25 ∨ 29 = 27 → a < 8)) (_hb : (10 ≤ 29 ∧ 29 ≤ 20) → b < 8 ∨ 29 = 17 ∨ 29 = 19) (_hc : 29 = 21 → c < 8) (_h30 : 29 = 30 → a < 4) : fRo F (f0 F) m l a b c 29 := ⟨fun _ => f0_th (by decide) (by decide), f0_cm f0_1⟩
theorem f0_r30 {F : iv_F} {m l a b c : Nat} (_ha : ((6 ≤ 30 ∧ 30 ≤ 20) ∨ 30 = 25 ∨ 30 = 27 → a < 8)) (_hb : (10 ≤ 30 ∧ 30 ≤ 20) → b < 8 ∨ 30 = 17 ∨ 30 = 19) (_hc : 30 = 21 → c < 8) (h30 : 30 = 30 → a < 4) : fRo F (f0 F) m l a b c 30 := f0_th (by omega) (by have := h30 rfl; omega)
theorem f0_r31 {F : iv_F} {m l a b c : Nat} (_ha : ((6 ≤ 31 ∧ 31 ≤ 20) ∨ 31 = 25 ∨ 31 = 27 → a < 8)) (_hb : (10 ≤ 31 ∧ 31 ≤ 20) → b < 8 ∨ 31 = 17 ∨ 31 = 19) (_hc : 31 = 21 → c < 8) (_h30 : 31 = 30 → a < 4) : fRo F (f0 F) m l a b c 31 := ⟨trivial, fun z i hi => ⟨z, f0_L hi⟩⟩
theorem f0_ro {F : iv_F} {m l a b c : Nat} (o : Nat) (ho : o < 32) (ha : (6 ≤ o ∧ o ≤ 20) ∨ o = 25 ∨ o = 27 → a < 8) (hb : (10 ≤ o ∧ o ≤ 20) → b < 8 ∨ o = 17 ∨ o = 19) (hc : o = 21 → c < 8) (h3 : o = 30 → a < 4) : fRo F (f0 F) m l a b c o := by
  have h : o = 0 ∨ o = 1 ∨ o = 2 ∨ o = 3 ∨ o = 4 ∨ o = 5 ∨ o = 6 ∨ o = 7 ∨ o = 8 ∨ o = 9 ∨ o = 10 ∨ o = 11 ∨ o = 12 ∨ o = 13 ∨ o = 14 ∨ o = 15 ∨ o = 16 ∨ o = 17 ∨ o = 18 ∨ o = 19 ∨ o = 20 ∨ o = 21 ∨ o = 22 ∨ o = 23 ∨ o = 24 ∨ o = 25 ∨ o = 26 ∨ o = 27 ∨ o = 28 ∨ o = 29 ∨ o = 30 ∨ o = 31 := by omega
  rcases h with rfl | rfl | rfl | rfl | rfl | rfl | rfl | rfl | rfl | rfl | rfl | rfl | rfl | rfl | rfl | rfl | rfl | rfl | rfl | rfl | rfl | rfl | rfl | rfl | rfl | rfl | rfl | rfl | rfl | rfl | rfl | rfl
  · exact f0_r0 ha hb hc h3
  · exact f0_r1 ha hb hc h3
  · exact f0_r2 ha hb hc h3
  · exact f0_r3 ha hb hc h3
  · exact f0_r4 ha hb hc h3
  · exact f0_r5 ha hb hc h3
  · exact f0_r6 ha hb hc h3
  · exact f0_r7 ha hb hc h3
  · exact f0_r8 ha hb hc h3
  · exact f0_r9 ha hb hc h3
  · exact f0_r10 ha hb hc h3
  · exact f0_r11 ha hb hc h3
  · exact f0_r12 ha hb hc h3
  · exact f0_r13 ha hb hc h3
  · exact f0_r14 ha hb hc h3
  · exact f0_r15 ha hb hc h3
  · exact f0_r16 ha hb hc h3
  · exact f0_r17 ha hb hc h3
  · exact f0_r18 ha hb hc h3
  · exact f0_r19 ha hb hc h3
  · exact f0_r20 ha hb hc h3
  · exact f0_r21 ha hb hc h3
  · exact f0_r22 ha hb hc h3
  · exact f0_r23 ha hb hc h3
  · exact f0_r24 ha hb hc h3
  · exact f0_r25 ha hb hc h3
  · exact f0_r26 ha hb hc h3
  · exact f0_r27 ha hb hc h3
  · exact f0_r28 ha hb hc h3
  · exact f0_r29 ha hb hc h3
  · exact f0_r30 ha hb hc h3
  · exact f0_r31 ha hb hc h3
theorem qz_Wf : ∀ o, o < 32 → ((6 ≤ o ∧ o ≤ 20) ∨ o = 25 ∨ o = 27 → qz_W (3 * o) = 1 ∨ qz_W (3 * o) = 5 ∨ qz_W (3 * o) = 6) ∧ ((10 ≤ o ∧ o ≤ 20) → (qz_W (3 * o + 1) = 1 ∨ qz_W (3 * o + 1) = 5 ∨ qz_W (3 * o + 1) = 6) ∨ o = 17 ∨ o = 19) ∧ (o = 21 → qz_W (3 * o + 2) = 1) ∧ (o = 30 → qz_W (3 * o) = 9) := by decide +kernel
theorem fOk_8 {nt nf ns nm k x : Nat} (bs : ns ≤ 8) (h : fOk nt nf ns nm k x) (hk : k = 1 ∨ k = 5 ∨ k = 6) : x < 8 := hk.elim h.1 (fun z => Nat.lt_of_lt_of_le (h.2.1 z) bs)
theorem f0_cl {F : iv_F} {nt nf ns nm : Nat} (bt : nt ≤ 8) (bf : nf ≤ 16) (bs : ns ≤ 8) (bm : nm ≤ 10) (h : iv_ln F nt nf ns nm) (hq : ∀ m, m < nm → (F 7 m).toNatClampNeg ≤ 3) : fCl F nm (f0 F) := by
  intro m hm
  refine ⟨f0_cm fun i hi => ⟨hi.1, hi.2.elim (fun z => Or.inl z) (fun z => Or.inr (Or.inr (Or.inr ⟨by omega, by omega⟩)))⟩, fun l hl _ => ?_⟩
  obtain ⟨o, ho, e, h1, h2, h3, -⟩ := fOp h hm hl
  unfold fRu
  rw [e, nI_clamp (by omega)]
  have g1 := fOk_of bt bf bs bm _ (qz_Wn _ (by omega)).2 h1
  have g2 := fOk_of bt bf bs bm _ (qz_Wn _ (by omega)).2 h2
  have g3 := fOk_of bt bf bs bm _ (qz_Wn _ (by omega)).2 h3
  obtain ⟨w1, w2, w3, w4⟩ := qz_Wf o ho
  exact f0_ro o ho (fun z => fOk_8 bs g1 (w1 z)) (fun z => (w2 z).imp (fOk_8 bs g2) id) (fun z => g3.1 (w3 z)) (fun z => g1.2.2.1 (w4 z))
theorem fD_0 {F : iv_F} {nt nf ns nm : Nat} (bt : nt ≤ 8) (bf : nf ≤ 16) (bs : ns ≤ 8) (bm : nm ≤ 10) (h : iv_ln F nt nf ns nm) (hq : ∀ m, m < nm → (F 7 m).toNatClampNeg ≤ 3) {k m x i : Nat} (z : fD F nm k m x i) : f0 F k m x i := z _ (f0_cl bt bf bs bm h hq)
/-! ===== growth: words that only gain bits, and the flag that tells of it ===== -/
/-- cells b to b + n - 1, of R words at most; the flag stands at p, q -/
def fr_mo (b n : Nat) (σ σ' : pz_Sg) : Prop := (∀ j i, bq (σ.2 32 j) i = true → bq (σ'.2 32 j) i = true) ∧ ∀ a, a < n → ∀ j i, bt (σ.1 (b + a) j) i = true → bt (σ'.1 (b + a) j) i = true
def fr_sa (b n : Nat) (σ σ' : pz_Sg) : Prop := σ'.2 32 = σ.2 32 ∧ ∀ a, a < n → σ'.1 (b + a) = σ.1 (b + a)
def fr_rg (b n R : Nat) (σ σ' : pz_Sg) : Prop := (∀ j, 240 ≤ j → σ'.2 32 j = σ.2 32 j) ∧ (∀ a, a < n → ∀ j, R ≤ j → σ'.1 (b + a) j = σ.1 (b + a) j) ∧ (b = 80 → σ'.2 = σ.2)
def fr (b n R p q : Nat) (σ σ' : pz_Sg) : Prop := fr_mo b n σ σ' ∧ fr_rg b n R σ σ' ∧ ((fr_sa b n σ σ' ∧ σ'.1 p q = σ.1 p q) ∨ (¬ fr_sa b n σ σ' ∧ σ'.1 p q = 1))
theorem fr_refl {b n R p q : Nat} {σ : pz_Sg} : fr b n R p q σ σ := ⟨⟨fun _ _ h => h, fun _ _ _ _ h => h⟩, ⟨fun _ _ => rfl, fun _ _ _ _ => rfl, fun _ => rfl⟩, Or.inl ⟨⟨rfl, fun _ _ => rfl⟩, rfl⟩⟩
theorem fr_trans {b n R p q : Nat} {σ σ1 σ2 : pz_Sg} (h1 : fr b n R p q σ σ1) (h2 : fr b n R p q σ1 σ2) : fr b n R p q σ σ2 := by
  obtain ⟨⟨m1, m2⟩, ⟨r1, r2, r5⟩, c1⟩ := h1
  obtain ⟨⟨m3, m4⟩, ⟨r3, r4, r6⟩, c2⟩ := h2
  refine ⟨⟨fun j i h => m3 j i (m1 j i h), fun a ha j i h => m4 a ha j i (m2 a ha j i h)⟩, ⟨fun j hj => (r3 j hj).trans (r1 j hj), fun a ha j hj => (r4 a ha j hj).trans (r2 a ha j hj), fun e => (r6 e).trans (r5 e)⟩, ?_⟩
  rcases c1 with ⟨⟨s1, s2⟩, e1⟩ | ⟨n1, e1⟩
  · rcases c2 with ⟨⟨s3, s4⟩, e2⟩ | ⟨n2, e2⟩
    · exact Or.inl ⟨⟨s3.trans s1, fun a ha => (s4 a ha).trans (s2 a ha)⟩, e2.trans e1⟩
    · exact Or.inr ⟨fun z => n2 ⟨z.1.trans s1.symm, fun a ha => (z.2 a ha).trans (s2 a ha).symm⟩, e2⟩
  · refine Or.inr ⟨fun z => n1 ⟨?_, fun a ha => ?_⟩, ?_⟩
    · funext j
      refine q_ext fun i _ => ?_
      have u := m1 j i
      have v := m3 j i
      rw [z.1] at v
      cases x : bq (σ1.2 32 j) i <;> cases y : bq (σ.2 32 j) i
      · rfl
      · exact absurd (u y) (by rw [x]; decide)
      · exact absurd (v x) (by rw [y]; decide)
      · rfl
    · funext j
      refine b_ext fun i _ => ?_
      have u := m2 a ha j i
      have v := m4 a ha j i
      rw [z.2 a ha] at v
      cases x : bt (σ1.1 (b + a) j) i <;> cases y : bt (σ.1 (b + a) j) i
      · rfl
      · exact absurd (u y) (by rw [x]; decide)
      · exact absurd (v x) (by rw [y]; decide)
      · rfl
    · rcases c2 with ⟨-, e2⟩ | ⟨-, e2⟩
      · exact e2.trans e1
      · exact e2
/-- how many of the first N are not -/
def fcz (P : Nat → Bool) : Nat → Nat
  | 0 => 0
  | n + 1 => fcz P n + (if P n = true then 0 else 1)
theorem fcz_le {P : Nat → Bool} : ∀ n, fcz P n ≤ n
  | 0 => Nat.le_refl _
  | n + 1 => by
    unfold fcz
    have := fcz_le (P := P) n
    split <;> omega
theorem fcz_m {P Q : Nat → Bool} (h : ∀ t, P t = true → Q t = true) : ∀ n, fcz Q n ≤ fcz P n
  | 0 => Nat.le_refl _
  | n + 1 => by
    unfold fcz
    have := fcz_m h n
    by_cases z : P n = true
    · rw [if_pos z, if_pos (h n z)]
      omega
    · rw [if_neg z]
      split <;> omega
theorem fcz_s {P Q : Nat → Bool} (h : ∀ t, P t = true → Q t = true) : ∀ n t, t < n → Q t = true → ¬ P t = true → fcz Q n < fcz P n
  | 0, t, ht, _, _ => absurd ht (Nat.not_lt_zero _)
  | n + 1, t, ht, hq, hp => by
    unfold fcz
    by_cases e : t = n
    · subst e
      have := fcz_m h t
      rw [if_pos hq, if_neg hp]
      omega
    · have := fcz_s h n t (by omega) hq hp
      by_cases z : P n = true
      · rw [if_pos z, if_pos (h n z)]
        omega
      · rw [if_neg z]
        split <;> omega
/-- what could still be gained -/
def fms (b n R : Nat) (σ : pz_Sg) : Nat := fcz (fun t => bt (σ.1 (b + t / (R * 32)) (t / 32 % R)) (t % 32)) (n * (R * 32)) + fcz (fun t => bq (σ.2 32 (t / 64)) (t % 64)) 15360
theorem fms_le {b n R : Nat} {σ : pz_Sg} : fms b n R σ ≤ n * (R * 32) + 15360 := Nat.add_le_add (fcz_le _) (fcz_le _)
theorem fr_ms {b n R p q : Nat} {σ σ' : pz_Sg} (hR : 0 < R) (h : fr b n R p q σ σ') (hn : ¬ fr_sa b n σ σ') : fms b n R σ' < fms b n R σ := by
  obtain ⟨⟨m1, m2⟩, ⟨r1, r2, -⟩, -⟩ := h
  have M1 : ∀ t, t < n * (R * 32) → bt (σ.1 (b + t / (R * 32)) (t / 32 % R)) (t % 32) = true → bt (σ'.1 (b + t / (R * 32)) (t / 32 % R)) (t % 32) = true := fun t ht h => m2 _ (Nat.div_lt_of_lt_mul (by rw [Nat.mul_comm]; exact ht)) _ _ h
  -- beyond the cells nothing is asked
  have fix : ∀ (s s' : pz_Sg) (N : Nat), (∀ t, t < N → bt (s.1 (b + t / (R * 32)) (t / 32 % R)) (t % 32) = true → bt (s'.1 (b + t / (R * 32)) (t / 32 % R)) (t % 32) = true) → fcz (fun t => bt (s'.1 (b + t / (R * 32)) (t / 32 % R)) (t % 32)) N ≤ fcz (fun t => bt (s.1 (b + t / (R * 32)) (t / 32 % R)) (t % 32)) N ∧ ∀ t, t < N → bt (s'.1 (b + t / (R * 32)) (t / 32 % R)) (t % 32) = true → ¬ bt (s.1 (b + t / (R * 32)) (t / 32 % R)) (t % 32) = true → fcz (fun t => bt (s'.1 (b + t / (R * 32)) (t / 32 % R)) (t % 32)) N < fcz (fun t => bt (s.1 (b + t / (R * 32)) (t / 32 % R)) (t % 32)) N := by
    intro s s' N
    induction N with
    | zero => intro _; exact ⟨Nat.le_refl _, fun t ht => absurd ht (Nat.not_lt_zero _)⟩
    | succ N ih =>
      intro H
      obtain ⟨i1, i2⟩ := ih fun t ht => H t (by omega)
      have HN := H N (by omega)
      unfold fcz
      constructor
      · by_cases z : bt (s.1 (b + N / (R * 32)) (N / 32 % R)) (N % 32) = true
        · rw [if_pos z, if_pos (HN z)]; omega
        · rw [if_neg z]; split <;> omega
      · intro t ht y1 y2
        by_cases e : t = N
        · subst e
          rw [if_pos y1, if_neg y2]; omega
        · have := i2 t (by omega) y1 y2
          by_cases z : bt (s.1 (b + N / (R * 32)) (N / 32 % R)) (N % 32) = true
          · rw [if_pos z, if_pos (HN z)]; omega
          · rw [if_neg z]; split <;> omega
  obtain ⟨A1, A2⟩ := fix σ σ' (n * (R * 32)) M1
  have B1 := fcz_m (P := fun t => bq (σ.2 32 (t / 64)) (t % 64)) (Q := fun t => bq (σ'.2 32 (t / 64)) (t % 64)) (fun t h => m1 _ _ h) 15360
  unfold fms
  by_cases c1 : ∃ j i, i < 64 ∧ bq (σ'.2 32 j) i = true ∧ ¬ bq (σ.2 32 j) i = true
  · obtain ⟨j, i, hi, y1, y2⟩ := c1
    have hj : j < 240 := Nat.not_le.mp fun z => y2 (by rw [← r1 j z]; exact y1)
    have := fcz_s (P := fun t => bq (σ.2 32 (t / 64)) (t % 64)) (Q := fun t => bq (σ'.2 32 (t / 64)) (t % 64)) (fun t h => m1 _ _ h) 15360 (j * 64 + i) (by omega) (by show bq (σ'.2 32 ((j * 64 + i) / 64)) ((j * 64 + i) % 64) = true; rw [show (j * 64 + i) / 64 = j by omega, show (j * 64 + i) % 64 = i by omega]; exact y1) (by show ¬ bq (σ.2 32 ((j * 64 + i) / 64)) ((j * 64 + i) % 64) = true; rw [show (j * 64 + i) / 64 = j by omega, show (j * 64 + i) % 64 = i by omega]; exact y2)
    omega
  · by_cases c2 : ∃ a j i, a < n ∧ i < 32 ∧ bt (σ'.1 (b + a) j) i = true ∧ ¬ bt (σ.1 (b + a) j) i = true
    · obtain ⟨a, j, i, ha, hi, y1, y2⟩ := c2
      have hj : j < R := Nat.not_le.mp fun z => y2 (by rw [← r2 a ha j z]; exact y1)
      have e1 : ((a * R + j) * 32 + i) / (R * 32) = a := by
        rw [Nat.mul_comm R 32, ← Nat.div_div_eq_div_mul, show ((a * R + j) * 32 + i) / 32 = a * R + j by omega, Nat.mul_comm a R, Nat.mul_add_div hR, Nat.div_eq_of_lt hj, Nat.add_zero]
      have e2 : ((a * R + j) * 32 + i) / 32 % R = j := by
        rw [show ((a * R + j) * 32 + i) / 32 = a * R + j by omega, Nat.mul_comm a R, Nat.mul_add_mod, Nat.mod_eq_of_lt hj]
      have e3 : ((a * R + j) * 32 + i) % 32 = i := by omega
      have lt : (a * R + j) * 32 + i < n * (R * 32) := by
        have k1 : a * R + j < n * R := Nat.lt_of_lt_of_le (Nat.add_lt_add_left hj _) (by rw [← Nat.succ_mul]; exact Nat.mul_le_mul_right R ha)
        rw [← Nat.mul_assoc]
        omega
      have := A2 ((a * R + j) * 32 + i) lt (by rw [e1, e2, e3]; exact y1) (by rw [e1, e2, e3]; exact y2)
      omega
    · refine absurd ⟨?_, fun a ha => ?_⟩ hn
      · funext j
        refine q_ext fun i hi => ?_
        cases x : bq (σ'.2 32 j) i <;> cases y : bq (σ.2 32 j) i
        · rfl
        · exact absurd (m1 j i y) (by rw [x]; decide)
        · exact absurd ⟨j, i, hi, x, by rw [y]; decide⟩ c1
        · rfl
      · funext j
        refine b_ext fun i hi => ?_
        cases x : bt (σ'.1 (b + a) j) i <;> cases y : bt (σ.1 (b + a) j) i
        · rfl
        · exact absurd (m2 a ha j i y) (by rw [x]; decide)
        · exact absurd ⟨a, j, i, ha, hi, x, by rw [y]; decide⟩ c2
        · rfl
/-- bits added to a word, and the flag -/
def fadd (p q : Nat) (σ : pz_Sg) (a j : Nat) (v : Int32) : pz_Sg := if σ.1 a j ||| v = σ.1 a j then σ else pz_up (pz_up σ a j (σ.1 a j ||| v)) p q 1
def fjoin (σ : pz_Sg) (j : Nat) (w : Int64) : pz_Sg := if σ.2 32 j ||| w = σ.2 32 j then σ else pz_up (pz_uq σ 32 j (σ.2 32 j ||| w)) 31 8 1
theorem fadd_y {p q : Nat} {σ : pz_Sg} {a j : Nat} {v : Int32} (h : σ.1 a j ||| v = σ.1 a j) : fadd p q σ a j v = σ := if_pos h
theorem fadd_n {p q : Nat} {σ : pz_Sg} {a j : Nat} {v : Int32} (h : ¬ σ.1 a j ||| v = σ.1 a j) : fadd p q σ a j v = pz_up (pz_up σ a j (σ.1 a j ||| v)) p q 1 := if_neg h
/-- other cells -/
theorem fadd_o {p q : Nat} {σ : pz_Sg} {a j : Nat} {v : Int32} {x : Nat} (h1 : x ≠ a) (h2 : x ≠ p) : (fadd p q σ a j v).1 x = σ.1 x := by
  unfold fadd
  split
  · rfl
  · rw [qz_rn _ _ _ _ h2, qz_rn _ _ _ _ h1]
theorem fadd_2 {p q : Nat} {σ : pz_Sg} {a j : Nat} {v : Int32} : (fadd p q σ a j v).2 = σ.2 := by
  unfold fadd
  split <;> rfl
theorem fadd_w {p q : Nat} {σ : pz_Sg} {a j : Nat} {v : Int32} (h : a ≠ p) (y : Nat) : (fadd p q σ a j v).1 a y = if y = j then σ.1 a j ||| v else σ.1 a y := by
  unfold fadd
  split
  · rename_i z
    split
    · rename_i e
      rw [e, z]
    · rfl
  · rw [qz_rn _ _ _ _ h, qz_rd]
    simp
theorem fadd_p {p q : Nat} {σ : pz_Sg} {a j : Nat} {v : Int32} (h : a ≠ p) {y : Nat} (hy : y ≠ q) : (fadd p q σ a j v).1 p y = σ.1 p y := by
  unfold fadd
  split
  · rfl
  · rw [qz_rd, if_neg (fun z => hy z.2), qz_rn _ _ _ _ (Ne.symm h)]
theorem fadd_fr {b n R p q : Nat} {σ : pz_Sg} {a j : Nat} {v : Int32} (ha : a < n) (hj : j < R) (hp : ∀ x, x < n → b + x ≠ p) : fr b n R p q σ (fadd p q σ (b + a) j v) := by
  by_cases h : σ.1 (b + a) j ||| v = σ.1 (b + a) j
  · rw [fadd_y h]
    exact fr_refl
  · refine ⟨⟨fun _ _ z => by rw [fadd_2]; exact z, fun x hx y i z => ?_⟩, ⟨fun _ _ => by rw [fadd_2], fun x hx y hy => ?_, fun _ => fadd_2⟩, Or.inr ⟨fun z => h ?_, ?_⟩⟩
    · by_cases e : x = a
      · subst e
        rw [fadd_w (hp x hx)]
        split
        · rename_i e
          rw [b_or, ← e, z, Bool.true_or]
        · exact z
      · rw [fadd_o (by omega) (hp x hx)]
        exact z
    · by_cases e : x = a
      · subst e
        rw [fadd_w (hp x hx), if_neg (by omega)]
      · rw [fadd_o (by omega) (hp x hx)]
    · have := congrFun (z.2 a ha) j
      rw [fadd_w (hp a ha), if_pos rfl] at this
      exact this
    · rw [fadd_n h, qz_rs]
theorem fjoin_1 {σ : pz_Sg} {j : Nat} {w : Int64} {x : Nat} (h : x ≠ 31) : (fjoin σ j w).1 x = σ.1 x := by
  unfold fjoin
  split
  · rfl
  · rw [qz_rn _ _ _ _ h]
    rfl
theorem fjoin_p {σ : pz_Sg} {j : Nat} {w : Int64} {y : Nat} (h : y ≠ 8) : (fjoin σ j w).1 31 y = σ.1 31 y := by
  unfold fjoin
  split
  · rfl
  · rw [qz_rd, if_neg (fun z => h z.2)]
    rfl
theorem fjoin_w {σ : pz_Sg} {j : Nat} {w : Int64} (y : Nat) : (fjoin σ j w).2 32 y = if y = j then σ.2 32 j ||| w else σ.2 32 y := by
  unfold fjoin
  split
  · rename_i z
    split
    · rename_i e
      rw [e, z]
    · rfl
  · show (if 32 = 32 ∧ y = j then _ else _) = _
    simp
theorem fjoin_fr {b n R : Nat} {σ : pz_Sg} {j : Nat} {w : Int64} (hb : b ≠ 80) (hj : j < 240) (hp : ∀ x, x < n → b + x ≠ 31) : fr b n R 31 8 σ (fjoin σ j w) := by
  by_cases h : σ.2 32 j ||| w = σ.2 32 j
  · rw [show fjoin σ j w = σ from if_pos h]
    exact fr_refl
  · refine ⟨⟨fun y i z => ?_, fun x hx y i z => by rw [fjoin_1 (hp x hx)]; exact z⟩, ⟨fun y hy => by rw [fjoin_w, if_neg (by omega)], fun x hx y hy => by rw [fjoin_1 (hp x hx)], fun e => absurd e hb⟩, Or.inr ⟨fun z => h ?_, ?_⟩⟩
    · rw [fjoin_w]
      split
      · rename_i e
        rw [q_or, ← e, z, Bool.true_or]
      · exact z
    · have := congrFun z.1 j
      rw [fjoin_w, if_pos rfl] at this
      exact this
    · rw [show fjoin σ j w = pz_up (pz_uq σ 32 j (σ.2 32 j ||| w)) 31 8 1 from if_neg h, qz_rs]
