/-! the operands of a LINE, as numbers -/
def fOk (nt nf ns nm k x : Nat) : Prop := (k = 1 → x < 8) ∧ (k = 5 ∨ k = 6 → x < ns) ∧ (k = 9 → x < 4) ∧ (k = 7 → x < nm) ∧ (k = 3 ∨ k = 4 → x < nf) ∧ (k = 8 → x < 25) ∧ (k = 2 → x < nt)
theorem vp_N {x : Int32} {n : Nat} (h : vp_in x n) (hn : n < 2 ^ 31) : x.toNatClampNeg < n ∧ x = nI x.toNatClampNeg := by
  obtain ⟨j, hj, rfl⟩ := vp_in_of h hn
  rw [nI_clamp (by omega)]
  exact ⟨hj, rfl⟩
theorem fOk_of {F : iv_F} {nt nf ns nm m : Nat} (bt : nt ≤ 8) (bf : nf ≤ 16) (bs : ns ≤ 8) (bm : nm ≤ 10) {x : Int32} : ∀ k, k < 11 → qz_su F nt nf ns nm m k x → fOk nt nf ns nm k x.toNatClampNeg
  | 0, _, _ => ⟨fun z => by omega, fun z => by omega, fun z => by omega, fun z => by omega, fun z => by omega, fun z => by omega, fun z => by omega⟩
  | 1, _, h => ⟨fun _ => (vp_N (n := 8) h (by omega)).1, fun z => by omega, fun z => by omega, fun z => by omega, fun z => by omega, fun z => by omega, fun z => by omega⟩
  | 2, _, h => ⟨fun z => by omega, fun z => by omega, fun z => by omega, fun z => by omega, fun z => by omega, fun z => by omega, fun _ => (vp_N (n := nt) h (by omega)).1⟩
  | 3, _, h => ⟨fun z => by omega, fun z => by omega, fun z => by omega, fun z => by omega, fun _ => (vp_N (n := nf) h.1 (by omega)).1, fun z => by omega, fun z => by omega⟩
  | 4, _, h => ⟨fun z => by omega, fun z => by omega, fun z => by omega, fun z => by omega, fun _ => (vp_N (n := nf) h.1 (by omega)).1, fun z => by omega, fun z => by omega⟩
  | 5, _, h => ⟨fun z => by omega, fun _ => (vp_N (n := ns) h.1 (by omega)).1, fun z => by omega, fun z => by omega, fun z => by omega, fun z => by omega, fun z => by omega⟩
  | 6, _, h => ⟨fun z => by omega, fun _ => (vp_N (n := ns) h.1 (by omega)).1, fun z => by omega, fun z => by omega, fun z => by omega, fun z => by omega, fun z => by omega⟩
  | 7, _, h => ⟨fun z => by omega, fun z => by omega, fun z => by omega, fun _ => (vp_N (n := nm) h (by omega)).1, fun z => by omega, fun z => by omega, fun z => by omega⟩
  | 8, _, h => ⟨fun z => by omega, fun z => by omega, fun z => by omega, fun z => by omega, fun z => by omega, fun _ => (vp_N (n := 25) h (by omega)).1, fun z => by omega⟩
  | 9, _, h => ⟨fun z => by omega, fun z => by omega, fun _ => (vp_N (n := 4) h (by omega)).1, fun z => by omega, fun z => by omega, fun z => by omega, fun z => by omega⟩
  | 10, _, _ => ⟨fun z => by omega, fun z => by omega, fun z => by omega, fun z => by omega, fun z => by omega, fun z => by omega, fun z => by omega⟩
  | n + 11, h, _ => absurd h (by omega)
/-- a LINE: its OP, and what is known of its operands -/
theorem fOp {F : iv_F} {nt nf ns nm m l : Nat} (h : iv_ln F nt nf ns nm) (hm : m < nm) (hl : l < (F 9 m).toNatClampNeg) : ∃ o, o < 32 ∧ F 10 (24 * m + l) = nI o ∧ qz_su F nt nf ns nm m (qz_W (3 * o)) (F 11 (24 * m + l)) ∧ qz_su F nt nf ns nm m (qz_W (3 * o + 1)) (F 12 (24 * m + l)) ∧ qz_su F nt nf ns nm m (qz_W (3 * o + 2)) (F 13 (24 * m + l)) ∧ (o = 21 → F 11 (24 * m + l) + F 6 (F 12 (24 * m + l)).toNatClampNeg ≤ nI 8 ∧ F 13 (24 * m + l) + F 7 (F 12 (24 * m + l)).toNatClampNeg ≤ nI 8) := by
  obtain ⟨-, h⟩ := h m hm l hl
  obtain ⟨o, ho, e⟩ := vp_in_of h.1 (by decide)
  rw [e] at h
  obtain ⟨h1, h2, h3, h4⟩ := (qz_ft ho).mp h
  exact ⟨o, ho, e, h1, h2, h3, h4⟩
theorem f0_ro {F : iv_F} {nt nf ns nm m l a b c : Nat} (bs : ns ≤ 8) : ∀ o, o < 32 → fOk nt nf ns nm (qz_W (3 * o)) a → fOk nt nf ns nm (qz_W (3 * o + 1)) b → fOk nt nf ns nm (qz_W (3 * o + 2)) c → fRo F (f0 F) m l a b c o
  | 0, _, _, _, _ => f0_cm f0_1
  | 1, _, _, _, _ => f0_cm f0_1
  | 2, _, _, _, _ => f0_cm f0_1
  | 3, _, _, _, _ => f0_cm f0_1
  | 4, _, _, _, _ => ⟨f0_th (by decide) (by decide), f0_cm f0_1⟩
  | 5, _, _, _, _ => ⟨f0_th (by decide) (by decide), f0_cm f0_1⟩
  | 6, _, ha, _, _ => f0_cm (f0_W (ha.1 rfl) f0_1 (fun b _ z => Or.inl z))
  | 7, _, ha, _, _ => f0_cm (f0_W (ha.1 rfl) f0_1 (fun b _ z => f0_L z))
  | 8, _, ha, _, _ => f0_cm (f0_W (ha.1 rfl) f0_1 (fun b _ z => Or.inr (Or.inl z)))
  | 9, _, ha, _, _ => ⟨f0_th (by decide) (by decide), f0_cm (f0_W (ha.1 rfl) f0_1 (fun b _ z => Or.inr (Or.inl z)))⟩
  | 10, _, ha, hb, _ => f0_pa (Or.inl rfl) (hb.1 rfl) (ha.1 rfl)
  | 11, _, ha, hb, _ => f0_pa (Or.inr rfl) (ha.1 rfl) (ha.1 rfl)
  | 12, _, ha, hb, _ => f0_pa (Or.inl rfl) (hb.1 rfl) (ha.1 rfl)
  | 13, _, ha, hb, _ => f0_pa (Or.inr rfl) (ha.1 rfl) (ha.1 rfl)
  | 14, _, ha, hb, _ => f0_pa (Or.inl rfl) (hb.1 rfl) (ha.1 rfl)
  | 15, _, ha, hb, _ => f0_pa (Or.inr rfl) (ha.1 rfl) (ha.1 rfl)
  | 16, _, _, hb, _ => ⟨fun w _ _ p (hp : p = 16 + b) => show p < 25 by have := hb.2.1 (Or.inl rfl); omega, f0_cm f0_1⟩
  | 17, _, ha, _, _ => ⟨fun w _ _ p (hp : p = 16 + a) => show p < 25 by have := ha.2.1 (Or.inl rfl); omega, f0_cm f0_1⟩
  | 18, _, ha, hb, _ => ⟨fun w _ _ p (hp : p = 16 + b) => show p < 25 by have := hb.2.1 (Or.inr rfl); omega, f0_cm (f0_W (ha.1 rfl) f0_1 (fun b _ z => z.elim (fun z => Or.inl z) (fun z => Or.inr (Or.inr (Or.inl z)))))⟩
  | 19, _, ha, _, _ => ⟨fun w _ _ p (hp : p = 16 + a) => show p < 25 by have := ha.2.1 (Or.inr rfl); omega, f0_cm f0_1⟩
  | 20, _, ha, hb, _ => f0_pa (Or.inl rfl) (hb.1 rfl) (ha.1 rfl)
  | 21, _, _, _, hc => ⟨fun k _ => ⟨fun w _ _ p hp => hp, fun w _ _ p hp => hp⟩, ⟨fun w _ _ p hp => hp, fun w _ _ p hp => hp⟩, fun _ => trivial, fun _ => ⟨fun _ => f0_cm f0_1, fun _ => f0_cm (f0_W (hc.1 rfl) f0_1 (fun i _ z => f0_S z))⟩, fun f f1 f2 _ => f0_th f1 f2⟩
  | 22, _, _, _, _ => ⟨trivial, f0_cm f0_1⟩
  | 23, _, _, _, _ => ⟨f0_cm f0_1, f0_cm f0_1⟩
  | 24, _, _, _, _ => ⟨f0_cm f0_1, f0_cm f0_1⟩
  | 25, _, ha, _, _ => ⟨fun _ => f0_cm (f0_W (ha.1 rfl) f0_1 (fun b _ z => Or.inl z)), fun _ => f0_cm (f0_W (ha.1 rfl) f0_1 (fun b _ z => f0_L z.2))⟩
  | 26, _, _, _, _ => ⟨f0_cm f0_1, f0_cm f0_1⟩
  | 27, _, ha, _, _ => ⟨fun _ => f0_cm (f0_W (ha.1 rfl) f0_1 (fun b _ z => f0_L z.2)), fun _ => f0_cm f0_1⟩
  | 28, _, _, _, _ => f0_cm f0_1
  | 29, _, _, _, _ => ⟨fun _ => f0_th (by decide) (by decide), f0_cm f0_1⟩
  | 30, _, ha, _, _ => f0_th (by omega) (by have := ha.2.2.1 rfl; omega)
  | 31, _, _, _, _ => ⟨trivial, fun z i hi => ⟨z, f0_L hi⟩⟩
  | n + 32, h, _, _, _ => absurd h (by omega)
theorem f0_cl {F : iv_F} {nt nf ns nm : Nat} (bt : nt ≤ 8) (bf : nf ≤ 16) (bs : ns ≤ 8) (bm : nm ≤ 10) (h : iv_ln F nt nf ns nm) (hq : ∀ m, m < nm → (F 7 m).toNatClampNeg ≤ 3) : fCl F nm (f0 F) := by
  intro m hm
  refine ⟨f0_cm fun i hi => ⟨hi.1, hi.2.elim (fun z => Or.inl z) (fun z => Or.inr (Or.inr (Or.inr ⟨by omega, by omega⟩)))⟩, fun l hl _ => ?_⟩
  obtain ⟨o, ho, e, h1, h2, h3, -⟩ := fOp h hm hl
  unfold fRu
  rw [e, nI_clamp (by omega)]
  exact f0_ro bs o ho (fOk_of bt bf bs bm _ (qz_Wn _ (by omega)).2 h1) (fOk_of bt bf bs bm _ (qz_Wn _ (by omega)).2 h2) (fOk_of bt bf bs bm _ (qz_Wn _ (by omega)).2 h3)
theorem fD_0 {F : iv_F} {nt nf ns nm : Nat} (bt : nt ≤ 8) (bf : nf ≤ 16) (bs : ns ≤ 8) (bm : nm ≤ 10) (h : iv_ln F nt nf ns nm) (hq : ∀ m, m < nm → (F 7 m).toNatClampNeg ≤ 3) {k m x i : Nat} (z : fD F nm k m x i) : f0 F k m x i := z _ (f0_cl bt bf bs bm h hq)
/-! ===== growth: words that only gain bits, and the flag that tells of it ===== -/
/-- cells b to b + n - 1, of R words at most; the flag stands at p, q -/
def fr_mo (b n : Nat) (σ σ' : pz_Sg) : Prop := (∀ j i, bq (σ.2 32 j) i = true → bq (σ'.2 32 j) i = true) ∧ ∀ a, a < n → ∀ j i, bt (σ.1 (b + a) j) i = true → bt (σ'.1 (b + a) j) i = true
def fr_sa (b n : Nat) (σ σ' : pz_Sg) : Prop := σ'.2 32 = σ.2 32 ∧ ∀ a, a < n → σ'.1 (b + a) = σ.1 (b + a)
def fr_rg (b n R : Nat) (σ σ' : pz_Sg) : Prop := (∀ j, 240 ≤ j → σ'.2 32 j = σ.2 32 j) ∧ ∀ a, a < n → ∀ j, R ≤ j → σ'.1 (b + a) j = σ.1 (b + a) j
def fr (b n R p q : Nat) (σ σ' : pz_Sg) : Prop := fr_mo b n σ σ' ∧ fr_rg b n R σ σ' ∧ ((fr_sa b n σ σ' ∧ σ'.1 p q = σ.1 p q) ∨ (¬ fr_sa b n σ σ' ∧ σ'.1 p q = 1))
theorem fr_refl {b n R p q : Nat} {σ : pz_Sg} : fr b n R p q σ σ := ⟨⟨fun _ _ h => h, fun _ _ _ _ h => h⟩, ⟨fun _ _ => rfl, fun _ _ _ _ => rfl⟩, Or.inl ⟨⟨rfl, fun _ _ => rfl⟩, rfl⟩⟩
theorem fr_trans {b n R p q : Nat} {σ σ1 σ2 : pz_Sg} (h1 : fr b n R p q σ σ1) (h2 : fr b n R p q σ1 σ2) : fr b n R p q σ σ2 := by
  obtain ⟨⟨m1, m2⟩, ⟨r1, r2⟩, c1⟩ := h1
  obtain ⟨⟨m3, m4⟩, ⟨r3, r4⟩, c2⟩ := h2
  refine ⟨⟨fun j i h => m3 j i (m1 j i h), fun a ha j i h => m4 a ha j i (m2 a ha j i h)⟩, ⟨fun j hj => (r3 j hj).trans (r1 j hj), fun a ha j hj => (r4 a ha j hj).trans (r2 a ha j hj)⟩, ?_⟩
  rcases c1 with ⟨⟨s1, s2⟩, e1⟩ | ⟨n1, e1⟩
  · rcases c2 with ⟨⟨s3, s4⟩, e2⟩ | ⟨n2, e2⟩
    · exact Or.inl ⟨⟨s3.trans s1, fun a ha => (s4 a ha).trans (s2 a ha)⟩, e2.trans e1⟩
    · exact Or.inr ⟨fun z => n2 ⟨z.1.trans s1.symm, fun a ha => (z.2 a ha).trans (s2 a ha).symm⟩, e2⟩
  · refine Or.inr ⟨fun z => n1 ⟨?_, fun a ha => ?_⟩, ?_⟩
    · funext j
      refine q_ext fun i _ => ?_
      have u := m1 j i
      have v := m3 j i
      rw [z.1] at v
      cases x : bq (σ1.2 32 j) i <;> cases y : bq (σ.2 32 j) i
      · rfl
      · exact absurd (u y) (by rw [x]; decide)
      · exact absurd (v x) (by rw [y]; decide)
      · rfl
    · funext j
      refine b_ext fun i _ => ?_
      have u := m2 a ha j i
      have v := m4 a ha j i
      rw [z.2 a ha] at v
      cases x : bt (σ1.1 (b + a) j) i <;> cases y : bt (σ.1 (b + a) j) i
      · rfl
      · exact absurd (u y) (by rw [x]; decide)
      · exact absurd (v x) (by rw [y]; decide)
      · rfl
    · rcases c2 with ⟨-, e2⟩ | ⟨-, e2⟩
      · exact e2.trans e1
      · exact e2
/-- how many of the first N are not -/
def fcz (P : Nat → Bool) : Nat → Nat
  | 0 => 0
  | n + 1 => fcz P n + (if P n = true then 0 else 1)
theorem fcz_le {P : Nat → Bool} : ∀ n, fcz P n ≤ n
  | 0 => Nat.le_refl _
  | n + 1 => by
    unfold fcz
    have := fcz_le (P := P) n
    split <;> omega
theorem fcz_m {P Q : Nat → Bool} (h : ∀ t, P t = true → Q t = true) : ∀ n, fcz Q n ≤ fcz P n
  | 0 => Nat.le_refl _
  | n + 1 => by
    unfold fcz
    have := fcz_m h n
    by_cases z : P n = true
    · rw [if_pos z, if_pos (h n z)]
      omega
    · rw [if_neg z]
      split <;> omega
theorem fcz_s {P Q : Nat → Bool} (h : ∀ t, P t = true → Q t = true) : ∀ n t, t < n → Q t = true → ¬ P t = true → fcz Q n < fcz P n
  | 0, t, ht, _, _ => absurd ht (Nat.not_lt_zero _)
  | n + 1, t, ht, hq, hp => by
    unfold fcz
    by_cases e : t = n
    · subst e
      have := fcz_m h t
      rw [if_pos hq, if_neg hp]
      omega
    · have := fcz_s h n t (by omega) hq hp
      by_cases z : P n = true
      · rw [if_pos z, if_pos (h n z)]
        omega
      · rw [if_neg z]
        split <;> omega
/-- what could still be gained -/
def fms (b n R : Nat) (σ : pz_Sg) : Nat := fcz (fun t => bt (σ.1 (b + t / (R * 32)) (t / 32 % R)) (t % 32)) (n * (R * 32)) + fcz (fun t => bq (σ.2 32 (t / 64)) (t % 64)) 15360
theorem fms_le {b n R : Nat} {σ : pz_Sg} : fms b n R σ ≤ n * (R * 32) + 15360 := Nat.add_le_add (fcz_le _) (fcz_le _)
theorem fr_ms {b n R p q : Nat} {σ σ' : pz_Sg} (hR : 0 < R) (h : fr b n R p q σ σ') (hn : ¬ fr_sa b n σ σ') : fms b n R σ' < fms b n R σ := by
  obtain ⟨⟨m1, m2⟩, ⟨r1, r2⟩, -⟩ := h
  have M1 : ∀ t, t < n * (R * 32) → bt (σ.1 (b + t / (R * 32)) (t / 32 % R)) (t % 32) = true → bt (σ'.1 (b + t / (R * 32)) (t / 32 % R)) (t % 32) = true := fun t ht h => m2 _ (Nat.div_lt_of_lt_mul (by rw [Nat.mul_comm]; exact ht)) _ _ h
  -- beyond the cells nothing is asked
  have fix : ∀ (s s' : pz_Sg) (N : Nat), (∀ t, t < N → bt (s.1 (b + t / (R * 32)) (t / 32 % R)) (t % 32) = true → bt (s'.1 (b + t / (R * 32)) (t / 32 % R)) (t % 32) = true) → fcz (fun t => bt (s'.1 (b + t / (R * 32)) (t / 32 % R)) (t % 32)) N ≤ fcz (fun t => bt (s.1 (b + t / (R * 32)) (t / 32 % R)) (t % 32)) N ∧ ∀ t, t < N → bt (s'.1 (b + t / (R * 32)) (t / 32 % R)) (t % 32) = true → ¬ bt (s.1 (b + t / (R * 32)) (t / 32 % R)) (t % 32) = true → fcz (fun t => bt (s'.1 (b + t / (R * 32)) (t / 32 % R)) (t % 32)) N < fcz (fun t => bt (s.1 (b + t / (R * 32)) (t / 32 % R)) (t % 32)) N := by
    intro s s' N
    induction N with
    | zero => intro _; exact ⟨Nat.le_refl _, fun t ht => absurd ht (Nat.not_lt_zero _)⟩
    | succ N ih =>
      intro H
      obtain ⟨i1, i2⟩ := ih fun t ht => H t (by omega)
      have HN := H N (by omega)
      unfold fcz
      constructor
      · by_cases z : bt (s.1 (b + N / (R * 32)) (N / 32 % R)) (N % 32) = true
        · rw [if_pos z, if_pos (HN z)]; omega
        · rw [if_neg z]; split <;> omega
      · intro t ht y1 y2
        by_cases e : t = N
        · subst e
          rw [if_pos y1, if_neg y2]; omega
        · have := i2 t (by omega) y1 y2
          by_cases z : bt (s.1 (b + N / (R * 32)) (N / 32 % R)) (N % 32) = true
          · rw [if_pos z, if_pos (HN z)]; omega
          · rw [if_neg z]; split <;> omega
  obtain ⟨A1, A2⟩ := fix σ σ' (n * (R * 32)) M1
  have B1 := fcz_m (P := fun t => bq (σ.2 32 (t / 64)) (t % 64)) (Q := fun t => bq (σ'.2 32 (t / 64)) (t % 64)) (fun t h => m1 _ _ h) 15360
  unfold fms
  by_cases c1 : ∃ j i, i < 64 ∧ bq (σ'.2 32 j) i = true ∧ ¬ bq (σ.2 32 j) i = true
  · obtain ⟨j, i, hi, y1, y2⟩ := c1
    have hj : j < 240 := Nat.not_le.mp fun z => y2 (by rw [← r1 j z]; exact y1)
    have := fcz_s (P := fun t => bq (σ.2 32 (t / 64)) (t % 64)) (Q := fun t => bq (σ'.2 32 (t / 64)) (t % 64)) (fun t h => m1 _ _ h) 15360 (j * 64 + i) (by omega) (by show bq (σ'.2 32 ((j * 64 + i) / 64)) ((j * 64 + i) % 64) = true; rw [show (j * 64 + i) / 64 = j by omega, show (j * 64 + i) % 64 = i by omega]; exact y1) (by show ¬ bq (σ.2 32 ((j * 64 + i) / 64)) ((j * 64 + i) % 64) = true; rw [show (j * 64 + i) / 64 = j by omega, show (j * 64 + i) % 64 = i by omega]; exact y2)
    omega
  · by_cases c2 : ∃ a j i, a < n ∧ i < 32 ∧ bt (σ'.1 (b + a) j) i = true ∧ ¬ bt (σ.1 (b + a) j) i = true
    · obtain ⟨a, j, i, ha, hi, y1, y2⟩ := c2
      have hj : j < R := Nat.not_le.mp fun z => y2 (by rw [← r2 a ha j z]; exact y1)
      have e1 : ((a * R + j) * 32 + i) / (R * 32) = a := by
        rw [Nat.mul_comm R 32, ← Nat.div_div_eq_div_mul, show ((a * R + j) * 32 + i) / 32 = a * R + j by omega, Nat.mul_comm a R, Nat.mul_add_div hR, Nat.div_eq_of_lt hj, Nat.add_zero]
      have e2 : ((a * R + j) * 32 + i) / 32 % R = j := by
        rw [show ((a * R + j) * 32 + i) / 32 = a * R + j by omega, Nat.mul_comm a R, Nat.mul_add_mod, Nat.mod_eq_of_lt hj]
      have e3 : ((a * R + j) * 32 + i) % 32 = i := by omega
      have lt : (a * R + j) * 32 + i < n * (R * 32) := by
        have k1 : a * R + j < n * R := Nat.lt_of_lt_of_le (Nat.add_lt_add_left hj _) (by rw [← Nat.succ_mul]; exact Nat.mul_le_mul_right R ha)
        rw [← Nat.mul_assoc]
        omega
      have := A2 ((a * R + j) * 32 + i) lt (by rw [e1, e2, e3]; exact y1) (by rw [e1, e2, e3]; exact y2)
      omega
    · refine absurd ⟨?_, fun a ha => ?_⟩ hn
      · funext j
        refine q_ext fun i hi => ?_
        cases x : bq (σ'.2 32 j) i <;> cases y : bq (σ.2 32 j) i
        · rfl
        · exact absurd (m1 j i y) (by rw [x]; decide)
        · exact absurd ⟨j, i, hi, x, by rw [y]; decide⟩ c1
        · rfl
      · funext j
        refine b_ext fun i hi => ?_
        cases x : bt (σ'.1 (b + a) j) i <;> cases y : bt (σ.1 (b + a) j) i
        · rfl
        · exact absurd (m2 a ha j i y) (by rw [x]; decide)
        · exact absurd ⟨a, j, i, ha, hi, x, by rw [y]; decide⟩ c2
        · rfl
/-- bits added to a word, and the flag -/
def fadd (p q : Nat) (σ : pz_Sg) (a j : Nat) (v : Int32) : pz_Sg := if σ.1 a j ||| v = σ.1 a j then σ else pz_up (pz_up σ a j (σ.1 a j ||| v)) p q 1
def fjoin (σ : pz_Sg) (j : Nat) (w : Int64) : pz_Sg := if σ.2 32 j ||| w = σ.2 32 j then σ else pz_up (pz_uq σ 32 j (σ.2 32 j ||| w)) 31 8 1
theorem fadd_y {p q : Nat} {σ : pz_Sg} {a j : Nat} {v : Int32} (h : σ.1 a j ||| v = σ.1 a j) : fadd p q σ a j v = σ := if_pos h
theorem fadd_n {p q : Nat} {σ : pz_Sg} {a j : Nat} {v : Int32} (h : ¬ σ.1 a j ||| v = σ.1 a j) : fadd p q σ a j v = pz_up (pz_up σ a j (σ.1 a j ||| v)) p q 1 := if_neg h
/-- other cells -/
theorem fadd_o {p q : Nat} {σ : pz_Sg} {a j : Nat} {v : Int32} {x : Nat} (h1 : x ≠ a) (h2 : x ≠ p) : (fadd p q σ a j v).1 x = σ.1 x := by
  unfold fadd
  split
  · rfl
  · rw [qz_rn _ _ _ _ h2, qz_rn _ _ _ _ h1]
theorem fadd_2 {p q : Nat} {σ : pz_Sg} {a j : Nat} {v : Int32} : (fadd p q σ a j v).2 = σ.2 := by
  unfold fadd
  split <;> rfl
theorem fadd_w {p q : Nat} {σ : pz_Sg} {a j : Nat} {v : Int32} (h : a ≠ p) (y : Nat) : (fadd p q σ a j v).1 a y = if y = j then σ.1 a j ||| v else σ.1 a y := by
  unfold fadd
  split
  · rename_i z
    split
    · rename_i e
      rw [e, z]
    · rfl
  · rw [qz_rn _ _ _ _ h, qz_rd]
    simp
theorem fadd_p {p q : Nat} {σ : pz_Sg} {a j : Nat} {v : Int32} (h : a ≠ p) {y : Nat} (hy : y ≠ q) : (fadd p q σ a j v).1 p y = σ.1 p y := by
  unfold fadd
  split
  · rfl
  · rw [qz_rd, if_neg (fun z => hy z.2), qz_rn _ _ _ _ (Ne.symm h)]
theorem fadd_fr {b n R p q : Nat} {σ : pz_Sg} {a j : Nat} {v : Int32} (ha : a < n) (hj : j < R) (hp : ∀ x, x < n → b + x ≠ p) : fr b n R p q σ (fadd p q σ (b + a) j v) := by
  by_cases h : σ.1 (b + a) j ||| v = σ.1 (b + a) j
  · rw [fadd_y h]
    exact fr_refl
  · refine ⟨⟨fun _ _ z => by rw [fadd_2]; exact z, fun x hx y i z => ?_⟩, ⟨fun _ _ => by rw [fadd_2], fun x hx y hy => ?_⟩, Or.inr ⟨fun z => h ?_, ?_⟩⟩
    · by_cases e : x = a
      · subst e
        rw [fadd_w (hp x hx)]
        split
        · rename_i e
          rw [b_or, ← e, z, Bool.true_or]
        · exact z
      · rw [fadd_o (by omega) (hp x hx)]
        exact z
    · by_cases e : x = a
      · subst e
        rw [fadd_w (hp x hx), if_neg (by omega)]
      · rw [fadd_o (by omega) (hp x hx)]
    · have := congrFun (z.2 a ha) j
      rw [fadd_w (hp a ha), if_pos rfl] at this
      exact this
    · rw [fadd_n h, qz_rs]
theorem fjoin_1 {σ : pz_Sg} {j : Nat} {w : Int64} {x : Nat} (h : x ≠ 31) : (fjoin σ j w).1 x = σ.1 x := by
  unfold fjoin
  split
  · rfl
  · rw [qz_rn _ _ _ _ h]
    rfl
theorem fjoin_p {σ : pz_Sg} {j : Nat} {w : Int64} {y : Nat} (h : y ≠ 8) : (fjoin σ j w).1 31 y = σ.1 31 y := by
  unfold fjoin
  split
  · rfl
  · rw [qz_rd, if_neg (fun z => h z.2)]
    rfl
theorem fjoin_w {σ : pz_Sg} {j : Nat} {w : Int64} (y : Nat) : (fjoin σ j w).2 32 y = if y = j then σ.2 32 j ||| w else σ.2 32 y := by
  unfold fjoin
  split
  · rename_i z
    split
    · rename_i e
      rw [e, z]
    · rfl
  · show (if 32 = 32 ∧ y = j then _ else _) = _
    simp
theorem fjoin_fr {b n R : Nat} {σ : pz_Sg} {j : Nat} {w : Int64} (hj : j < 240) (hp : ∀ x, x < n → b + x ≠ 31) : fr b n R 31 8 σ (fjoin σ j w) := by
  by_cases h : σ.2 32 j ||| w = σ.2 32 j
  · rw [show fjoin σ j w = σ from if_pos h]
    exact fr_refl
  · refine ⟨⟨fun y i z => ?_, fun x hx y i z => by rw [fjoin_1 (hp x hx)]; exact z⟩, ⟨fun y hy => by rw [fjoin_w, if_neg (by omega)], fun x hx y hy => by rw [fjoin_1 (hp x hx)]⟩, Or.inr ⟨fun z => h ?_, ?_⟩⟩
    · rw [fjoin_w]
      split
      · rename_i e
        rw [q_or, ← e, z, Bool.true_or]
      · exact z
    · have := congrFun z.1 j
      rw [fjoin_w, if_pos rfl] at this
      exact this
    · rw [show fjoin σ j w = pz_up (pz_uq σ 32 j (σ.2 32 j ||| w)) 31 8 1 from if_neg h, qz_rs]
