/-! ===== numbers, reads behind writes, the words of a truth ===== -/
theorem qz_rd (σ : pz_Sg) (a j x y : Nat) (v : Int32) : (pz_up σ a j v).1 x y = if x = a ∧ y = j then v else σ.1 x y := rfl
theorem qz_rd2 (σ : pz_Sg) (a j : Nat) (v : Int32) : (pz_up σ a j v).2 = σ.2 := rfl
theorem qz_rq (σ : pz_Sg) (a j x y : Nat) (v : Int64) : (pz_uq σ a j v).2 x y = if x = a ∧ y = j then v else σ.2 x y := rfl
theorem qz_rq1 (σ : pz_Sg) (a j : Nat) (v : Int64) : (pz_uq σ a j v).1 = σ.1 := rfl
theorem qz_rs (σ : pz_Sg) (a j : Nat) (v : Int32) : (pz_up σ a j v).1 a j = v := by rw [qz_rd, if_pos ⟨rfl, rfl⟩]
theorem qz_rn (σ : pz_Sg) (a j : Nat) (v : Int32) {x : Nat} (h : x ≠ a) : (pz_up σ a j v).1 x = σ.1 x := (pz_up_ne x h).1
noncomputable def pz_b (p : Prop) : Int32 := @ite _ p (Classical.propDecidable p) 1 0
theorem pz_b_t {p : Prop} (h : p) : pz_b p = 1 := if_pos h
theorem pz_b_f {p : Prop} (h : ¬ p) : pz_b p = 0 := if_neg h
theorem pz_b_01 (p : Prop) : pz_b p = 0 ∨ pz_b p = 1 := by
  by_cases h : p
  · exact Or.inr (pz_b_t h)
  · exact Or.inl (pz_b_f h)
theorem pz_b_0 {p : Prop} : pz_b p = 0 ↔ ¬ p := by
  by_cases h : p
  · rw [pz_b_t h]; exact ⟨fun z => absurd z (by decide), fun z => absurd h z⟩
  · rw [pz_b_f h]; exact ⟨fun _ => h, fun _ => rfl⟩
theorem pz_b_1 {p : Prop} : pz_b p = 1 ↔ p := by
  by_cases h : p
  · rw [pz_b_t h]; exact ⟨fun _ => h, fun _ => rfl⟩
  · rw [pz_b_f h]; exact ⟨fun z => absurd z (by decide), fun z => absurd z h⟩
theorem pz_b_c {p q : Prop} (h : p ↔ q) : pz_b p = pz_b q := by
  by_cases z : p
  · rw [pz_b_t z, pz_b_t (h.mp z)]
  · rw [pz_b_f z, pz_b_f (fun y => z (h.mpr y))]
/-- the ends 1, 0 of a question -/
theorem pz_yes {p : Prop} {s : pz_Sg} (h : p) : pz_is (some (.int (pz_b p))) s (some (.int 1)) s := ⟨by rw [pz_b_t h], rfl⟩
theorem pz_no {p : Prop} {s : pz_Sg} (h : ¬ p) : pz_is (some (.int (pz_b p))) s (some (.int 0)) s := ⟨by rw [pz_b_f h], rfl⟩
theorem pz_ans {s s' : pz_Sg} {x y : Int32} (h : x = y) (hs : s = s') : pz_is (some (.int y)) s' (some (.int x)) s := ⟨by rw [h], hs⟩
theorem pz_ansv {s s' : pz_Sg} (hs : s = s') : pz_is none s' none s := ⟨rfl, hs⟩
/-- an index below n, by the two tests that programs make -/
theorem pz_ix {x y : Int32} {n : Nat} (hy : y = nI n) (hn : n < 2 ^ 31) : vp_in x n ↔ ¬ x < 0 ∧ ¬ y ≤ x := by
  subst hy
  unfold vp_in
  constructor
  · intro h
    refine ⟨fun z => h (Or.inl z), fun z => h (Or.inr ?_)⟩
    obtain ⟨j, hj, rfl⟩ := nI_of (fun q : x < 0 => h (Or.inl q))
    rw [nI_clamp hj]
    exact (nI_leI hn hj).mp z
  · rintro ⟨h1, h2⟩ (h | h)
    · exact h1 h
    · obtain ⟨j, hj, rfl⟩ := nI_of h1
      rw [nI_clamp hj] at h
      exact h2 ((nI_leI hn hj).mpr h)
theorem pz_ixn {n k : Nat} (hk : k < 2 ^ 31) : vp_in (nI k) n ↔ k < n := by
  unfold vp_in
  rw [nI_clamp hk]
  constructor
  · intro h
    exact Nat.not_le.mp fun q => h (Or.inr q)
  · rintro h (q | q)
    · exact nI_pos hk q
    · omega
/-- the reference's 'beyond' -/
theorem w_beyond (a b d : Int64) (σ : pz_Sg) : pz_WP 109 (0, pz_en 6 [.long a, .long b, .long d], []) σ (pz_is (some (.int (pz_b (a < b ∨ d < a)))) σ) := by
  have c1 : lg_cmp a b < 0 ↔ a < b := by
    rw [← Int32.not_le, lg_cmp_ge]
    exact Int64.not_le
  have c2 : lg_cmp a d ≤ 0 ↔ ¬ d < a := by
    unfold lg_cmp
    by_cases h : a > d
    · rw [if_pos h]
      exact ⟨fun z => absurd z (by decide), fun z => absurd h z⟩
    · rw [if_neg h]
      refine ⟨fun _ => h, fun _ => ?_⟩
      split <;> decide
  refine pv_109 a b d σ _ ⟨fun h => ?_, fun h => ⟨fun h2 => ?_, fun h2 => ?_⟩⟩
  · exact pz_yes (Or.inl (c1.mp h))
  · exact pz_no (fun z => z.elim (fun z => h (c1.mpr z)) (c2.mp h2))
  · exact pz_yes (Or.inr (Classical.not_not.mp fun z => h2 (c2.mpr z)))
theorem pz_l64 {x y : Int32} : x.toInt64 < y.toInt64 ↔ x < y := by
  rw [Int64.lt_iff_toInt_lt, Int32.lt_iff_toInt_lt, Int32.toInt_toInt64, Int32.toInt_toInt64]
/-- 'beyond(x, 0, n - 1)' -/
theorem pz_byn {x y : Int32} {n : Nat} (hy : y = nI n) (hn : n < 2 ^ 30) : (x.toInt64 < (0 : Int64) ∨ (y - 1).toInt64 < x.toInt64) ↔ ¬ vp_in x n := by
  subst hy
  rw [show (0 : Int64) = (0 : Int32).toInt64 by decide, pz_l64, pz_l64, vp_in_iff, Int32.lt_iff_toInt_lt, Int32.lt_iff_toInt_lt]
  have h1 : (nI n - 1).toInt = (n : Int) - 1 := pk_sub_toInt (b := 1) hn (by decide)
  rw [h1, show (0 : Int32).toInt = 0 by decide]
  omega
/-- 'beyond(x, 0, n)', n a constant -/
theorem pz_byc {x : Int32} {d : Int64} {n : Nat} (hd : d.toInt = n) : (x.toInt64 < (0 : Int64) ∨ d < x.toInt64) ↔ ¬ vp_in x (n + 1) := by
  rw [show (0 : Int64) = (0 : Int32).toInt64 by decide, pz_l64, vp_in_iff, Int32.lt_iff_toInt_lt, Int64.lt_iff_toInt_lt, hd, Int32.toInt_toInt64, show (0 : Int32).toInt = 0 by decide]
  omega
