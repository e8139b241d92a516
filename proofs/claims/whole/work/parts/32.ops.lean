/-! ===== calls that only tell: count, did, foreseen, printed ===== -/
theorem pz_sw (N : Nat) (hN : N + 1 < 2 ^ 31) (x : Int32) : (x.toInt < 0 ∨ (N : Int) < x.toInt) ∨ ∃ k, k < N + 1 ∧ x = nI k := by
  by_cases h : vp_in x (N + 1)
  · obtain ⟨j, hj, rfl⟩ := vp_in_of h hN
    exact Or.inr ⟨j, hj, rfl⟩
  · rw [vp_in_iff] at h
    exact Or.inl (by omega)
set_option maxHeartbeats 2000000 in
theorem op_count (L : Nat) (ys : Nat → Int32) : pz_O24 (iv L ys) := by
  intro a
  refine op_read fun σ n H => ?_
  obtain ⟨-, nt, nf, ns, nm, nx, ⟨⟨⟨c1, d1, -⟩, ⟨c2, d2, -⟩, ⟨c3, d3, -⟩, ⟨c4, d4, -⟩⟩, -⟩, ⟨⟨w1, w2, -⟩, -⟩, ⟨pr, -, p1, p2, -⟩, -, ⟨a1, a2, -⟩, -⟩ := H
  rcases pz_sw 6 (by decide) a with ha | ⟨k, hk, rfl⟩
  · refine ⟨-(nI 2), pv_108 a σ _ ⟨fun _ => ⟨rfl, rfl⟩, ?_, ?_, ?_, ?_, ?_, ?_, ?_, trivial⟩, pv_179 a σ _ ⟨fun _ => ⟨rfl, rfl⟩, ?_, ?_, ?_, ?_, ?_, ?_, ?_, trivial⟩⟩ <;> (intro z; subst z; exact absurd ha (by decide))
  · match k, hk with
    | 0, _ =>
      refine ⟨σ.1 1 0, pv_108 _ σ _ ⟨?_, fun _ => ⟨rfl, rfl⟩, ?_, ?_, ?_, ?_, ?_, ?_, trivial⟩, pv_179 _ σ _ ⟨?_, fun _ => ⟨by rw [c1, d1], rfl⟩, ?_, ?_, ?_, ?_, ?_, ?_, trivial⟩⟩ <;> (intro z; exact absurd z (by decide))
    | 1, _ =>
      refine ⟨σ.1 1 1, pv_108 _ σ _ ⟨?_, ?_, fun _ => ⟨rfl, rfl⟩, ?_, ?_, ?_, ?_, ?_, trivial⟩, pv_179 _ σ _ ⟨?_, ?_, fun _ => ⟨by rw [c2, d2], rfl⟩, ?_, ?_, ?_, ?_, ?_, trivial⟩⟩ <;> (intro z; exact absurd z (by decide))
    | 2, _ =>
      refine ⟨σ.1 1 2, pv_108 _ σ _ ⟨?_, ?_, ?_, fun _ => ⟨rfl, rfl⟩, ?_, ?_, ?_, ?_, trivial⟩, pv_179 _ σ _ ⟨?_, ?_, ?_, fun _ => ⟨by rw [c3, d3], rfl⟩, ?_, ?_, ?_, ?_, trivial⟩⟩ <;> (intro z; exact absurd z (by decide))
    | 3, _ =>
      refine ⟨σ.1 1 3, pv_108 _ σ _ ⟨?_, ?_, ?_, ?_, fun _ => ⟨rfl, rfl⟩, ?_, ?_, ?_, trivial⟩, pv_179 _ σ _ ⟨?_, ?_, ?_, ?_, fun _ => ⟨by rw [c4, d4], rfl⟩, ?_, ?_, ?_, trivial⟩⟩ <;> (intro z; exact absurd z (by decide))
    | 4, _ =>
      refine ⟨σ.1 16 0, pv_108 _ σ _ ⟨?_, ?_, ?_, ?_, ?_, fun _ => ⟨rfl, rfl⟩, ?_, ?_, trivial⟩, pv_179 _ σ _ ⟨?_, ?_, ?_, ?_, ?_, fun _ => ⟨by rw [w1, w2], rfl⟩, ?_, ?_, trivial⟩⟩ <;> (intro z; exact absurd z (by decide))
    | 5, _ =>
      refine ⟨σ.1 16 1, pv_108 _ σ _ ⟨?_, ?_, ?_, ?_, ?_, ?_, fun _ => ⟨rfl, rfl⟩, ?_, trivial⟩, pv_179 _ σ _ ⟨?_, ?_, ?_, ?_, ?_, ?_, fun _ => ⟨by rw [p1, p2], rfl⟩, ?_, trivial⟩⟩ <;> (intro z; exact absurd z (by decide))
    | 6, _ =>
      rcases a2 with q | q
      · have q2 : σ.1 55 21 = 0 := by rw [← a1]; exact q
        refine ⟨0, pv_108 _ σ _ ⟨?_, ?_, ?_, ?_, ?_, ?_, ?_, fun _ => ⟨fun _ => ⟨rfl, rfl⟩, fun z => absurd q z⟩, trivial⟩, pv_179 _ σ _ ⟨?_, ?_, ?_, ?_, ?_, ?_, ?_, fun _ => ⟨fun _ => ⟨rfl, rfl⟩, fun z => absurd q2 z⟩, trivial⟩⟩ <;> (intro z; exact absurd z (by decide))
      · have q2 : σ.1 55 21 = 1 := by rw [← a1]; exact q
        refine ⟨1, pv_108 _ σ _ ⟨?_, ?_, ?_, ?_, ?_, ?_, ?_, fun _ => ⟨fun z => absurd (q.symm.trans z) (by decide), fun _ => ⟨rfl, rfl⟩⟩, trivial⟩, pv_179 _ σ _ ⟨?_, ?_, ?_, ?_, ?_, ?_, ?_, fun _ => ⟨fun z => absurd (q2.symm.trans z) (by decide), fun _ => ⟨rfl, rfl⟩⟩, trivial⟩⟩ <;> (intro z; exact absurd z (by decide))
theorem op_foreseen (L : Nat) (ys : Nat → Int32) : pz_O21 (iv L ys) := by
  refine op_read fun σ n H => ?_
  obtain ⟨-, nt, nf, ns, nm, nx, -, -, -, -, -, ⟨-, la, -⟩⟩ := H
  rcases la with ⟨h1, h2⟩ | ⟨h1, h2⟩
  · exact ⟨1, pv_104 σ _ ⟨fun _ => ⟨rfl, rfl⟩, fun z => absurd h1 z⟩, pv_172 σ _ ⟨fun z => absurd (h2.symm.trans z) (by decide), fun _ => ⟨rfl, rfl⟩⟩⟩
  · exact ⟨0, pv_104 σ _ ⟨fun z => absurd (h1.symm.trans z) (by decide), fun _ => ⟨rfl, rfl⟩⟩, pv_172 σ _ ⟨fun _ => ⟨rfl, rfl⟩, fun z => absurd h2 z⟩⟩
/-- Deeds.tell -/
theorem w_tell (σ : pz_Sg) (k : Nat) (hk : k < 6) : pz_WP 2 (0, pz_en 2 [.ref 52, .int (nI k)], []) σ (pz_is (some (.int (σ.1 52 k))) σ) := by
  match k, hk with
  | 0, _ => refine pv_2 _ σ _ ⟨?_, fun _ => ⟨rfl, rfl⟩, ?_, ?_, ?_, ?_, trivial⟩ <;> (intro z; exact absurd z (by decide))
  | 1, _ => refine pv_2 _ σ _ ⟨?_, ?_, fun _ => ⟨rfl, rfl⟩, ?_, ?_, ?_, trivial⟩ <;> (intro z; exact absurd z (by decide))
  | 2, _ => refine pv_2 _ σ _ ⟨?_, ?_, ?_, fun _ => ⟨rfl, rfl⟩, ?_, ?_, trivial⟩ <;> (intro z; exact absurd z (by decide))
  | 3, _ => refine pv_2 _ σ _ ⟨?_, ?_, ?_, ?_, fun _ => ⟨rfl, rfl⟩, ?_, trivial⟩ <;> (intro z; exact absurd z (by decide))
  | 4, _ => refine pv_2 _ σ _ ⟨?_, ?_, ?_, ?_, ?_, fun _ => ⟨rfl, rfl⟩, trivial⟩ <;> (intro z; exact absurd z (by decide))
  | 5, _ => refine pv_2 _ σ _ ⟨fun _ => ⟨rfl, rfl⟩, ?_, ?_, ?_, ?_, ?_, trivial⟩ <;> (intro z; exact absurd z (by decide))
theorem pz_lt_le {x : Int32} {n : Nat} (hn : n + 1 < 2 ^ 31) : x ≤ nI n ↔ ¬ nI (n + 1) ≤ x := by
  rw [Int32.le_iff_toInt_le, Int32.le_iff_toInt_le, nI_toInt (by omega), nI_toInt hn]
  omega
theorem pz_ltn {x : Int32} {n : Nat} : x < nI n ↔ ¬ nI n ≤ x := Int32.not_le.symm
theorem op_did (L : Nat) (ys : Nat → Int32) : pz_O20 (iv L ys) := by
  intro a
  refine op_read fun σ n H => ?_
  obtain ⟨-, nt, nf, ns, nm, nx, -, -, -, -, -, ⟨la, -⟩⟩ := H
  have e := pz_ix (x := a) (y := nI 6) (n := 6) rfl (by decide)
  have hy : (a.toInt64 < (0 : Int64) ∨ lN 5 < a.toInt64) ↔ ¬ vp_in a (5 + 1) := pz_byc (by decide)
  by_cases h : vp_in a 6
  · obtain ⟨k, hk, rfl⟩ := vp_in_of h (by decide)
    have q := e.mp h
    refine ⟨σ.1 52 k, pv_103 _ σ _ ⟨fun z => absurd z q.1, fun _ => ⟨fun _ => pz_ki (w_tell σ k hk) ⟨rfl, rfl⟩, fun z => absurd (pz_ltn.mpr q.2) z⟩⟩, pv_171 _ σ _ (pz_ki (w_beyond _ _ _ σ) ?_)⟩
    rw [pz_b_f (fun z => hy.mp z h)]
    have cl : (nI k).toNatClampNeg = k := nI_clamp (by omega)
    refine ⟨fun _ => ?_, fun z => absurd rfl z⟩
    rcases la with ⟨l1, l2⟩ | ⟨l1, l2⟩
    · exact ⟨fun _ => pz_ans (l2 k hk).symm rfl, fun z => absurd l1 z⟩
    · exact ⟨fun z => absurd (l1.symm.trans z) (by decide), fun _ => ⟨h, pz_ans (by rw [cl, l2 k hk]) rfl⟩⟩
  · refine ⟨-(nI 2), pv_103 a σ _ ⟨fun _ => ⟨rfl, rfl⟩, fun q1 => ⟨fun q2 => absurd (e.mpr ⟨q1, pz_ltn.mp q2⟩) h, fun _ => ⟨rfl, rfl⟩⟩⟩, pv_171 a σ _ (pz_ki (w_beyond _ _ _ σ) ?_)⟩
    rw [pz_b_t (hy.mpr h)]
    exact ⟨fun z => absurd z (by decide), fun _ => ⟨rfl, rfl⟩⟩
theorem op_printed (L : Nat) (ys : Nat → Int32) : pz_O23 (iv L ys) := by
  intro a
  refine op_known fun σ n hn H => ?_
  have H' := iv_up H
  obtain ⟨-, nt, nf, ns, nm, nx, -, -, ⟨pr, pb, p1, p2, p3⟩, -, -, -⟩ := H
  have e1 := pz_ix (x := a) p1 (by omega)
  have e2 := pz_ix (x := a) (y := nI 200) (n := 200) rfl (by decide)
  have e3 := pz_ix (x := a) p2 (by omega)
  have e4 : a ≤ nI 199 ↔ ¬ nI 200 ≤ a := pz_lt_le (by decide)
  by_cases h1 : a < 0
  · exact ⟨0, σ, σ, pv_107 a σ _ ⟨fun _ => ⟨rfl, rfl⟩, fun z => absurd h1 z⟩, ⟨rfl, rfl⟩, pv_178 a σ _ ⟨fun _ => ⟨rfl, rfl⟩, fun z => absurd h1 z⟩, H'⟩
  · by_cases h2 : nI 200 ≤ a
    · refine ⟨0, σ, σ, pv_107 a σ _ ⟨fun z => absurd z h1, fun _ => ⟨fun _ => ⟨rfl, rfl⟩, fun z => absurd h2 z⟩⟩, ⟨rfl, rfl⟩, pv_178 a σ _ ⟨fun z => absurd z h1, fun _ => ⟨fun _ => ⟨rfl, rfl⟩, fun _ => ⟨fun z => absurd h2 (e4.mp z), fun _ => ⟨rfl, rfl⟩⟩⟩⟩, H'⟩
    · by_cases h3 : nI pr ≤ a
      · exact ⟨0, σ, σ, pv_107 a σ _ ⟨fun z => absurd z h1, fun _ => ⟨fun z => absurd z h2, fun _ => ⟨fun _ => ⟨rfl, rfl⟩, fun z => absurd (by rw [p1]; exact h3) z⟩⟩⟩, ⟨rfl, rfl⟩, pv_178 a σ _ ⟨fun z => absurd z h1, fun _ => ⟨fun _ => ⟨rfl, rfl⟩, fun z => absurd (by rw [p2]; exact h3) z⟩⟩, H'⟩
      · have v2 : vp_in a 200 := e2.mpr ⟨h1, h2⟩
        obtain ⟨j, hj, rfl⟩ := vp_in_of v2 (by decide)
        have cl : (nI j).toNatClampNeg = j := nI_clamp (by omega)
        have hjp : j < pr := Nat.not_le.mp fun z => h3 (nI_le z (by omega))
        refine ⟨σ.1 20 j, σ, σ, pv_107 _ σ _ ⟨fun z => absurd z h1, fun _ => ⟨fun z => absurd z h2, fun _ => ⟨fun z => absurd (by rw [← p1]; exact z) h3, fun _ => ⟨v2, pz_ans (by rw [cl]) rfl⟩⟩⟩⟩, ⟨rfl, rfl⟩, pv_178 _ σ _ ⟨fun z => absurd z h1, fun _ => ⟨fun z => absurd (by rw [← p2]; exact z) h3, fun _ => ⟨fun _ => ⟨v2, pz_ans (by rw [cl, p3 j hj hjp]) rfl⟩, fun z => absurd (e4.mpr h2) z⟩⟩⟩, H'⟩
