/-! ===== line ===== -/
/-- what an operand has to be, by the kind's number -/
def qz_su (F : iv_F) (nt nf ns nm m : Nat) (k : Nat) (x : Int32) : Prop := match k with
  | 1 => vp_in x 8
  | 2 => vp_in x nt
  | 3 => vp_in x nf ∧ F 4 x.toNatClampNeg = 0
  | 4 => vp_in x nf ∧ F 4 x.toNatClampNeg = 1
  | 5 => vp_in x ns ∧ F 5 x.toNatClampNeg = 0
  | 6 => vp_in x ns ∧ F 5 x.toNatClampNeg = 1
  | 7 => vp_in x nm
  | 8 => vp_in x 25
  | 9 => vp_in x 4
  | 10 => F 8 m = 0 ∨ vp_in x 8
  | _ => True
theorem qz_su_i {F : iv_F} {nt nf ns nm m : Nat} {x : Int32} : ∀ k, k < 11 → (iv_su F nt nf ns nm m (nI k) x ↔ qz_su F nt nf ns nm m k x)
  | 0, _ => ⟨fun _ => trivial, fun _ => ⟨fun z => absurd z (by decide), fun z => absurd z (by decide), fun z => absurd z (by decide), fun z => absurd z (by decide), fun z => absurd z (by decide), fun z => absurd z (by decide), fun z => absurd z (by decide), fun z => absurd z (by decide), fun z => absurd z (by decide), fun z => absurd z (by decide)⟩⟩
  | 1, _ => ⟨fun h => h.1 rfl, fun h => ⟨fun _ => h, fun z => absurd z (by decide), fun z => absurd z (by decide), fun z => absurd z (by decide), fun z => absurd z (by decide), fun z => absurd z (by decide), fun z => absurd z (by decide), fun z => absurd z (by decide), fun z => absurd z (by decide), fun z => absurd z (by decide)⟩⟩
  | 2, _ => ⟨fun h => h.2.1 rfl, fun h => ⟨fun z => absurd z (by decide), fun _ => h, fun z => absurd z (by decide), fun z => absurd z (by decide), fun z => absurd z (by decide), fun z => absurd z (by decide), fun z => absurd z (by decide), fun z => absurd z (by decide), fun z => absurd z (by decide), fun z => absurd z (by decide)⟩⟩
  | 3, _ => ⟨fun h => h.2.2.1 rfl, fun h => ⟨fun z => absurd z (by decide), fun z => absurd z (by decide), fun _ => h, fun z => absurd z (by decide), fun z => absurd z (by decide), fun z => absurd z (by decide), fun z => absurd z (by decide), fun z => absurd z (by decide), fun z => absurd z (by decide), fun z => absurd z (by decide)⟩⟩
  | 4, _ => ⟨fun h => h.2.2.2.1 rfl, fun h => ⟨fun z => absurd z (by decide), fun z => absurd z (by decide), fun z => absurd z (by decide), fun _ => h, fun z => absurd z (by decide), fun z => absurd z (by decide), fun z => absurd z (by decide), fun z => absurd z (by decide), fun z => absurd z (by decide), fun z => absurd z (by decide)⟩⟩
  | 5, _ => ⟨fun h => h.2.2.2.2.1 rfl, fun h => ⟨fun z => absurd z (by decide), fun z => absurd z (by decide), fun z => absurd z (by decide), fun z => absurd z (by decide), fun _ => h, fun z => absurd z (by decide), fun z => absurd z (by decide), fun z => absurd z (by decide), fun z => absurd z (by decide), fun z => absurd z (by decide)⟩⟩
  | 6, _ => ⟨fun h => h.2.2.2.2.2.1 rfl, fun h => ⟨fun z => absurd z (by decide), fun z => absurd z (by decide), fun z => absurd z (by decide), fun z => absurd z (by decide), fun z => absurd z (by decide), fun _ => h, fun z => absurd z (by decide), fun z => absurd z (by decide), fun z => absurd z (by decide), fun z => absurd z (by decide)⟩⟩
  | 7, _ => ⟨fun h => h.2.2.2.2.2.2.1 rfl, fun h => ⟨fun z => absurd z (by decide), fun z => absurd z (by decide), fun z => absurd z (by decide), fun z => absurd z (by decide), fun z => absurd z (by decide), fun z => absurd z (by decide), fun _ => h, fun z => absurd z (by decide), fun z => absurd z (by decide), fun z => absurd z (by decide)⟩⟩
  | 8, _ => ⟨fun h => h.2.2.2.2.2.2.2.1 rfl, fun h => ⟨fun z => absurd z (by decide), fun z => absurd z (by decide), fun z => absurd z (by decide), fun z => absurd z (by decide), fun z => absurd z (by decide), fun z => absurd z (by decide), fun z => absurd z (by decide), fun _ => h, fun z => absurd z (by decide), fun z => absurd z (by decide)⟩⟩
  | 9, _ => ⟨fun h => h.2.2.2.2.2.2.2.2.1 rfl, fun h => ⟨fun z => absurd z (by decide), fun z => absurd z (by decide), fun z => absurd z (by decide), fun z => absurd z (by decide), fun z => absurd z (by decide), fun z => absurd z (by decide), fun z => absurd z (by decide), fun z => absurd z (by decide), fun _ => h, fun z => absurd z (by decide)⟩⟩
  | 10, _ => ⟨fun h => h.2.2.2.2.2.2.2.2.2 rfl, fun h => ⟨fun z => absurd z (by decide), fun z => absurd z (by decide), fun z => absurd z (by decide), fun z => absurd z (by decide), fun z => absurd z (by decide), fun z => absurd z (by decide), fun z => absurd z (by decide), fun z => absurd z (by decide), fun z => absurd z (by decide), fun _ => h⟩⟩
  | n + 11, h => absurd h (by omega)
def qz_W (j : Nat) : Nat := ([1, 0, 0, 1, 1, 1, 1, 1, 1, 1, 1, 1, 1, 1, 1, 1, 1, 1, 1, 0, 0, 1, 1, 0, 1, 2, 0, 1, 1, 0, 1, 1, 3, 1, 1, 3, 1, 1, 4, 1, 1, 4, 1, 1, 1, 1, 1, 1, 1, 5, 0, 5, 1, 0, 1, 6, 0, 6, 1, 0, 1, 1, 0, 1, 7, 1, 1, 0, 0, 1, 1, 8, 1, 1, 8, 1, 0, 8, 1, 1, 8, 1, 2, 8, 0, 0, 8, 1, 2, 0, 9, 0, 0, 10, 0, 0] : List Nat).getD j 0
theorem qz_Wn : ∀ j, j < 96 → pz_wn j = nI (qz_W j) ∧ qz_W j < 11 := by decide +kernel
theorem qz_ft {F : iv_F} {nt nf ns nm m k : Nat} {a b c : Int32} (hk : k < 32) : iv_ft F nt nf ns nm m (nI k) a b c ↔ qz_su F nt nf ns nm m (qz_W (3 * k)) a ∧ qz_su F nt nf ns nm m (qz_W (3 * k + 1)) b ∧ qz_su F nt nf ns nm m (qz_W (3 * k + 2)) c ∧ (k = 21 → a + F 6 b.toNatClampNeg ≤ nI 8 ∧ c + F 7 b.toNatClampNeg ≤ nI 8) := by
  unfold iv_ft
  rw [nI_clamp (by omega), (qz_Wn (3 * k) (by omega)).1, (qz_Wn (3 * k + 1) (by omega)).1, (qz_Wn (3 * k + 2) (by omega)).1, qz_su_i _ (qz_Wn (3 * k) (by omega)).2, qz_su_i _ (qz_Wn (3 * k + 1) (by omega)).2, qz_su_i _ (qz_Wn (3 * k + 2) (by omega)).2]
  refine ⟨fun h => ⟨h.2.1, h.2.2.1, h.2.2.2.1, fun z => h.2.2.2.2 (by rw [z])⟩, fun h => ⟨vp_in_nI hk (by decide), h.1, h.2.1, h.2.2.1, fun z => h.2.2.2 ((nI_eq (by omega) (by decide)).mp z)⟩⟩
theorem w_local {σ : pz_Sg} (x : Int32) : pz_WP 68 (0, pz_en 2 [.ref 1, .int x], []) σ (pz_is (some (.int (pz_b (vp_in x 8)))) σ) := by
  have e : vp_in x 8 ↔ ¬ x < 0 ∧ ¬ nI 8 ≤ x := pz_ix rfl (by decide)
  exact pv_68 _ σ _ ⟨fun z => pz_no (fun q => (e.mp q).1 z), fun z => ⟨fun y => pz_no (fun q => (e.mp q).2 y), fun y => pz_yes (e.mpr ⟨z, y⟩)⟩⟩
theorem w_isFieldOf {σ : pz_Sg} {nf : Nat} (bf : nf ≤ 16) (h : σ.1 1 1 = nI nf) (x v : Int32) : pz_WP 69 (0, pz_en 3 [.ref 1, .int x, .int v], []) σ (pz_is (some (.int (pz_b (vp_in x nf ∧ σ.1 4 x.toNatClampNeg = v)))) σ) := by
  have e := pz_ix (x := x) h (by omega)
  exact pv_69 _ _ σ _ ⟨fun z => pz_no (fun q => (e.mp q.1).1 z), fun z => ⟨fun y => pz_no (fun q => (e.mp q.1).2 y), fun y => ⟨vp_le (e.mpr ⟨z, y⟩) bf, fun u => pz_yes ⟨e.mpr ⟨z, y⟩, u⟩, fun u => pz_no (fun q => u q.2)⟩⟩⟩
theorem pz_kb {P : Prop} {s : pz_Sg} {r : pz_Sg} (hs : s = r) : (pz_b P = 0 ∨ pz_b P = 1) ∧ pz_is (some (.int (pz_b P))) r (some (.int (pz_b P))) s := ⟨pz_b_01 P, rfl, hs⟩
theorem w_suits {σ : pz_Sg} {nt nf ns nm m : Nat} (hc : iv_ct σ.1 nt nf ns nm) (hs : ∀ s, s < 8 → σ.1 5 s = 0 ∨ σ.1 5 s = 1) (hm : m < 10) (x : Int32) : ∀ k, k < 11 → pz_WP 67 (0, pz_en 4 [.ref 1, .int (nI k), .int (nI m), .int x], []) σ (pz_is (some (.int (pz_b (qz_su σ.1 nt nf ns nm m k x)))) σ) := by
  intro k hk
  obtain ⟨⟨c1, d1, b1⟩, ⟨c2, d2, b2⟩, ⟨c3, d3, b3⟩, ⟨c4, d4, b4⟩⟩ := hc
  have e25 : vp_in x (24 + 1) ↔ ¬ x < 0 ∧ ¬ nI 24 < x := pz_to (by decide)
  have e4 : vp_in x 4 ↔ ¬ x < 0 ∧ ¬ nI 4 ≤ x := pz_ix rfl (by decide)
  match k, hk with
  | 0, _ => refine pv_67 _ _ _ σ _ ⟨fun _ => ⟨by rw [pz_b_t (show qz_su σ.1 nt nf ns nm m 0 x from trivial)], rfl⟩, ?_, ?_, ?_, ?_, ?_, ?_, ?_, ?_, ?_, ?_, trivial⟩ <;> (intro z; exact absurd z (by decide))
  | 1, _ => refine pv_67 _ _ _ σ _ ⟨?_, fun _ => pz_ki (w_local x) (pz_kb rfl), ?_, ?_, ?_, ?_, ?_, ?_, ?_, ?_, ?_, trivial⟩ <;> (intro z; exact absurd z (by decide))
  | 2, _ => refine pv_67 _ _ _ σ _ ⟨?_, ?_, fun _ => pz_ki (w_isClass c1 (by omega) x) (pz_kb rfl), ?_, ?_, ?_, ?_, ?_, ?_, ?_, ?_, trivial⟩ <;> (intro z; exact absurd z (by decide))
  | 3, _ => refine pv_67 _ _ _ σ _ ⟨?_, ?_, ?_, fun _ => pz_ki (w_isFieldOf b2 c2 x 0) (pz_kb rfl), ?_, ?_, ?_, ?_, ?_, ?_, ?_, trivial⟩ <;> (intro z; exact absurd z (by decide))
  | 4, _ => refine pv_67 _ _ _ σ _ ⟨?_, ?_, ?_, ?_, fun _ => pz_ki (w_isFieldOf b2 c2 x 1) (pz_kb rfl), ?_, ?_, ?_, ?_, ?_, ?_, trivial⟩ <;> (intro z; exact absurd z (by decide))
  | 5, _ => refine pv_67 _ _ _ σ _ ⟨?_, ?_, ?_, ?_, ?_, fun _ => pz_ki (w_isStatic c3 (by omega) x) ⟨fun z => pz_no (fun q => pz_b_0.mp z q.1), fun z => ⟨vp_le (Classical.not_not.mp fun q => z (pz_b_0.mpr q)) b3, fun y => pz_yes ⟨Classical.not_not.mp fun q => z (pz_b_0.mpr q), y⟩, fun y => pz_no (fun q => y q.2)⟩⟩, ?_, ?_, ?_, ?_, ?_, trivial⟩ <;> (intro z; exact absurd z (by decide))
  | 6, _ => refine pv_67 _ _ _ σ _ ⟨?_, ?_, ?_, ?_, ?_, ?_, fun _ => pz_ki (w_isStatic c3 (by omega) x) ⟨fun z => pz_no (fun q => pz_b_0.mp z q.1), fun z => ⟨vp_le (Classical.not_not.mp fun q => z (pz_b_0.mpr q)) b3, fun y => pz_no (fun q => absurd (y.symm.trans q.2) (by decide)), fun y => pz_yes ⟨Classical.not_not.mp fun q => z (pz_b_0.mpr q), by
      obtain ⟨j, hj, rfl⟩ := vp_in_of (Classical.not_not.mp fun q => z (pz_b_0.mpr q)) (by omega)
      exact (hs _ (by rw [nI_clamp (by omega)]; omega)).resolve_left y⟩⟩⟩, ?_, ?_, ?_, ?_, trivial⟩ <;> (intro z; exact absurd z (by decide))
  | 7, _ => refine pv_67 _ _ _ σ _ ⟨?_, ?_, ?_, ?_, ?_, ?_, ?_, fun _ => pz_ki (w_isMethod c4 (by omega) x) (pz_kb rfl), ?_, ?_, ?_, trivial⟩ <;> (intro z; exact absurd z (by decide))
  | 8, _ => refine pv_67 _ _ _ σ _ ⟨?_, ?_, ?_, ?_, ?_, ?_, ?_, ?_, fun _ => ⟨fun z => pz_no (fun q => (e25.mp q).1 z), fun z => ⟨fun y => pz_no (fun q => (e25.mp q).2 y), fun y => pz_yes (e25.mpr ⟨z, y⟩)⟩⟩, ?_, ?_, trivial⟩ <;> (intro z; exact absurd z (by decide))
  | 9, _ => refine pv_67 _ _ _ σ _ ⟨?_, ?_, ?_, ?_, ?_, ?_, ?_, ?_, ?_, fun _ => ⟨fun z => pz_no (fun q => (e4.mp q).1 z), fun z => ⟨fun y => pz_no (fun q => (e4.mp q).2 y), fun y => pz_yes (e4.mpr ⟨z, y⟩)⟩⟩, ?_, trivial⟩ <;> (intro z; exact absurd z (by decide))
  | 10, _ => refine pv_67 _ _ _ σ _ ⟨?_, ?_, ?_, ?_, ?_, ?_, ?_, ?_, ?_, ?_, fun _ => ⟨vp_in_nI hm (by decide), fun z => pz_yes (Or.inl (by rw [nI_clamp (by omega)] at z; exact z)), fun z => pz_ki (w_local x) ⟨fun y => pz_no (fun q => q.elim (fun q => z (by rw [nI_clamp (by omega)]; exact q)) (pz_b_0.mp y)), fun y => pz_yes (Or.inr (Classical.not_not.mp fun q => y (pz_b_0.mpr q)))⟩⟩, trivial⟩ <;> (intro z; exact absurd z (by decide))
theorem qz_w3 : ∀ k, k < 32 → nI k * nI 3 = nI (3 * k) ∧ nI (3 * k) + 1 = nI (3 * k + 1) ∧ nI (3 * k) + nI 2 = nI (3 * k + 2) := by decide +kernel
theorem qz_w21 : ∀ k, k < 32 → (qz_W (3 * k + 1) = 7 ↔ k = 21) := by decide +kernel
/-- Program.fits -/
theorem w_fits {σ : pz_Sg} {nt nf ns nm m : Nat} (hc : iv_ct σ.1 nt nf ns nm) (hs : ∀ s, s < 8 → σ.1 5 s = 0 ∨ σ.1 5 s = 1) (hm : m < 10) (o a b c : Int32) : pz_WP 66 (0, pz_en 7 [.ref 1, .int (nI m), .int o, .int a, .int b, .int c], []) σ (pz_is (some (.int (pz_b (iv_ft σ.1 nt nf ns nm m o a b c)))) σ) := by
  have e : vp_in o (31 + 1) ↔ ¬ o < 0 ∧ ¬ nI 31 < o := pz_to (by decide)
  refine pv_66 _ _ _ _ _ σ _ ⟨fun z => pz_no (fun q => (e.mp q.1).1 z), fun z => ⟨fun y => ?_, fun y => pz_no (fun q => y (Int32.not_lt.mp (e.mp q.1).2))⟩⟩
  obtain ⟨k, hk, rfl⟩ := vp_in_of (e.mpr ⟨z, Int32.not_lt.mpr y⟩) (by decide)
  obtain ⟨q1, q2, q3⟩ := qz_w3 k hk
  obtain ⟨w1, v1⟩ := qz_Wn (3 * k) (by omega)
  obtain ⟨w2, v2⟩ := qz_Wn (3 * k + 1) (by omega)
  obtain ⟨w3, v3⟩ := qz_Wn (3 * k + 2) (by omega)
  have b4 := hc.2.2.2.2.2
  rw [q1, q2, q3, nI_clamp (by omega), nI_clamp (by omega), nI_clamp (by omega), w1, w2, w3, pz_b_c (qz_ft hk)]
  have i1 : vp_in (nI (3 * k)) 96 := vp_in_nI (by omega) (by decide)
  have i2 : vp_in (nI (3 * k + 1)) 96 := vp_in_nI (by omega) (by decide)
  have i3 : vp_in (nI (3 * k + 2)) 96 := vp_in_nI (by omega) (by decide)
  refine ⟨i1, pz_ki (w_suits hc hs hm a _ v1) ⟨fun u => pz_no (fun q => pz_b_0.mp u q.1), fun u1 => ⟨i2, pz_ki (w_suits hc hs hm b _ v2) ⟨fun u => pz_no (fun q => pz_b_0.mp u q.2.1), fun u2 => ⟨i3, pz_ki (w_suits hc hs hm c _ v3) ⟨fun u => pz_no (fun q => pz_b_0.mp u q.2.2.1), fun u3 => ⟨i2, fun t => ?_, fun t => pz_yes ⟨?_, ?_, ?_, ?_⟩⟩⟩⟩⟩⟩⟩⟩
  · have t' : qz_W (3 * k + 1) = 7 := (nI_eq (by omega) (by decide)).mp t
    have k21 : k = 21 := (qz_w21 k hk).mp t'
    have s2 : vp_in b nm := by
      have := Classical.not_not.mp fun q => u2 (pz_b_0.mpr q)
      rw [t'] at this
      exact this
    have s1 := Classical.not_not.mp fun q => u1 (pz_b_0.mpr q)
    have s3 := Classical.not_not.mp fun q => u3 (pz_b_0.mpr q)
    have s2' := Classical.not_not.mp fun q => u2 (pz_b_0.mpr q)
    exact ⟨vp_le s2 b4, fun y => pz_no (fun q => absurd (q.2.2.2 k21).1 (Int32.not_le.mpr y)), fun y => ⟨vp_le s2 b4, fun x => pz_no (fun q => absurd (q.2.2.2 k21).2 (Int32.not_le.mpr x)), fun x => pz_yes ⟨s1, s2', s3, fun _ => ⟨Int32.not_lt.mp y, Int32.not_lt.mp x⟩⟩⟩⟩
  · exact Classical.not_not.mp fun q => u1 (pz_b_0.mpr q)
  · exact Classical.not_not.mp fun q => u2 (pz_b_0.mpr q)
  · exact Classical.not_not.mp fun q => u3 (pz_b_0.mpr q)
  · intro k21
    exact absurd (by rw [(qz_w21 k hk).mpr k21]) t
/-! the reference's fits: a row of tests -/
theorem qz_t1 {t : Nat} {f : pz_Fr} {σ : pz_Sg} {P R : Prop} {K : pz_Sg → Prop} (h : pz_WP t f σ (pz_is (some (.int (pz_b P))) σ)) (k : P → K σ) : ∃ Q : pz_Ps, pz_WP t f σ Q ∧ ∀ r σ1, Q (some (.int r)) σ1 → ((r = 0 → pz_is (some (.int (pz_b (P ∧ R)))) σ (some (.int 0)) σ1) ∧ (¬ r = 0 → K σ1)) :=
  pz_ki h ⟨fun z => pz_no (fun q => pz_b_0.mp z q.1), fun z => k (Classical.not_not.mp fun q => z (pz_b_0.mpr q))⟩
theorem qz_n1 {t : Nat} {f : pz_Fr} {σ : pz_Sg} {P R : Prop} {K : pz_Sg → Prop} (h : pz_WP t f σ (pz_is (some (.int (pz_b (¬ P)))) σ)) (k : P → K σ) : ∃ Q : pz_Ps, pz_WP t f σ Q ∧ ∀ r σ1, Q (some (.int r)) σ1 → ((r = 0 → K σ1) ∧ (¬ r = 0 → pz_is (some (.int (pz_b (P ∧ R)))) σ (some (.int 0)) σ1)) :=
  pz_ki h ⟨fun z => k (Classical.not_not.mp (pz_b_0.mp z)), fun z => pz_no (fun q => z (pz_b_0.mpr (fun y => y q.1)))⟩
theorem qz_te {t : Nat} {f : pz_Fr} {σ : pz_Sg} {P : Prop} (h : pz_WP t f σ (pz_is (some (.int (pz_b P))) σ)) : ∃ Q : pz_Ps, pz_WP t f σ Q ∧ ∀ r σ1, Q (some (.int r)) σ1 → ((r = 0 → pz_is (some (.int (pz_b P))) σ (some (.int 0)) σ1) ∧ (¬ r = 0 → pz_is (some (.int (pz_b P))) σ (some (.int 1)) σ1)) :=
  pz_ki h pz_re
theorem qz_ne {t : Nat} {f : pz_Fr} {σ : pz_Sg} {P : Prop} (h : pz_WP t f σ (pz_is (some (.int (pz_b (¬ P)))) σ)) : ∃ Q : pz_Ps, pz_WP t f σ Q ∧ ∀ r σ1, Q (some (.int r)) σ1 → ((r = 0 → pz_is (some (.int (pz_b P))) σ (some (.int 1)) σ1) ∧ (¬ r = 0 → pz_is (some (.int (pz_b P))) σ (some (.int 0)) σ1)) :=
  pz_ki h ⟨fun z => pz_yes (Classical.not_not.mp (pz_b_0.mp z)), fun z => pz_no (fun q => z (pz_b_0.mpr (fun y => y q)))⟩
theorem w_byn {σ : pz_Sg} {x y : Int32} {n : Nat} (hy : y = nI n) (hn : n < 2 ^ 30) : pz_WP 109 (0, pz_en 6 [.long x.toInt64, .long (0 : Int64), .long (y - 1).toInt64], []) σ (pz_is (some (.int (pz_b (¬ vp_in x n)))) σ) := by
  rw [← pz_b_c (pz_byn hy hn)]
  exact w_beyond _ _ _ σ
theorem w_byc {σ : pz_Sg} {x : Int32} {d : Int64} {n : Nat} (hd : d.toInt = n) : pz_WP 109 (0, pz_en 6 [.long x.toInt64, .long (0 : Int64), .long d], []) σ (pz_is (some (.int (pz_b (¬ vp_in x (n + 1))))) σ) := by
  rw [← pz_b_c (pz_byc hd)]
  exact w_beyond _ _ _ σ
theorem w_localM {σ : pz_Sg} (x : Int32) : pz_WP 115 (0, pz_en 1 [.int x], []) σ (pz_is (some (.int (pz_b (vp_in x 8)))) σ) := pv_115 _ σ _ (qz_ne (w_byc (n := 7) (by decide)))
theorem w_aField {σ : pz_Sg} {nf : Nat} (bf : nf ≤ 16) (h : σ.1 55 2 = nI nf) (h58 : ∀ f, f < 16 → σ.1 4 f = σ.1 58 f) (x v : Int32) : pz_WP 116 (0, pz_en 3 [.ref 55, .int x, .int v], []) σ (pz_is (some (.int (pz_b (vp_in x nf ∧ σ.1 4 x.toNatClampNeg = v)))) σ) := by
  refine pv_116 _ _ σ _ (qz_n1 (w_byn h (by omega)) fun z => ?_)
  obtain ⟨k, hk, rfl⟩ := vp_in_of z (by omega)
  rw [nI_clamp (by omega), h58 k (by omega)]
  exact ⟨vp_le z bf, fun y => pz_yes ⟨z, y⟩, fun y => pz_no (fun q => y q.2)⟩
theorem w_aStatic {σ : pz_Sg} {ns : Nat} (bs : ns ≤ 8) (h : σ.1 55 5 = nI ns) (h59 : ∀ s, s < 8 → σ.1 5 s = σ.1 59 s) (x v : Int32) : pz_WP 117 (0, pz_en 3 [.ref 55, .int x, .int v], []) σ (pz_is (some (.int (pz_b (vp_in x ns ∧ σ.1 5 x.toNatClampNeg = v)))) σ) := by
  refine pv_117 _ _ σ _ (qz_n1 (w_byn h (by omega)) fun z => ?_)
  obtain ⟨k, hk, rfl⟩ := vp_in_of z (by omega)
  rw [nI_clamp (by omega), h59 k (by omega)]
  exact ⟨vp_le z bs, fun y => pz_yes ⟨z, y⟩, fun y => pz_no (fun q => y q.2)⟩
set_option maxHeartbeats 4000000 in
theorem w_fitsM {σ : pz_Sg} {nt nf ns nm m : Nat} (hc : iv_ct σ.1 nt nf ns nm) (hr : iv_rf σ.1 nf) (hmt : ∀ m, m < nm → σ.1 6 m = σ.1 60 m ∧ σ.1 7 m = σ.1 61 m ∧ σ.1 8 m = σ.1 62 m) (hm : m < nm) (o a b c : Int32) (ho : vp_in o 32) : pz_WP 118 (0, pz_en 6 [.ref 55, .int (nI m), .int o, .int a, .int b, .int c], []) σ (pz_is (some (.int (pz_b (iv_ft σ.1 nt nf ns nm m o a b c)))) σ) := by
  obtain ⟨⟨c1, d1, b1⟩, ⟨c2, d2, b2⟩, ⟨c3, d3, b3⟩, ⟨c4, d4, b4⟩⟩ := hc
  obtain ⟨rf1, rf2, rs⟩ := hr
  refine pv_118 _ _ _ _ _ σ _ ⟨fun z => ?_, fun z => ?_, fun z => ?_, fun z => ?_, fun z => ?_, fun z => ?_, fun z => ?_, fun z => ?_, fun z => ?_, fun z => ?_, fun z => ?_, fun z => ?_, fun z => ?_, fun z => ?_, fun z => ?_, fun z => ?_, fun z => ?_, fun z => ?_, fun z => ?_, fun z => ?_, fun z => ?_, fun z => ?_, fun z => ?_, fun z => ?_, fun z => ?_, fun z => ?_, fun z => ?_, fun z => ?_, fun z => ?_, fun z => ?_, fun z => ?_, fun z => ?_, trivial⟩
  · have e : o = nI 31 := by
      obtain ⟨k, hk, rfl⟩ := vp_in_of ho (by decide)
      rw [nI_toInt (by omega)] at z
      have : k = 31 := by omega
      rw [this]
    subst e
    rw [pz_b_c (show iv_ft σ.1 nt nf ns nm m (nI 31) a b c ↔ (σ.1 8 m = 0 ∨ vp_in a 8) from (qz_ft (by decide)).trans ⟨fun h => h.1, fun h => ⟨h, trivial, trivial, fun y => absurd y (by decide)⟩⟩)]
    have e8 : σ.1 62 m = σ.1 8 m := (hmt m hm).2.2.symm
    rw [nI_clamp (by omega), e8]
    exact ⟨vp_in_nI (by omega) (by decide), fun y => pz_yes (Or.inl y), fun y => pz_ki (w_localM _) ⟨fun u => pz_no (fun q => q.elim y (pz_b_0.mp u)), fun u => pz_yes (Or.inr (Classical.not_not.mp fun q => u (pz_b_0.mpr q)))⟩⟩
  · subst z
    rw [pz_b_c (show iv_ft σ.1 nt nf ns nm m (0) a b c ↔ vp_in a 8 from (qz_ft (k := 0) (by decide)).trans ⟨fun h => h.1, fun h => ⟨h, trivial, trivial, fun y => absurd y (by decide)⟩⟩)]
    exact pz_ki (w_localM _) (pz_kb rfl)
  · subst z
    rw [pz_b_c (show iv_ft σ.1 nt nf ns nm m (1) a b c ↔ vp_in a 8 ∧ vp_in b 8 ∧ vp_in c 8 from (qz_ft (k := 1) (by decide)).trans ⟨fun h => ⟨h.1, h.2.1, h.2.2.1⟩, fun h => ⟨h.1, h.2.1, h.2.2, fun y => absurd y (by decide)⟩⟩)]
    refine qz_t1 (w_localM _) fun hp0 => ?_
    rw [pz_b_c (and_iff_right hp0)]
    refine qz_t1 (w_localM _) fun hp1 => ?_
    rw [pz_b_c (and_iff_right hp1)]
    exact qz_te (w_localM _)
  · subst z
    rw [pz_b_c (show iv_ft σ.1 nt nf ns nm m (nI 2) a b c ↔ vp_in a 8 ∧ vp_in b 8 ∧ vp_in c 8 from (qz_ft (k := 2) (by decide)).trans ⟨fun h => ⟨h.1, h.2.1, h.2.2.1⟩, fun h => ⟨h.1, h.2.1, h.2.2, fun y => absurd y (by decide)⟩⟩)]
    refine qz_t1 (w_localM _) fun hp0 => ?_
    rw [pz_b_c (and_iff_right hp0)]
    refine qz_t1 (w_localM _) fun hp1 => ?_
    rw [pz_b_c (and_iff_right hp1)]
    exact qz_te (w_localM _)
  · subst z
    rw [pz_b_c (show iv_ft σ.1 nt nf ns nm m (nI 3) a b c ↔ vp_in a 8 ∧ vp_in b 8 ∧ vp_in c 8 from (qz_ft (k := 3) (by decide)).trans ⟨fun h => ⟨h.1, h.2.1, h.2.2.1⟩, fun h => ⟨h.1, h.2.1, h.2.2, fun y => absurd y (by decide)⟩⟩)]
    refine qz_t1 (w_localM _) fun hp0 => ?_
    rw [pz_b_c (and_iff_right hp0)]
    refine qz_t1 (w_localM _) fun hp1 => ?_
    rw [pz_b_c (and_iff_right hp1)]
    exact qz_te (w_localM _)
  · subst z
    rw [pz_b_c (show iv_ft σ.1 nt nf ns nm m (nI 4) a b c ↔ vp_in a 8 ∧ vp_in b 8 ∧ vp_in c 8 from (qz_ft (k := 4) (by decide)).trans ⟨fun h => ⟨h.1, h.2.1, h.2.2.1⟩, fun h => ⟨h.1, h.2.1, h.2.2, fun y => absurd y (by decide)⟩⟩)]
    refine qz_t1 (w_localM _) fun hp0 => ?_
    rw [pz_b_c (and_iff_right hp0)]
    refine qz_t1 (w_localM _) fun hp1 => ?_
    rw [pz_b_c (and_iff_right hp1)]
    exact qz_te (w_localM _)
  · subst z
    rw [pz_b_c (show iv_ft σ.1 nt nf ns nm m (nI 5) a b c ↔ vp_in a 8 ∧ vp_in b 8 ∧ vp_in c 8 from (qz_ft (k := 5) (by decide)).trans ⟨fun h => ⟨h.1, h.2.1, h.2.2.1⟩, fun h => ⟨h.1, h.2.1, h.2.2, fun y => absurd y (by decide)⟩⟩)]
    refine qz_t1 (w_localM _) fun hp0 => ?_
    rw [pz_b_c (and_iff_right hp0)]
    refine qz_t1 (w_localM _) fun hp1 => ?_
    rw [pz_b_c (and_iff_right hp1)]
    exact qz_te (w_localM _)
  · subst z
    rw [pz_b_c (show iv_ft σ.1 nt nf ns nm m (nI 6) a b c ↔ vp_in a 8 from (qz_ft (k := 6) (by decide)).trans ⟨fun h => h.1, fun h => ⟨h, trivial, trivial, fun y => absurd y (by decide)⟩⟩)]
    exact pz_ki (w_localM _) (pz_kb rfl)
  · subst z
    rw [pz_b_c (show iv_ft σ.1 nt nf ns nm m (nI 7) a b c ↔ vp_in a 8 ∧ vp_in b 8 from (qz_ft (k := 7) (by decide)).trans ⟨fun h => ⟨h.1, h.2.1⟩, fun h => ⟨h.1, h.2, trivial, fun y => absurd y (by decide)⟩⟩)]
    refine qz_t1 (w_localM _) fun hp0 => ?_
    rw [pz_b_c (and_iff_right hp0)]
    exact qz_te (w_localM _)
  · subst z
    rw [pz_b_c (show iv_ft σ.1 nt nf ns nm m (nI 8) a b c ↔ vp_in a 8 ∧ vp_in b nt from (qz_ft (k := 8) (by decide)).trans ⟨fun h => ⟨h.1, h.2.1⟩, fun h => ⟨h.1, h.2, trivial, fun y => absurd y (by decide)⟩⟩)]
    refine qz_t1 (w_localM _) fun hp0 => ?_
    rw [pz_b_c (and_iff_right hp0)]
    exact qz_ne (w_byn d1 (by omega))
  · subst z
    rw [pz_b_c (show iv_ft σ.1 nt nf ns nm m (nI 9) a b c ↔ vp_in a 8 ∧ vp_in b 8 from (qz_ft (k := 9) (by decide)).trans ⟨fun h => ⟨h.1, h.2.1⟩, fun h => ⟨h.1, h.2, trivial, fun y => absurd y (by decide)⟩⟩)]
    refine qz_t1 (w_localM _) fun hp0 => ?_
    rw [pz_b_c (and_iff_right hp0)]
    exact qz_te (w_localM _)
  · subst z
    rw [pz_b_c (show iv_ft σ.1 nt nf ns nm m (nI 10) a b c ↔ vp_in a 8 ∧ vp_in b 8 ∧ (vp_in c nf ∧ σ.1 4 c.toNatClampNeg = 0) from (qz_ft (k := 10) (by decide)).trans ⟨fun h => ⟨h.1, h.2.1, h.2.2.1⟩, fun h => ⟨h.1, h.2.1, h.2.2, fun y => absurd y (by decide)⟩⟩)]
    refine qz_t1 (w_localM _) fun hp0 => ?_
    rw [pz_b_c (and_iff_right hp0)]
    refine qz_t1 (w_localM _) fun hp1 => ?_
    rw [pz_b_c (and_iff_right hp1)]
    exact qz_te (w_aField b2 d2 (fun f hf => (rf1 f hf).1) _ 0)
  · subst z
    rw [pz_b_c (show iv_ft σ.1 nt nf ns nm m (nI 11) a b c ↔ vp_in a 8 ∧ vp_in b 8 ∧ (vp_in c nf ∧ σ.1 4 c.toNatClampNeg = 0) from (qz_ft (k := 11) (by decide)).trans ⟨fun h => ⟨h.1, h.2.1, h.2.2.1⟩, fun h => ⟨h.1, h.2.1, h.2.2, fun y => absurd y (by decide)⟩⟩)]
    refine qz_t1 (w_localM _) fun hp0 => ?_
    rw [pz_b_c (and_iff_right hp0)]
    refine qz_t1 (w_localM _) fun hp1 => ?_
    rw [pz_b_c (and_iff_right hp1)]
    exact qz_te (w_aField b2 d2 (fun f hf => (rf1 f hf).1) _ 0)
  · subst z
    rw [pz_b_c (show iv_ft σ.1 nt nf ns nm m (nI 12) a b c ↔ vp_in a 8 ∧ vp_in b 8 ∧ (vp_in c nf ∧ σ.1 4 c.toNatClampNeg = 1) from (qz_ft (k := 12) (by decide)).trans ⟨fun h => ⟨h.1, h.2.1, h.2.2.1⟩, fun h => ⟨h.1, h.2.1, h.2.2, fun y => absurd y (by decide)⟩⟩)]
    refine qz_t1 (w_localM _) fun hp0 => ?_
    rw [pz_b_c (and_iff_right hp0)]
    refine qz_t1 (w_localM _) fun hp1 => ?_
    rw [pz_b_c (and_iff_right hp1)]
    exact qz_te (w_aField b2 d2 (fun f hf => (rf1 f hf).1) _ 1)
  · subst z
    rw [pz_b_c (show iv_ft σ.1 nt nf ns nm m (nI 13) a b c ↔ vp_in a 8 ∧ vp_in b 8 ∧ (vp_in c nf ∧ σ.1 4 c.toNatClampNeg = 1) from (qz_ft (k := 13) (by decide)).trans ⟨fun h => ⟨h.1, h.2.1, h.2.2.1⟩, fun h => ⟨h.1, h.2.1, h.2.2, fun y => absurd y (by decide)⟩⟩)]
    refine qz_t1 (w_localM _) fun hp0 => ?_
    rw [pz_b_c (and_iff_right hp0)]
    refine qz_t1 (w_localM _) fun hp1 => ?_
    rw [pz_b_c (and_iff_right hp1)]
    exact qz_te (w_aField b2 d2 (fun f hf => (rf1 f hf).1) _ 1)
  · subst z
    rw [pz_b_c (show iv_ft σ.1 nt nf ns nm m (nI 14) a b c ↔ vp_in a 8 ∧ vp_in b 8 ∧ vp_in c 8 from (qz_ft (k := 14) (by decide)).trans ⟨fun h => ⟨h.1, h.2.1, h.2.2.1⟩, fun h => ⟨h.1, h.2.1, h.2.2, fun y => absurd y (by decide)⟩⟩)]
    refine qz_t1 (w_localM _) fun hp0 => ?_
    rw [pz_b_c (and_iff_right hp0)]
    refine qz_t1 (w_localM _) fun hp1 => ?_
    rw [pz_b_c (and_iff_right hp1)]
    exact qz_te (w_localM _)
  · subst z
    rw [pz_b_c (show iv_ft σ.1 nt nf ns nm m (nI 15) a b c ↔ vp_in a 8 ∧ vp_in b 8 ∧ vp_in c 8 from (qz_ft (k := 15) (by decide)).trans ⟨fun h => ⟨h.1, h.2.1, h.2.2.1⟩, fun h => ⟨h.1, h.2.1, h.2.2, fun y => absurd y (by decide)⟩⟩)]
    refine qz_t1 (w_localM _) fun hp0 => ?_
    rw [pz_b_c (and_iff_right hp0)]
    refine qz_t1 (w_localM _) fun hp1 => ?_
    rw [pz_b_c (and_iff_right hp1)]
    exact qz_te (w_localM _)
  · subst z
    rw [pz_b_c (show iv_ft σ.1 nt nf ns nm m (nI 16) a b c ↔ vp_in a 8 ∧ (vp_in b ns ∧ σ.1 5 b.toNatClampNeg = 0) from (qz_ft (k := 16) (by decide)).trans ⟨fun h => ⟨h.1, h.2.1⟩, fun h => ⟨h.1, h.2, trivial, fun y => absurd y (by decide)⟩⟩)]
    refine qz_t1 (w_localM _) fun hp0 => ?_
    rw [pz_b_c (and_iff_right hp0)]
    exact qz_te (w_aStatic b3 d3 (fun s hs => (rs s hs).1) _ 0)
  · subst z
    rw [pz_b_c (show iv_ft σ.1 nt nf ns nm m (nI 17) a b c ↔ vp_in b 8 ∧ (vp_in a ns ∧ σ.1 5 a.toNatClampNeg = 0) from (qz_ft (k := 17) (by decide)).trans ⟨fun h => ⟨h.2.1, h.1⟩, fun h => ⟨h.2, h.1, trivial, fun y => absurd y (by decide)⟩⟩)]
    refine qz_t1 (w_localM _) fun hp0 => ?_
    rw [pz_b_c (and_iff_right hp0)]
    exact qz_te (w_aStatic b3 d3 (fun s hs => (rs s hs).1) _ 0)
  · subst z
    rw [pz_b_c (show iv_ft σ.1 nt nf ns nm m (nI 18) a b c ↔ vp_in a 8 ∧ (vp_in b ns ∧ σ.1 5 b.toNatClampNeg = 1) from (qz_ft (k := 18) (by decide)).trans ⟨fun h => ⟨h.1, h.2.1⟩, fun h => ⟨h.1, h.2, trivial, fun y => absurd y (by decide)⟩⟩)]
    refine qz_t1 (w_localM _) fun hp0 => ?_
    rw [pz_b_c (and_iff_right hp0)]
    exact qz_te (w_aStatic b3 d3 (fun s hs => (rs s hs).1) _ 1)
  · subst z
    rw [pz_b_c (show iv_ft σ.1 nt nf ns nm m (nI 19) a b c ↔ vp_in b 8 ∧ (vp_in a ns ∧ σ.1 5 a.toNatClampNeg = 1) from (qz_ft (k := 19) (by decide)).trans ⟨fun h => ⟨h.2.1, h.1⟩, fun h => ⟨h.2, h.1, trivial, fun y => absurd y (by decide)⟩⟩)]
    refine qz_t1 (w_localM _) fun hp0 => ?_
    rw [pz_b_c (and_iff_right hp0)]
    exact qz_te (w_aStatic b3 d3 (fun s hs => (rs s hs).1) _ 1)
  · subst z
    rw [pz_b_c (show iv_ft σ.1 nt nf ns nm m (nI 20) a b c ↔ vp_in a 8 ∧ vp_in b 8 from (qz_ft (k := 20) (by decide)).trans ⟨fun h => ⟨h.1, h.2.1⟩, fun h => ⟨h.1, h.2, trivial, fun y => absurd y (by decide)⟩⟩)]
    refine qz_t1 (w_localM _) fun hp0 => ?_
    rw [pz_b_c (and_iff_right hp0)]
    exact qz_te (w_localM _)
  · subst z
    rw [pz_b_c (show iv_ft σ.1 nt nf ns nm m (nI 21) a b c ↔ vp_in a 8 ∧ vp_in c 8 ∧ vp_in b nm ∧ (a + σ.1 6 b.toNatClampNeg ≤ nI 8 ∧ c + σ.1 7 b.toNatClampNeg ≤ nI 8) from (qz_ft (k := 21) (by decide)).trans ⟨fun h => ⟨h.1, h.2.2.1, h.2.1, h.2.2.2 rfl⟩, fun h => ⟨h.1, h.2.2.1, h.2.1, fun _ => h.2.2.2⟩⟩)]
    refine qz_t1 (w_localM _) fun hp0 => ?_
    rw [pz_b_c (and_iff_right hp0)]
    refine qz_t1 (w_localM _) fun hp1 => ?_
    rw [pz_b_c (and_iff_right hp1)]
    refine qz_n1 (w_byn d4 (by omega)) fun hp2 => ?_
    rw [pz_b_c (and_iff_right hp2)]
    obtain ⟨j, hj, rfl⟩ := vp_in_of hp2 (by omega)
    have e6 : σ.1 60 j = σ.1 6 j := (hmt j hj).1.symm
    have e7 : σ.1 61 j = σ.1 7 j := (hmt j hj).2.1.symm
    rw [nI_clamp (by omega), e6, e7]
    exact ⟨vp_le hp2 b4, fun y => pz_no (fun q => absurd q.1 (Int32.not_le.mpr y)), fun y => ⟨vp_le hp2 b4, fun u => pz_no (fun q => absurd q.2 (Int32.not_le.mpr u)), fun u => pz_yes ⟨Int32.not_lt.mp y, Int32.not_lt.mp u⟩⟩⟩
  · subst z
    rw [pz_b_c (show iv_ft σ.1 nt nf ns nm m (nI 22) a b c ↔ vp_in a 8 from (qz_ft (k := 22) (by decide)).trans ⟨fun h => h.1, fun h => ⟨h, trivial, trivial, fun y => absurd y (by decide)⟩⟩)]
    exact pz_ki (w_localM _) (pz_kb rfl)
  · subst z
    rw [pz_b_c (show iv_ft σ.1 nt nf ns nm m (nI 23) a b c ↔ vp_in a 8 ∧ vp_in b 8 ∧ vp_in c 25 from (qz_ft (k := 23) (by decide)).trans ⟨fun h => ⟨h.1, h.2.1, h.2.2.1⟩, fun h => ⟨h.1, h.2.1, h.2.2, fun y => absurd y (by decide)⟩⟩)]
    refine qz_t1 (w_localM _) fun hp0 => ?_
    rw [pz_b_c (and_iff_right hp0)]
    refine qz_t1 (w_localM _) fun hp1 => ?_
    rw [pz_b_c (and_iff_right hp1)]
    exact qz_ne (w_byc (n := 24) (by decide))
  · subst z
    rw [pz_b_c (show iv_ft σ.1 nt nf ns nm m (nI 24) a b c ↔ vp_in a 8 ∧ vp_in b 8 ∧ vp_in c 25 from (qz_ft (k := 24) (by decide)).trans ⟨fun h => ⟨h.1, h.2.1, h.2.2.1⟩, fun h => ⟨h.1, h.2.1, h.2.2, fun y => absurd y (by decide)⟩⟩)]
    refine qz_t1 (w_localM _) fun hp0 => ?_
    rw [pz_b_c (and_iff_right hp0)]
    refine qz_t1 (w_localM _) fun hp1 => ?_
    rw [pz_b_c (and_iff_right hp1)]
    exact qz_ne (w_byc (n := 24) (by decide))
  · subst z
    rw [pz_b_c (show iv_ft σ.1 nt nf ns nm m (nI 25) a b c ↔ vp_in a 8 ∧ vp_in c 25 from (qz_ft (k := 25) (by decide)).trans ⟨fun h => ⟨h.1, h.2.2.1⟩, fun h => ⟨h.1, trivial, h.2, fun y => absurd y (by decide)⟩⟩)]
    refine qz_t1 (w_localM _) fun hp0 => ?_
    rw [pz_b_c (and_iff_right hp0)]
    exact qz_ne (w_byc (n := 24) (by decide))
  · subst z
    rw [pz_b_c (show iv_ft σ.1 nt nf ns nm m (nI 26) a b c ↔ vp_in a 8 ∧ vp_in b 8 ∧ vp_in c 25 from (qz_ft (k := 26) (by decide)).trans ⟨fun h => ⟨h.1, h.2.1, h.2.2.1⟩, fun h => ⟨h.1, h.2.1, h.2.2, fun y => absurd y (by decide)⟩⟩)]
    refine qz_t1 (w_localM _) fun hp0 => ?_
    rw [pz_b_c (and_iff_right hp0)]
    refine qz_t1 (w_localM _) fun hp1 => ?_
    rw [pz_b_c (and_iff_right hp1)]
    exact qz_ne (w_byc (n := 24) (by decide))
  · subst z
    rw [pz_b_c (show iv_ft σ.1 nt nf ns nm m (nI 27) a b c ↔ vp_in a 8 ∧ vp_in b nt ∧ vp_in c 25 from (qz_ft (k := 27) (by decide)).trans ⟨fun h => ⟨h.1, h.2.1, h.2.2.1⟩, fun h => ⟨h.1, h.2.1, h.2.2, fun y => absurd y (by decide)⟩⟩)]
    refine qz_t1 (w_localM _) fun hp0 => ?_
    rw [pz_b_c (and_iff_right hp0)]
    refine qz_n1 (w_byn d1 (by omega)) fun hp1 => ?_
    rw [pz_b_c (and_iff_right hp1)]
    exact qz_ne (w_byc (n := 24) (by decide))
  · subst z
    rw [pz_b_c (show iv_ft σ.1 nt nf ns nm m (nI 28) a b c ↔ vp_in c 25 from (qz_ft (k := 28) (by decide)).trans ⟨fun h => h.2.2.1, fun h => ⟨trivial, trivial, h, fun y => absurd y (by decide)⟩⟩)]
    exact qz_ne (w_byc (n := 24) (by decide))
  · subst z
    rw [pz_b_c (show iv_ft σ.1 nt nf ns nm m (nI 29) a b c ↔ vp_in a 8 ∧ vp_in b nt from (qz_ft (k := 29) (by decide)).trans ⟨fun h => ⟨h.1, h.2.1⟩, fun h => ⟨h.1, h.2, trivial, fun y => absurd y (by decide)⟩⟩)]
    refine qz_t1 (w_localM _) fun hp0 => ?_
    rw [pz_b_c (and_iff_right hp0)]
    exact qz_ne (w_byn d1 (by omega))
  · subst z
    rw [pz_b_c (show iv_ft σ.1 nt nf ns nm m (nI 30) a b c ↔ vp_in a 4 from (qz_ft (k := 30) (by decide)).trans ⟨fun h => h.1, fun h => ⟨h, trivial, trivial, fun y => absurd y (by decide)⟩⟩)]
    exact qz_ne (w_byc (n := 3) (by decide))
/-- Program.addLine -/
theorem w_addLine {σ : pz_Sg} {m l : Nat} (hm : m < 10) (h9 : σ.1 9 m = nI l) (hl : l < 24) (o a b c : Int32) : pz_WP 63 (0, pz_en 7 [.ref 1, .int (nI m), .int o, .int a, .int b, .int c], []) σ (pz_is (some (.int (nI l))) (pz_up (pz_up (pz_up (pz_up (pz_up σ 10 (24 * m + l) o) 11 (24 * m + l) a) 12 (24 * m + l) b) 13 (24 * m + l) c) 9 m (nI (l + 1)))) := by
  have cm : (nI m).toNatClampNeg = m := nI_clamp (by omega)
  have vm : vp_in (nI m) 10 := vp_in_nI hm (by decide)
  have ix : nI m * nI 24 + nI l = nI (24 * m + l) := by rw [pk_mul, nI_add, Nat.mul_comm]
  have cx : (nI (24 * m + l)).toNatClampNeg = 24 * m + l := nI_clamp (by omega)
  have vx : vp_in (nI (24 * m + l)) 240 := vp_in_nI (by omega) (by decide)
  refine pv_63 _ _ _ _ _ σ _ ?_
  rw [cm, h9, ix, cx]
  refine ⟨vm, vx, ?_⟩
  rintro σ1 rfl
  refine ⟨vx, ?_⟩
  rintro σ1 rfl
  refine ⟨vx, ?_⟩
  rintro σ1 rfl
  refine ⟨vx, ?_⟩
  rintro σ1 rfl
  refine ⟨vm, vm, ?_⟩
  rintro σ1 rfl
  rw [show (pz_up (pz_up (pz_up (pz_up σ 10 (24 * m + l) o) 11 (24 * m + l) a) 12 (24 * m + l) b) 13 (24 * m + l) c).1 9 m = nI l from h9, nI_1]
  exact ⟨rfl, rfl⟩
theorem op_line (L : Nat) (ys : Nat → Int32) : pz_O4 (iv L ys) := by
  intro mm o a b c
  refine op_known fun σ n hn H => ?_
  have H' := iv_up H
  obtain ⟨h0, nt, nf, ns, nm, nx, h1, h2, h3, h4, h5, h6⟩ := H
  obtain ⟨ct, p2, p3, p4, p5, p6, p7⟩ := id h1
  obtain ⟨t1, t2, t3, ⟨c4, d4, b4⟩⟩ := id ct
  by_cases g : vp_in mm nm
  · obtain ⟨m, hm, rfl⟩ := vp_in_of g (by omega)
    have cm : (nI m).toNatClampNeg = m := nI_clamp (by omega)
    have vm : vp_in (nI m) 10 := vp_in_nI (by omega) (by decide)
    obtain ⟨g1, g2, g3, ⟨l1, l, l2, l3⟩, g5⟩ := p5.1 m hm
    have l4 : σ.1 63 m = nI l := l1.symm.trans l3
    have hmt : ∀ m, m < nm → σ.1 6 m = σ.1 60 m ∧ σ.1 7 m = σ.1 61 m ∧ σ.1 8 m = σ.1 62 m := fun j hj => ⟨(p5.1 j hj).1.1, (p5.1 j hj).2.1.1, (p5.1 j hj).2.2.1.1⟩
    have hC := w_fits (m := m) ct (fun s hs => (p4.2.2 s hs).2) (by omega) o a b c
    by_cases f : iv_ft σ.1 nt nf ns nm m o a b c
    · rw [pz_b_t f] at hC
      have A : ∀ {P : pz_Ps}, (vp_in (nI m) 10 ∧ ((σ.1 9 m < nI 24 → (∀ σ3 : pz_Sg, σ3 = pz_up σ 0 10 0 → ∃ Q : pz_Ps, pz_WP 63 (0, pz_en 7 [.ref 1, .int (nI m), .int o, .int a, .int b, .int c], []) σ3 Q ∧ ∀ r4 σ4, Q (some (.int r4)) σ4 → P (some (.int r4)) σ4)) ∧ (¬ σ.1 9 m < nI 24 → P (some (.int (-(nI 3)))) σ))) → pz_WP 86 (0, pz_en 6 [.ref 0, .int (nI m), .int o, .int a, .int b, .int c], []) σ P := fun h => pv_86 _ _ _ _ _ σ _ (pz_ki (w_isMethod c4 (by omega) _) ⟨fun z => absurd g (pz_b_0.mp z), fun _ => pz_ki hC ⟨fun z => absurd z (by decide), fun _ => by rw [cm]; exact h⟩⟩)
      by_cases h : l < 24
      · have ix : nI 24 * nI m + nI l = nI (24 * m + l) := by rw [pk_mul, nI_add]
        have cx : (nI (24 * m + l)).toNatClampNeg = 24 * m + l := nI_clamp (by omega)
        have vx : vp_in (nI (24 * m + l)) 240 := vp_in_nI (by omega) (by decide)
        have hM := w_fitsM (σ := (pz_up (pz_up (pz_up (pz_up (pz_up (pz_up σ 0 10 0) 10 (24 * m + l) o) 11 (24 * m + l) a) 12 (24 * m + l) b) 13 (24 * m + l) c) 9 m (nI (l + 1)))) (nt := nt) (nf := nf) (ns := ns) (nm := nm) (m := m) ct p4 hmt hm o a b c f.1
        rw [pz_b_t (show iv_ft (pz_up (pz_up (pz_up (pz_up (pz_up (pz_up σ 0 10 0) 10 (24 * m + l) o) 11 (24 * m + l) a) 12 (24 * m + l) b) 13 (24 * m + l) c) 9 m (nI (l + 1))).1 nt nf ns nm m o a b c from f)] at hM
        refine ⟨nI l, (pz_up (pz_up (pz_up (pz_up (pz_up (pz_up σ 0 10 0) 10 (24 * m + l) o) 11 (24 * m + l) a) 12 (24 * m + l) b) 13 (24 * m + l) c) 9 m (nI (l + 1))), pz_up (pz_up (pz_up (pz_up (pz_up (pz_up (pz_up (pz_up (pz_up (pz_up (pz_up (pz_up σ 0 10 0) 10 (24 * m + l) o) 11 (24 * m + l) a) 12 (24 * m + l) b) 13 (24 * m + l) c) 9 m (nI (l + 1))) 55 21 0) 64 (24 * m + l) o) 65 (24 * m + l) a) 66 (24 * m + l) b) 67 (24 * m + l) c) 63 m (nI (l + 1)), A ⟨vm, fun _ => ?_, fun z => absurd ((pz_lt8 l3 (by omega) (by decide)).mpr h) z⟩, ⟨rfl, rfl⟩, pv_119 _ _ _ _ _ _ _ (pz_ki (w_byn (x := nI m) (n := nm) d4 (by omega)) ⟨fun _ => pz_ki (w_byc (x := o) (n := 31) (by decide)) ⟨fun _ => pz_ki hM ⟨fun z => absurd z (by decide), fun _ => ⟨vm, ?_⟩⟩, fun z => absurd (pz_b_0.mpr (fun y => y f.1)) z⟩, fun z => absurd (pz_b_0.mpr (fun y => y g)) z⟩), ?_⟩
        · rintro σ3 rfl
          exact pz_ki (w_addLine (σ := pz_up σ 0 10 0) (by omega) l3 h o a b c) ⟨rfl, rfl⟩
        · rw [cm]
          refine ⟨fun z => absurd ((pz_eq8 (x := σ.1 63 m) l4 (by omega) (by decide)).mp z) (by omega), fun _ => ?_⟩
          intro σ4 e4
          subst e4
          rw [show (pz_up (pz_up (pz_up (pz_up (pz_up (pz_up (pz_up σ 0 10 0) 10 (24 * m + l) o) 11 (24 * m + l) a) 12 (24 * m + l) b) 13 (24 * m + l) c) 9 m (nI (l + 1))) 55 21 0).1 63 m = nI l from l4, ix, cx]
          refine ⟨vm, vx, ?_⟩
          intro σ5 e5
          subst e5
          refine ⟨vx, ?_⟩
          intro σ6 e6
          subst e6
          refine ⟨vx, ?_⟩
          intro σ7 e7
          subst e7
          refine ⟨vx, ?_⟩
          intro σ8 e8
          subst e8
          refine ⟨vm, vm, ?_⟩
          intro σ9 e9
          rw [show (pz_up (pz_up (pz_up (pz_up (pz_up (pz_up (pz_up (pz_up (pz_up (pz_up (pz_up σ 0 10 0) 10 (24 * m + l) o) 11 (24 * m + l) a) 12 (24 * m + l) b) 13 (24 * m + l) c) 9 m (nI (l + 1))) 55 21 0) 64 (24 * m + l) o) 65 (24 * m + l) a) 66 (24 * m + l) b) 67 (24 * m + l) c).1 63 m = nI l from l4, nI_1] at e9
          subst e9
          refine ⟨vm, pz_ans ?_ rfl⟩
          rw [qz_rs, qz_m1]
        · refine ⟨pz_ti_u (pz_ti_u (pz_ti_u (pz_ti_u (pz_ti_u (pz_ti_u (pz_ti_u (pz_ti_u (pz_ti_u (pz_ti_u (pz_ti_u (pz_ti_u h0 (by omega)) (by omega)) (by omega)) (by omega)) (by omega)) (by omega)) (by omega)) (by omega)) (by omega)) (by omega)) (by omega)) (by omega), nt, nf, ns, nm, nx, ⟨ct, iv_ty_d (F := σ.1) (fun _ => rfl) (fun _ => rfl) p2, iv_fl_d (F := σ.1) (fun _ => rfl) (fun _ => rfl) (fun _ => rfl) p3, p4, ⟨fun j hj => ?_, fun j j1 j2 => ?_⟩, fun j hj k hk => ?_, iv_ca_g (F := σ.1) (fun _ _ => rfl) (fun _ a b => absurd a (by omega)) (fun _ => rfl) (fun _ => rfl) (fun _ => rfl) (fun _ => rfl) (fun _ => rfl) p7⟩, iv_wd_c (F := σ.1) (qz_fr1 (qz_fr1 (qz_fr1 (qz_fr1 (qz_fr1 (qz_fr1 (qz_fr1 (qz_fr1 (qz_fr1 (qz_fr1 (qz_fr1 (qz_fr1 qz_fr0 rfl) rfl) rfl) rfl) rfl) rfl) rfl) rfl) rfl) rfl) rfl) rfl) rfl rfl h2, iv_pr_c (F := σ.1) (Nat.le_succ n) rfl rfl (fun _ => rfl) (fun _ => rfl) h3, iv_ar_c (F := σ.1) (fun _ => rfl) (fun _ => rfl) (fun _ => rfl) (fun _ => rfl) h4, iv_an_0 rfl rfl, iv_la_c (F := σ.1) (fun _ => rfl) (fun _ => rfl) rfl rfl h6⟩
          · by_cases q : j = m
            · subst q
              refine ⟨g1, g2, g3, ⟨?_, l + 1, by omega, ?_⟩, g5⟩
              · simp [qz_rd]
              · simp [qz_rd]
            · have := p5.1 j hj
              simpa [qz_rd, q] using this
          · have q : ¬ j = m := by omega
            have := p5.2 j j1 j2
            simpa [qz_rd, q] using this
          · by_cases q : j = m ∧ k = l
            · obtain ⟨q1, q2⟩ := q
              subst q1
              subst q2
              refine ⟨by simp [qz_rd], ?_⟩
              have : iv_ft σ.1 nt nf ns nm j o a b c := f
              simpa [qz_rd] using (show iv_ft (pz_up (pz_up (pz_up (pz_up (pz_up (pz_up (pz_up (pz_up (pz_up (pz_up (pz_up (pz_up σ 0 10 0) 10 (24 * j + k) o) 11 (24 * j + k) a) 12 (24 * j + k) b) 13 (24 * j + k) c) 9 j (nI (k + 1))) 55 21 0) 64 (24 * j + k) o) 65 (24 * j + k) a) 66 (24 * j + k) b) 67 (24 * j + k) c) 63 j (nI (k + 1))).1 nt nf ns nm j o a b c from f)
            · have hk2 : k < (σ.1 9 j).toNatClampNeg := by
                by_cases e : j = m
                · subst e
                  have : k < l + 1 := by
                    have e2 : (pz_up (pz_up (pz_up (pz_up (pz_up (pz_up (pz_up (pz_up (pz_up (pz_up (pz_up (pz_up σ 0 10 0) 10 (24 * j + l) o) 11 (24 * j + l) a) 12 (24 * j + l) b) 13 (24 * j + l) c) 9 j (nI (l + 1))) 55 21 0) 64 (24 * j + l) o) 65 (24 * j + l) a) 66 (24 * j + l) b) 67 (24 * j + l) c) 63 j (nI (l + 1))).1 9 j = nI (l + 1) := by simp [qz_rd]
                    rw [e2, nI_clamp (by omega)] at hk
                    exact hk
                  rw [l3, nI_clamp (by omega)]
                  omega
                · simpa [qz_rd, e] using hk
              have bl : (σ.1 9 j).toNatClampNeg ≤ 24 := by
                obtain ⟨-, -, -, ⟨-, y, y2, y3⟩, -⟩ := p5.1 j hj
                rw [y3, nI_clamp (by omega)]
                exact y2
              have e : ¬ 24 * j + k = 24 * m + l := by
                intro z
                have : j = m := by omega
                exact q ⟨this, by omega⟩
              obtain ⟨y1, y2⟩ := p6 j hj k hk2
              refine ⟨by simpa [qz_rd, e] using y1, ?_⟩
              have y3 : iv_ft (pz_up (pz_up (pz_up (pz_up (pz_up (pz_up (pz_up (pz_up (pz_up (pz_up (pz_up (pz_up σ 0 10 0) 10 (24 * m + l) o) 11 (24 * m + l) a) 12 (24 * m + l) b) 13 (24 * m + l) c) 9 m (nI (l + 1))) 55 21 0) 64 (24 * m + l) o) 65 (24 * m + l) a) 66 (24 * m + l) b) 67 (24 * m + l) c) 63 m (nI (l + 1))).1 nt nf ns nm j (σ.1 10 (24 * j + k)) (σ.1 11 (24 * j + k)) (σ.1 12 (24 * j + k)) (σ.1 13 (24 * j + k)) := y2
              simpa [qz_rd, e] using y3
      · refine ⟨-(nI 3), σ, σ, A ⟨vm, fun z => absurd ((pz_lt8 l3 (by omega) (by decide)).mp z) h, fun _ => ⟨rfl, rfl⟩⟩, ⟨rfl, rfl⟩, pv_119 _ _ _ _ _ _ _ (pz_ki (w_byn (x := nI m) (n := nm) d4 (by omega)) ⟨fun _ => pz_ki (w_byc (x := o) (n := 31) (by decide)) ⟨fun _ => pz_ki (w_fitsM ct p4 hmt hm o a b c f.1) ⟨fun z => absurd f (pz_b_0.mp z), fun _ => ⟨vm, ?_⟩⟩, fun z => absurd (pz_b_0.mpr (fun y => y f.1)) z⟩, fun z => absurd (pz_b_0.mpr (fun y => y g)) z⟩), H'⟩
        rw [cm]
        exact ⟨fun _ => ⟨rfl, rfl⟩, fun z => absurd ((pz_eq8 l4 (by omega) (by decide)).mpr (by omega)) z⟩
    · rw [pz_b_f f] at hC
      refine ⟨-(nI 2), σ, σ, pv_86 _ _ _ _ _ σ _ (pz_ki (w_isMethod c4 (by omega) _) ⟨fun z => absurd g (pz_b_0.mp z), fun _ => pz_ki hC ⟨fun _ => ⟨rfl, rfl⟩, fun z => absurd rfl z⟩⟩), ⟨rfl, rfl⟩, pv_119 _ _ _ _ _ _ _ (pz_ki (w_byn (x := nI m) (n := nm) d4 (by omega)) ⟨fun _ => pz_ki (w_byc (x := o) (n := 31) (by decide)) ⟨fun y => pz_ki (w_fitsM ct p4 hmt hm o a b c (Classical.not_not.mp (pz_b_0.mp y))) ⟨fun _ => ⟨rfl, rfl⟩, fun z => absurd (pz_b_0.mpr f) z⟩, fun _ => ⟨rfl, rfl⟩⟩, fun z => absurd (pz_b_0.mpr (fun y => y g)) z⟩), H'⟩
  · exact ⟨-1, σ, σ, pv_86 _ _ _ _ _ σ _ (pz_ki (w_isMethod c4 (by omega) _) ⟨fun _ => ⟨rfl, rfl⟩, fun z => absurd (pz_b_0.mpr g) z⟩), ⟨rfl, rfl⟩, pv_119 _ _ _ _ _ _ _ (pz_ki (w_byn (n := nm) d4 (by omega)) ⟨fun z => absurd g (pz_b_0.mp z), fun _ => ⟨rfl, rfl⟩⟩), H'⟩
