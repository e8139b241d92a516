/-! ===== effects, by, may, free ===== -/
def qz_o4 (F : iv_F) (a m : Nat) : Int32 := ((F a (4 * m) ||| F a (4 * m + 1)) ||| F a (4 * m + 2)) ||| F a (4 * m + 3)
theorem qz_o4_c {F : iv_F} {a b m : Nat} (h : ∀ w, w < 4 → F a (4 * m + w) = F b (4 * m + w)) : qz_o4 F a m = qz_o4 F b m := by
  unfold qz_o4
  rw [h 1 (by decide), h 2 (by decide), h 3 (by decide), show F a (4 * m) = F b (4 * m) from h 0 (by decide)]
theorem qz_i4 {m : Nat} (hm : m < 10) : nI m * nI 4 = nI (4 * m) ∧ vp_in (nI (4 * m)) 40 ∧ vp_in (nI (4 * m) + 1) 40 ∧ vp_in (nI (4 * m) + nI 2) 40 ∧ vp_in (nI (4 * m) + nI 3) 40 ∧ (nI (4 * m)).toNatClampNeg = 4 * m ∧ (nI (4 * m) + 1).toNatClampNeg = 4 * m + 1 ∧ (nI (4 * m) + nI 2).toNatClampNeg = 4 * m + 2 ∧ (nI (4 * m) + nI 3).toNatClampNeg = 4 * m + 3 := by
  rw [nI_1, nI_add, nI_add, pk_mul, Nat.mul_comm]
  exact ⟨rfl, vp_in_nI (by omega) (by decide), vp_in_nI (by omega) (by decide), vp_in_nI (by omega) (by decide), vp_in_nI (by omega) (by decide), nI_clamp (by omega), nI_clamp (by omega), nI_clamp (by omega), nI_clamp (by omega)⟩
theorem w_allR {σ : pz_Sg} {m : Nat} (hm : m < 10) : pz_WP 9 (0, pz_en 3 [.ref 33, .int (nI m)], []) σ (pz_is (some (.int (qz_o4 σ.1 33 m))) σ) := by
  obtain ⟨e, i0, i1, i2, i3, c0, c1, c2, c3⟩ := qz_i4 hm
  refine pv_9r33 _ σ _ ?_
  rw [e, c0, c1, c2, c3]
  exact ⟨i0, i1, i2, i3, rfl, rfl⟩
theorem w_allW {σ : pz_Sg} {m : Nat} (hm : m < 10) : pz_WP 9 (0, pz_en 3 [.ref 34, .int (nI m)], []) σ (pz_is (some (.int (qz_o4 σ.1 34 m))) σ) := by
  obtain ⟨e, i0, i1, i2, i3, c0, c1, c2, c3⟩ := qz_i4 hm
  refine pv_9r34 _ σ _ ?_
  rw [e, c0, c1, c2, c3]
  exact ⟨i0, i1, i2, i3, rfl, rfl⟩
/-- the reference's 'all' -/
theorem w_all {σ : pz_Sg} {m : Nat} (hm : m < 10) (w : Int32) (a : Nat) (hw : (w = 0 ∧ a = 86) ∨ (w = 1 ∧ a = 87)) : pz_WP 143 (0, pz_en 5 [.ref 55, .int (nI m), .int w], []) σ (pz_is (some (.int (qz_o4 σ.1 a m))) σ) := by
  have st : ∀ (k : Nat) (x : Int32), k < 4 → pz_WP 143 (5, [some (.ref 55), some (.int (nI m)), some (.int w), some (.int (x ||| σ.1 a (4 * m + k))), some (.int (nI (k + 1)))], []) σ (pz_is (some (.int (qz_o4 σ.1 a m))) σ) → pz_WP 143 (5, [some (.ref 55), some (.int (nI m)), some (.int w), some (.int x), some (.int (nI k))], []) σ (pz_is (some (.int (qz_o4 σ.1 a m))) σ) := by
    intro k x hk h
    have ix : nI 4 * nI m + nI k = nI (4 * m + k) := by rw [pk_mul, nI_add]
    have cl : (nI (4 * m + k)).toNatClampNeg = 4 * m + k := nI_clamp (by omega)
    have vi : vp_in (nI (4 * m + k)) 40 := vp_in_nI (by omega) (by decide)
    refine pv_143_5 _ _ _ _ σ _ ⟨fun z => absurd z (nI_ge hk (by decide)), fun _ => ?_⟩
    rw [ix, cl, nI_1]
    rcases hw with ⟨h1, h2⟩ | ⟨h1, h2⟩
    · subst h2
      exact ⟨fun _ => ⟨vi, h⟩, fun z => absurd h1 z⟩
    · subst h2
      exact ⟨fun z => absurd (h1.symm.trans z) (by decide), fun _ => ⟨vi, h⟩⟩
  refine pv_143 _ _ σ _ ?_
  refine st 0 0 (by decide) (st 1 _ (by decide) (st 2 _ (by decide) (st 3 _ (by decide) (pv_143_5 _ _ _ _ σ _ ⟨fun _ => pz_ans ?_ rfl, fun z => absurd (by decide) z⟩))))
  unfold qz_o4
  rw [show (0 : Int32) ||| σ.1 a (4 * m + 0) = σ.1 a (4 * m) from Int32.zero_or]
theorem w_isAnalysed {σ : pz_Sg} {n : Nat} (h : σ.1 1 3 = nI n) (hn : n < 2 ^ 31) (v : Int32) : pz_WP 101 (0, pz_en 2 [.ref 0, .int v], []) σ (pz_is (some (.int (pz_b (¬ σ.1 0 10 = 0 ∧ vp_in v n)))) σ) := by
  refine pv_101 v σ _ ⟨fun z => pz_no (fun y => y.1 z), fun z => pz_ki (w_isMethod h hn v) ⟨fun y => pz_no (fun q => pz_b_0.mp y q.2), fun y => pz_yes ⟨z, Classical.not_not.mp fun q => y (pz_b_0.mpr q)⟩⟩⟩
theorem w_noMethod {σ : pz_Sg} {n : Nat} (h : σ.1 55 7 = nI n) (hn : n < 2 ^ 31) (v : Int32) : pz_WP 145 (0, pz_en 2 [.ref 55, .int v], []) σ (pz_is (some (.int (pz_b (¬ (¬ σ.1 55 21 = 0 ∧ vp_in v n))))) σ) := by
  have e := pz_ix (x := v) h hn
  have l : v < σ.1 55 7 ↔ ¬ σ.1 55 7 ≤ v := Int32.not_le.symm
  exact pv_145 v σ _ ⟨fun z => pz_yes (fun q => q.1 z), fun z => ⟨fun y => pz_yes (fun q => (e.mp q.2).1 y), fun y => ⟨fun y2 => pz_no (fun q => q ⟨z, e.mpr ⟨y, l.mp y2⟩⟩), fun y2 => pz_yes (fun q => y2 (l.mpr (e.mp q.2).2))⟩⟩⟩
theorem w_pure {σ : pz_Sg} {m : Nat} (hm : m < 10) : pz_WP 5 (0, pz_en 2 [.ref 31, .int (nI m)], []) σ (pz_is (some (.int (pz_b (qz_o4 σ.1 34 m = 0 ∧ σ.1 37 m = 0)))) σ) := by
  have cl : (nI m).toNatClampNeg = m := nI_clamp (by omega)
  refine pv_5 _ σ _ (pz_ki (w_allW hm) ?_)
  rw [cl]
  exact ⟨fun z => ⟨vp_in_nI hm (by decide), fun y => pz_yes ⟨z, y⟩, fun y => pz_no (fun q => y q.2)⟩, fun z => pz_no (fun q => z q.1)⟩
theorem w_pureM {σ : pz_Sg} {m : Nat} (hm : m < 10) : pz_WP 144 (0, pz_en 2 [.ref 55, .int (nI m)], []) σ (pz_is (some (.int (pz_b (qz_o4 σ.1 87 m = 0 ∧ σ.1 83 m = 0)))) σ) := by
  have cl : (nI m).toNatClampNeg = m := nI_clamp (by omega)
  refine pv_144 _ σ _ (pz_ki (w_all hm 1 87 (Or.inr ⟨rfl, rfl⟩)) ?_)
  rw [cl]
  exact ⟨fun z => ⟨vp_in_nI hm (by decide), fun y => pz_yes ⟨z, y⟩, fun y => pz_no (fun q => y q.2)⟩, fun z => pz_no (fun q => z q.1)⟩
theorem w_repeatable {σ : pz_Sg} {m : Nat} (hm : m < 10) : pz_WP 8 (0, pz_en 2 [.ref 31, .int (nI m)], []) σ (pz_is (some (.int (pz_b ((qz_o4 σ.1 34 m = 0 ∧ σ.1 37 m = 0) ∧ qz_o4 σ.1 33 m = 0 ∧ ¬ σ.1 8 m = nI 2)))) σ) := by
  have cl : (nI m).toNatClampNeg = m := nI_clamp (by omega)
  refine pv_8 _ σ _ (pz_ki (w_pure hm) ⟨fun z => pz_no (fun q => pz_b_0.mp z q.1), fun z => pz_ki (w_allR hm) ?_⟩)
  rw [cl]
  have zp := Classical.not_not.mp fun q => z (pz_b_0.mpr q)
  exact ⟨fun y => ⟨vp_in_nI hm (by decide), fun u => pz_no (fun q => q.2.2 u), fun u => pz_yes ⟨zp, y, u⟩⟩, fun y => pz_no (fun q => y q.2.1)⟩
theorem pz_re {p : Prop} {s : pz_Sg} : ((pz_b p = 0 → pz_is (some (.int (pz_b p))) s (some (.int 0)) s) ∧ (¬ pz_b p = 0 → pz_is (some (.int (pz_b p))) s (some (.int 1)) s)) := ⟨fun z => pz_no (pz_b_0.mp z), fun z => pz_yes (Classical.not_not.mp fun q => z (pz_b_0.mpr q))⟩
/-- a 0 or 1 told again -/
theorem pz_r01 {x : Int32} (h : x = 0 ∨ x = 1) {s : pz_Sg} : ((x = 0 → pz_is (some (.int x)) s (some (.int 0)) s) ∧ (¬ x = 0 → pz_is (some (.int x)) s (some (.int 1)) s)) := ⟨fun z => by rw [z]; exact ⟨rfl, rfl⟩, fun z => by rw [h.resolve_left z]; exact ⟨rfl, rfl⟩⟩
theorem op_effects (L : Nat) (ys : Nat → Int32) : pz_O15 (iv L ys) := by
  intro a w
  refine op_read fun σ n H => ?_
  obtain ⟨-, nt, nf, ns, nm, nx, ⟨⟨-, -, -, ⟨c4, d4, b4⟩⟩, -, -, -, p5, -, -⟩, -, -, -, ⟨a1, a2, a3⟩, -⟩ := H
  have e8 : vp_in w 8 ↔ ¬ w < 0 ∧ ¬ nI 8 ≤ w := pz_ix rfl (by decide)
  by_cases g : ¬ σ.1 0 10 = 0 ∧ vp_in a nm
  · have g' : ¬ σ.1 55 21 = 0 ∧ vp_in a nm := by rw [← a1]; exact g
    have hq : σ.1 0 10 = 1 := a2.resolve_left g.1
    obtain ⟨m, hm, rfl⟩ := vp_in_of g.2 (by omega)
    have hm10 : m < 10 := by omega
    have cl : (nI m).toNatClampNeg = m := nI_clamp (by omega)
    have vm : vp_in (nI m) 10 := vp_in_nI hm10 (by decide)
    obtain ⟨q1, q2, q3, q4, ⟨q5, q5'⟩, ⟨q6, q6'⟩, q7⟩ := a3 hq m hm
    have oR : qz_o4 σ.1 33 m = qz_o4 σ.1 86 m := qz_o4_c fun w hw => (q1 w hw).1
    have oW : qz_o4 σ.1 34 m = qz_o4 σ.1 87 m := qz_o4_c fun w hw => (q1 w hw).2
    obtain ⟨-, -, ⟨r8, -⟩, -⟩ := p5.1 m hm
    -- it is enough to tell what stands behind the tests
    have C : ∀ r, vp_in w 8 → pz_WP 7 (0, pz_en 3 [.ref 31, .int (nI m), .int w], []) σ (pz_is (some (.int r)) σ) → pz_WP 97 (0, pz_en 3 [.ref 0, .int (nI m), .int w], []) σ (pz_is (some (.int r)) σ) := fun r hw h =>
      pv_97 _ _ σ _ (pz_ki (w_isAnalysed c4 (by omega) _) ⟨fun z => absurd g (pz_b_0.mp z), fun _ => ⟨fun z => absurd z (e8.mp hw).1, fun _ => ⟨fun _ => pz_ki h ⟨rfl, rfl⟩, fun z => absurd (pz_ltn.mpr (e8.mp hw).2) z⟩⟩⟩)
    rcases pz_sw 7 (by decide) w with hw | ⟨k, hk, rfl⟩
    · have hn8 : ¬ vp_in w 8 := by rw [vp_in_iff]; omega
      refine ⟨-(nI 2), pv_97 _ _ σ _ (pz_ki (w_isAnalysed c4 (by omega) _) ⟨fun z => absurd g (pz_b_0.mp z), fun _ => ⟨fun _ => ⟨rfl, rfl⟩, fun y => ⟨fun y2 => absurd (e8.mpr ⟨y, pz_ltn.mp y2⟩) hn8, fun _ => ⟨rfl, rfl⟩⟩⟩⟩), pv_146 _ _ σ _ (pz_ki (w_noMethod d4 (by omega) _) ⟨fun _ => ⟨fun _ => ⟨rfl, rfl⟩, ?_, ?_, ?_, ?_, ?_, ?_, ?_, ?_, trivial⟩, fun z => absurd (pz_b_0.mpr (fun y => y g')) z⟩)⟩ <;> (intro z; subst z; exact absurd hw (by decide))
    · have v8 : vp_in (nI k) 8 := vp_in_nI hk (by decide)
      have M : ∀ {P : Prop}, P → ((pz_b (¬ (¬ σ.1 55 21 = 0 ∧ vp_in (nI m) nm)) = 0 → P)) := fun h _ => h
      have N : ∀ {P : Prop}, (¬ pz_b (¬ (¬ σ.1 55 21 = 0 ∧ vp_in (nI m) nm)) = 0 → P) := fun z => absurd (pz_b_0.mpr (fun y => y g')) z
      match k, hk with
      | 0, _ =>
        refine ⟨qz_o4 σ.1 33 m, C _ v8 (pv_7 _ _ σ _ ⟨?_, fun _ => pz_ki (w_allR hm10) ⟨rfl, rfl⟩, ?_, ?_, ?_, ?_, ?_, ?_, trivial⟩), pv_146 _ _ σ _ (pz_ki (w_noMethod d4 (by omega) _) ⟨M ⟨?_, fun _ => pz_ki (w_all hm10 0 86 (Or.inl ⟨rfl, rfl⟩)) (pz_ans oR.symm rfl), ?_, ?_, ?_, ?_, ?_, ?_, ?_, trivial⟩, N⟩)⟩ <;> (intro z; exact absurd z (by decide))
      | 1, _ =>
        refine ⟨qz_o4 σ.1 34 m, C _ v8 (pv_7 _ _ σ _ ⟨?_, ?_, fun _ => pz_ki (w_allW hm10) ⟨rfl, rfl⟩, ?_, ?_, ?_, ?_, ?_, trivial⟩), pv_146 _ _ σ _ (pz_ki (w_noMethod d4 (by omega) _) ⟨M ⟨?_, ?_, fun _ => pz_ki (w_all hm10 1 87 (Or.inr ⟨rfl, rfl⟩)) (pz_ans oW.symm rfl), ?_, ?_, ?_, ?_, ?_, ?_, trivial⟩, N⟩)⟩ <;> (intro z; exact absurd z (by decide))
      | 2, _ =>
        have u : σ.1 83 m = 0 ∨ σ.1 83 m = 1 := by rw [← q5]; exact q5'
        refine ⟨σ.1 37 m, C _ v8 (pv_7 _ _ σ _ ⟨?_, ?_, ?_, fun _ => ⟨vm, by rw [cl]; exact pz_r01 q5'⟩, ?_, ?_, ?_, ?_, trivial⟩), pv_146 _ _ σ _ (pz_ki (w_noMethod d4 (by omega) _) ⟨M ⟨?_, ?_, ?_, fun _ => ⟨vm, by rw [cl, q5]; exact pz_r01 u⟩, ?_, ?_, ?_, ?_, ?_, trivial⟩, N⟩)⟩ <;> (intro z; exact absurd z (by decide))
      | 3, _ =>
        refine ⟨σ.1 35 m, C _ v8 (pv_7 _ _ σ _ ⟨?_, ?_, ?_, ?_, fun _ => ⟨vm, by rw [cl]; exact ⟨rfl, rfl⟩⟩, ?_, ?_, ?_, trivial⟩), pv_146 _ _ σ _ (pz_ki (w_noMethod d4 (by omega) _) ⟨M ⟨?_, ?_, ?_, ?_, fun _ => ⟨vm, by rw [cl]; exact pz_ans q2.symm rfl⟩, ?_, ?_, ?_, ?_, trivial⟩, N⟩)⟩ <;> (intro z; exact absurd z (by decide))
      | 4, _ =>
        refine ⟨σ.1 36 m, C _ v8 (pv_7 _ _ σ _ ⟨?_, ?_, ?_, ?_, ?_, fun _ => ⟨vm, by rw [cl]; exact ⟨rfl, rfl⟩⟩, ?_, ?_, trivial⟩), pv_146 _ _ σ _ (pz_ki (w_noMethod d4 (by omega) _) ⟨M ⟨?_, ?_, ?_, ?_, ?_, fun _ => ⟨vm, by rw [cl]; exact ⟨fun _ => ⟨vm, pz_ans q3.symm rfl⟩, fun y => pz_ans (by rw [q3, q4 (by rw [r8]; exact y)]) rfl⟩⟩, ?_, ?_, ?_, trivial⟩, N⟩)⟩ <;> (intro z; exact absurd z (by decide))
      | 5, _ =>
        have e : pz_b (qz_o4 σ.1 87 m = 0 ∧ σ.1 83 m = 0) = pz_b (qz_o4 σ.1 34 m = 0 ∧ σ.1 37 m = 0) := pz_b_c (by rw [oW, q5])
        refine ⟨_, C _ v8 (pv_7 _ _ σ _ ⟨?_, ?_, ?_, ?_, ?_, ?_, fun _ => pz_ki (w_pure hm10) pz_re, ?_, trivial⟩), pv_146 _ _ σ _ (pz_ki (w_noMethod d4 (by omega) _) ⟨M ⟨?_, ?_, ?_, ?_, ?_, ?_, fun _ => pz_ki (w_pureM hm10) (by rw [e]; exact pz_re), ?_, ?_, trivial⟩, N⟩)⟩ <;> (intro z; exact absurd z (by decide))
      | 6, _ =>
        have e : pz_b (qz_o4 σ.1 87 m = 0 ∧ σ.1 83 m = 0) = pz_b (qz_o4 σ.1 34 m = 0 ∧ σ.1 37 m = 0) := pz_b_c (by rw [oW, q5])
        refine ⟨_, C _ v8 (pv_7 _ _ σ _ ⟨?_, ?_, ?_, ?_, ?_, ?_, ?_, fun _ => pz_ki (w_repeatable hm10) pz_re, trivial⟩), pv_146 _ _ σ _ (pz_ki (w_noMethod d4 (by omega) _) ⟨M ⟨?_, ?_, ?_, ?_, ?_, ?_, ?_, fun _ => pz_ki (w_pureM hm10) ?_, ?_, trivial⟩, N⟩)⟩
        case refine_15 =>
          rw [e]
          refine ⟨fun y => pz_no (fun q => pz_b_0.mp y q.1), fun y => pz_ki (w_all hm10 0 86 (Or.inl ⟨rfl, rfl⟩)) ?_⟩
          rw [← oR, cl, ← r8]
          have zp := Classical.not_not.mp fun q => y (pz_b_0.mpr q)
          exact ⟨fun y => ⟨vm, fun u => pz_no (fun q => q.2.2 u), fun u => pz_yes ⟨zp, y, u⟩⟩, fun y => pz_no (fun q => y q.2.1)⟩
        all_goals (intro z; exact absurd z (by decide))
      | 7, _ =>
        have u : σ.1 82 m = 0 ∨ σ.1 82 m = 1 := by rw [← q6]; exact q6'
        refine ⟨σ.1 38 m, C _ v8 (pv_7 _ _ σ _ ⟨fun _ => ⟨vm, by rw [cl]; exact pz_r01 q6'⟩, ?_, ?_, ?_, ?_, ?_, ?_, ?_, trivial⟩), pv_146 _ _ σ _ (pz_ki (w_noMethod d4 (by omega) _) ⟨M ⟨?_, ?_, ?_, ?_, ?_, ?_, ?_, ?_, fun _ => ⟨vm, by rw [cl, q6]; exact pz_r01 u⟩, trivial⟩, N⟩)⟩ <;> (intro z; exact absurd z (by decide))
  · have g' : ¬ (¬ σ.1 55 21 = 0 ∧ vp_in a nm) := by rw [← a1]; exact g
    exact ⟨-1, pv_97 _ _ σ _ (pz_ki (w_isAnalysed c4 (by omega) _) ⟨fun _ => ⟨rfl, rfl⟩, fun z => absurd (pz_b_0.mpr g) z⟩), pv_146 _ _ σ _ (pz_ki (w_noMethod d4 (by omega) _) ⟨fun z => absurd g' (pz_b_0.mp z), fun _ => ⟨rfl, rfl⟩⟩)⟩
