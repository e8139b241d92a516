/-! ===== by, may, free ===== -/
/-- told of no METHOD, or of nothing ANALYSED -/
theorem qz_na {σ : pz_Sg} {nm : Nat} {a : Int32} (a1 : σ.1 0 10 = σ.1 55 21) : (¬ σ.1 0 10 = 0 ∧ vp_in a nm) ↔ (¬ σ.1 55 21 = 0 ∧ vp_in a nm) := by rw [a1]
theorem op_by (L : Nat) (ys : Nat → Int32) : pz_O16 (iv L ys) := by
  intro a w c _
  refine op_read fun σ n H => ?_
  obtain ⟨-, nt, nf, ns, nm, nx, ⟨⟨-, -, -, ⟨c4, d4, b4⟩⟩, -, -, -, p5, -, -⟩, -, -, -, ⟨a1, a2, a3⟩, -⟩ := H
  have e4 : vp_in w 4 ↔ ¬ w < 0 ∧ ¬ nI 4 ≤ w := pz_ix rfl (by decide)
  have hy : (w.toInt64 < (0 : Int64) ∨ lN 3 < w.toInt64) ↔ ¬ vp_in w (3 + 1) := pz_byc (by decide)
  by_cases g : ¬ σ.1 0 10 = 0 ∧ vp_in a nm
  · have g' := (qz_na a1).mp g
    have hq : σ.1 0 10 = 1 := a2.resolve_left g.1
    obtain ⟨m, hm, rfl⟩ := vp_in_of g.2 (by omega)
    obtain ⟨q1, -⟩ := a3 hq m hm
    by_cases hw : vp_in w 4
    · obtain ⟨k, hk, rfl⟩ := vp_in_of hw (by decide)
      have i1 : nI m * nI 4 + nI k = nI (4 * m + k) := by rw [pk_mul, nI_add, Nat.mul_comm]
      have i2 : nI 4 * nI m + nI k = nI (4 * m + k) := by rw [pk_mul, nI_add]
      have cl : (nI (4 * m + k)).toNatClampNeg = 4 * m + k := nI_clamp (by omega)
      have vi : vp_in (nI (4 * m + k)) 40 := vp_in_nI (by omega) (by decide)
      obtain ⟨r1, r2⟩ := q1 k hk
      by_cases hc : c = 0
      · refine ⟨σ.1 33 (4 * m + k), pv_98 _ _ _ σ _ (pz_ki (w_isAnalysed c4 (by omega) _) ⟨fun z => absurd g (pz_b_0.mp z), fun _ => ⟨fun z => absurd z (e4.mp hw).1, fun _ => ⟨fun _ => ⟨fun _ => ?_, fun z => absurd hc z⟩, fun z => absurd (pz_ltn.mpr (e4.mp hw).2) z⟩⟩⟩), pv_147 _ _ _ σ _ (pz_ki (w_noMethod d4 (by omega) _) ⟨fun _ => pz_ki (w_beyond _ _ _ σ) ⟨fun _ => ⟨fun _ => ?_, fun z => absurd hc z⟩, fun z => absurd (pz_b_0.mpr (fun y => hy.mp y hw)) z⟩, fun z => absurd (pz_b_0.mpr (fun y => y g')) z⟩)⟩
        · rw [i1, cl]; exact ⟨vi, rfl, rfl⟩
        · rw [i2, cl]; exact ⟨vi, pz_ans r1.symm rfl⟩
      · refine ⟨σ.1 34 (4 * m + k), pv_98 _ _ _ σ _ (pz_ki (w_isAnalysed c4 (by omega) _) ⟨fun z => absurd g (pz_b_0.mp z), fun _ => ⟨fun z => absurd z (e4.mp hw).1, fun _ => ⟨fun _ => ⟨fun z => absurd z hc, fun _ => ?_⟩, fun z => absurd (pz_ltn.mpr (e4.mp hw).2) z⟩⟩⟩), pv_147 _ _ _ σ _ (pz_ki (w_noMethod d4 (by omega) _) ⟨fun _ => pz_ki (w_beyond _ _ _ σ) ⟨fun _ => ⟨fun z => absurd z hc, fun _ => ?_⟩, fun z => absurd (pz_b_0.mpr (fun y => hy.mp y hw)) z⟩, fun z => absurd (pz_b_0.mpr (fun y => y g')) z⟩)⟩
        · rw [i1, cl]; exact ⟨vi, rfl, rfl⟩
        · rw [i2, cl]; exact ⟨vi, pz_ans r2.symm rfl⟩
    · exact ⟨-(nI 2), pv_98 _ _ _ σ _ (pz_ki (w_isAnalysed c4 (by omega) _) ⟨fun z => absurd g (pz_b_0.mp z), fun _ => ⟨fun _ => ⟨rfl, rfl⟩, fun z => ⟨fun y => absurd (e4.mpr ⟨z, pz_ltn.mp y⟩) hw, fun _ => ⟨rfl, rfl⟩⟩⟩⟩), pv_147 _ _ _ σ _ (pz_ki (w_noMethod d4 (by omega) _) ⟨fun _ => pz_ki (w_beyond _ _ _ σ) ⟨fun z => absurd (hy.mpr hw) (pz_b_0.mp z), fun _ => ⟨rfl, rfl⟩⟩, fun z => absurd (pz_b_0.mpr (fun y => y g')) z⟩)⟩
  · have g' : ¬ (¬ σ.1 55 21 = 0 ∧ vp_in a nm) := fun z => g ((qz_na a1).mpr z)
    exact ⟨-1, pv_98 _ _ _ σ _ (pz_ki (w_isAnalysed c4 (by omega) _) ⟨fun _ => ⟨rfl, rfl⟩, fun z => absurd (pz_b_0.mpr g) z⟩), pv_147 _ _ _ σ _ (pz_ki (w_noMethod d4 (by omega) _) ⟨fun z => absurd g' (pz_b_0.mp z), fun _ => ⟨rfl, rfl⟩⟩)⟩
theorem w_mayOf (w : Int64) (r : Nat) (σ : pz_Sg) : pz_WP 3 (0, pz_en 3 [.long w, .int (nI r)], []) σ (pz_is (some (.int (iv_my w r))) σ) := pv_3 w _ σ _ ⟨rfl, rfl⟩
theorem op_may (L : Nat) (ys : Nat → Int32) : pz_O17 (iv L ys) := by
  intro a l r
  refine op_read fun σ n H => ?_
  obtain ⟨-, nt, nf, ns, nm, nx, ⟨⟨-, -, -, ⟨c4, d4, b4⟩⟩, -, -, -, p5, -, -⟩, -, -, -, ⟨a1, a2, a3⟩, -⟩ := H
  have e8 : vp_in r 8 ↔ ¬ r < 0 ∧ ¬ nI 8 ≤ r := pz_ix rfl (by decide)
  have hy : (r.toInt64 < (0 : Int64) ∨ lN 7 < r.toInt64) ↔ ¬ vp_in r (7 + 1) := pz_byc (by decide)
  by_cases g : ¬ σ.1 0 10 = 0 ∧ vp_in a nm
  · have g' := (qz_na a1).mp g
    have hq : σ.1 0 10 = 1 := a2.resolve_left g.1
    obtain ⟨m, hm, rfl⟩ := vp_in_of g.2 (by omega)
    obtain ⟨-, -, -, -, -, -, q7⟩ := a3 hq m hm
    obtain ⟨-, -, -, ⟨l1, ln, l2, l3⟩, -⟩ := p5.1 m hm
    have cm : (nI m).toNatClampNeg = m := nI_clamp (by omega)
    have vm : vp_in (nI m) 10 := vp_in_nI (by omega) (by decide)
    have el : vp_in l ln ↔ ¬ l < 0 ∧ ¬ σ.1 9 m ≤ l := pz_ix l3 (by omega)
    have hl := pz_byn (x := l) (y := σ.1 63 m) (n := ln) (by rw [← l1]; exact l3) (by omega)
    by_cases hv : vp_in l ln
    · by_cases hr : vp_in r 8
      · obtain ⟨y, hy', rfl⟩ := vp_in_of hv (by omega)
        obtain ⟨k, hk, rfl⟩ := vp_in_of hr (by decide)
        have i1 : nI m * nI 24 + nI y = nI (24 * m + y) := by rw [pk_mul, nI_add, Nat.mul_comm]
        have i2 : nI 8 * (nI 25 * nI m + nI y) + nI k = nI (8 * (25 * m + y) + k) := by rw [pk_mul, nI_add, pk_mul, nI_add]
        have c1 : (nI (24 * m + y)).toNatClampNeg = 24 * m + y := nI_clamp (by omega)
        have c2 : (nI (8 * (25 * m + y) + k)).toNatClampNeg = 8 * (25 * m + y) + k := nI_clamp (by omega)
        refine ⟨iv_my (σ.2 32 (24 * m + y)) k, pv_99 _ _ _ σ _ (pz_ki (w_isAnalysed c4 (by omega) _) ⟨fun z => absurd g (pz_b_0.mp z), fun _ => ⟨fun z => absurd z (el.mp hv).1, fun _ => ⟨vm, ?_⟩⟩⟩), pv_148 _ _ _ σ _ (pz_ki (w_noMethod d4 (by omega) _) ⟨fun _ => ⟨vm, pz_ki (w_beyond _ _ _ σ) ?_⟩, fun z => absurd (pz_b_0.mpr (fun y => y g')) z⟩)⟩
        · rw [cm]
          refine ⟨fun z => absurd z (el.mp hv).2, fun _ => ⟨fun z => absurd z (e8.mp hr).1, fun _ => ⟨fun _ => ?_, fun z => absurd (pz_ltn.mpr (e8.mp hr).2) z⟩⟩⟩
          rw [i1, c1]
          exact ⟨vp_in_nI (by omega) (by decide), pz_ki (w_mayOf _ _ σ) ⟨rfl, rfl⟩⟩
        · rw [cm]
          refine ⟨fun _ => pz_ki (w_beyond _ _ _ σ) ⟨fun _ => ?_, fun z => absurd (pz_b_0.mpr (fun y => hy.mp y hr)) z⟩, fun z => absurd (pz_b_0.mpr (fun y => hl.mp y hv)) z⟩
          rw [i2, c2]
          exact ⟨vp_in_nI (by omega) (by decide), pz_ans (q7 y (by rw [l3, nI_clamp (by omega)]; exact hy') k hk).symm rfl⟩
      · refine ⟨-1, pv_99 _ _ _ σ _ (pz_ki (w_isAnalysed c4 (by omega) _) ⟨fun z => absurd g (pz_b_0.mp z), fun _ => ⟨fun z => absurd z (el.mp hv).1, fun _ => ⟨vm, ?_⟩⟩⟩), pv_148 _ _ _ σ _ (pz_ki (w_noMethod d4 (by omega) _) ⟨fun _ => ⟨vm, pz_ki (w_beyond _ _ _ σ) ?_⟩, fun z => absurd (pz_b_0.mpr (fun y => y g')) z⟩)⟩
        · rw [cm]
          exact ⟨fun z => absurd z (el.mp hv).2, fun _ => ⟨fun _ => ⟨rfl, rfl⟩, fun z => ⟨fun y => absurd (e8.mpr ⟨z, pz_ltn.mp y⟩) hr, fun _ => ⟨rfl, rfl⟩⟩⟩⟩
        · rw [cm]
          exact ⟨fun _ => pz_ki (w_beyond _ _ _ σ) ⟨fun z => absurd (hy.mpr hr) (pz_b_0.mp z), fun _ => ⟨rfl, rfl⟩⟩, fun z => absurd (pz_b_0.mpr (fun y => hl.mp y hv)) z⟩
    · refine ⟨-1, pv_99 _ _ _ σ _ (pz_ki (w_isAnalysed c4 (by omega) _) ⟨fun z => absurd g (pz_b_0.mp z), fun _ => ⟨fun _ => ⟨rfl, rfl⟩, fun h0 => ⟨vm, ?_⟩⟩⟩), pv_148 _ _ _ σ _ (pz_ki (w_noMethod d4 (by omega) _) ⟨fun _ => ⟨vm, pz_ki (w_beyond _ _ _ σ) ?_⟩, fun z => absurd (pz_b_0.mpr (fun y => y g')) z⟩)⟩
      · rw [cm]
        exact ⟨fun _ => ⟨rfl, rfl⟩, fun z => absurd (el.mpr ⟨h0, z⟩) hv⟩
      · rw [cm]
        exact ⟨fun z => absurd (hl.mpr hv) (pz_b_0.mp z), fun _ => ⟨rfl, rfl⟩⟩
  · have g' : ¬ (¬ σ.1 55 21 = 0 ∧ vp_in a nm) := fun z => g ((qz_na a1).mpr z)
    exact ⟨-1, pv_99 _ _ _ σ _ (pz_ki (w_isAnalysed c4 (by omega) _) ⟨fun _ => ⟨rfl, rfl⟩, fun z => absurd (pz_b_0.mpr g) z⟩), pv_148 _ _ _ σ _ (pz_ki (w_noMethod d4 (by omega) _) ⟨fun z => absurd g' (pz_b_0.mp z), fun _ => ⟨rfl, rfl⟩⟩)⟩
/-- whether the order of two METHODS does not matter -/
def qz_of (F : iv_F) (r w p a b : Nat) : Prop := (qz_o4 F w a &&& qz_o4 F r b = 0 ∧ qz_o4 F w a &&& qz_o4 F w b = 0 ∧ qz_o4 F w b &&& qz_o4 F r a = 0) ∧ ¬ (¬ F p a = 0 ∧ ¬ F p b = 0)
theorem qz_o6 {σ : pz_Sg} {a b : Nat} (ha : a < 10) (hb : b < 10) {p : Prop} {x : Int32} (hx : x = 0 ∨ x = 1) (hp : x = 1 ↔ p) : pz_WP 6 (69, [some (.ref 31), some (.int (nI a)), some (.int (nI b)), none, none, none], [.int x]) σ (pz_is (some (.int (pz_b (p ∧ ¬ (¬ σ.1 37 a = 0 ∧ ¬ σ.1 37 b = 0))))) σ) := by
  have ca : (nI a).toNatClampNeg = a := nI_clamp (by omega)
  have cb : (nI b).toNatClampNeg = b := nI_clamp (by omega)
  refine pv_6_69 _ _ _ σ _ ⟨fun z => pz_no (fun y => absurd (hp.mpr y.1) (by rw [z]; decide)), fun z => ?_⟩
  have p1 := hp.mp (hx.resolve_left z)
  rw [ca, cb]
  exact ⟨vp_in_nI ha (by decide), fun y => pz_yes ⟨p1, fun q => q.1 y⟩, fun y => ⟨vp_in_nI hb (by decide), fun u => pz_yes ⟨p1, fun q => q.2 u⟩, fun u => pz_no (fun q => q.2 ⟨y, u⟩)⟩⟩
theorem qz_o149 {σ : pz_Sg} {a b : Nat} (ha : a < 10) (hb : b < 10) {p : Prop} {x : Int32} (hx : x = 0 ∨ x = 1) (hp : x = 1 ↔ p) : pz_WP 149 (62, [some (.ref 55), some (.int (nI a)), some (.int (nI b)), none], [.int x]) σ (pz_is (some (.int (pz_b (p ∧ ¬ (¬ σ.1 83 a = 0 ∧ ¬ σ.1 83 b = 0))))) σ) := by
  have ca : (nI a).toNatClampNeg = a := nI_clamp (by omega)
  have cb : (nI b).toNatClampNeg = b := nI_clamp (by omega)
  refine pv_149_62 _ _ _ σ _ ⟨fun z => pz_no (fun y => absurd (hp.mpr y.1) (by rw [z]; decide)), fun z => ?_⟩
  have p1 := hp.mp (hx.resolve_left z)
  rw [ca, cb]
  exact ⟨vp_in_nI ha (by decide), fun y => pz_yes ⟨p1, fun q => q.1 y⟩, fun y => ⟨vp_in_nI hb (by decide), fun u => pz_yes ⟨p1, fun q => q.2 u⟩, fun u => pz_no (fun q => q.2 ⟨y, u⟩)⟩⟩
theorem w_orderFree {σ : pz_Sg} {a b : Nat} (ha : a < 10) (hb : b < 10) : pz_WP 6 (0, pz_en 6 [.ref 31, .int (nI a), .int (nI b)], []) σ (pz_is (some (.int (pz_b (qz_of σ.1 33 34 37 a b)))) σ) := by
  refine pv_6 _ _ σ _ (pz_ki (w_allR ha) (pz_ki (w_allW ha) (pz_ki (w_allR hb) (pz_ki (w_allW hb) (pz_ki (w_allW ha) ⟨fun z => pz_ki (w_allW hb) ⟨fun y => ?_, fun y => ?_⟩, fun z => ?_⟩)))))
  · exact qz_o6 ha hb (Or.inr rfl) ⟨fun _ => ⟨(b_apart.mp z).1, (b_apart.mp z).2, (b_apart.mp y).1⟩, fun _ => rfl⟩
  · exact qz_o6 ha hb (Or.inl rfl) ⟨fun q => absurd q (by decide), fun q => absurd (b_apart.mpr ⟨q.2.2, by rw [b_ac]; exact q.2.1⟩) y⟩
  · exact qz_o6 ha hb (Or.inl rfl) ⟨fun q => absurd q (by decide), fun q => absurd (b_apart.mpr ⟨q.1, q.2.1⟩) z⟩
theorem op_free (L : Nat) (ys : Nat → Int32) : pz_O18 (iv L ys) := by
  intro a b
  refine op_read fun σ n H => ?_
  obtain ⟨-, nt, nf, ns, nm, nx, ⟨⟨-, -, -, ⟨c4, d4, b4⟩⟩, -, -, -, p5, -, -⟩, -, -, -, ⟨a1, a2, a3⟩, -⟩ := H
  by_cases g : ¬ σ.1 0 10 = 0 ∧ vp_in a nm
  · have g' := (qz_na a1).mp g
    by_cases k : ¬ σ.1 0 10 = 0 ∧ vp_in b nm
    · have k' := (qz_na a1).mp k
      have hq : σ.1 0 10 = 1 := a2.resolve_left g.1
      obtain ⟨m, hm, rfl⟩ := vp_in_of g.2 (by omega)
      obtain ⟨u, hu, rfl⟩ := vp_in_of k.2 (by omega)
      have m10 : m < 10 := by omega
      have u10 : u < 10 := by omega
      obtain ⟨q1, -, -, -, ⟨q5, -⟩, -⟩ := a3 hq m hm
      obtain ⟨s1, -, -, -, ⟨s5, -⟩, -⟩ := a3 hq u hu
      have e : qz_of σ.1 86 87 83 m u ↔ qz_of σ.1 33 34 37 m u := by
        unfold qz_of
        rw [qz_o4_c (a := 33) (b := 86) (m := m) fun w hw => (q1 w hw).1, qz_o4_c (a := 34) (b := 87) (m := m) fun w hw => (q1 w hw).2, qz_o4_c (a := 33) (b := 86) (m := u) fun w hw => (s1 w hw).1, qz_o4_c (a := 34) (b := 87) (m := u) fun w hw => (s1 w hw).2, q5, s5]
      refine ⟨pz_b (qz_of σ.1 33 34 37 m u), pv_100 _ _ σ _ (pz_ki (w_isAnalysed c4 (by omega) _) ⟨fun z => absurd g (pz_b_0.mp z), fun _ => pz_ki (w_isAnalysed c4 (by omega) _) ⟨fun z => absurd k (pz_b_0.mp z), fun _ => pz_ki (w_orderFree m10 u10) pz_re⟩⟩), pv_149 _ _ σ _ (pz_ki (w_noMethod d4 (by omega) _) ⟨fun _ => pz_ki (w_noMethod d4 (by omega) _) ⟨fun _ => ?_, fun z => absurd (pz_b_0.mpr (fun y => y k')) z⟩, fun z => absurd (pz_b_0.mpr (fun y => y g')) z⟩)⟩
      rw [← pz_b_c e]
      refine pz_ki (w_all m10 1 87 (Or.inr ⟨rfl, rfl⟩)) (pz_ki (w_all u10 0 86 (Or.inl ⟨rfl, rfl⟩)) (pz_ki (w_all u10 1 87 (Or.inr ⟨rfl, rfl⟩)) ⟨fun z => pz_ki (w_all u10 1 87 (Or.inr ⟨rfl, rfl⟩)) (pz_ki (w_all m10 0 86 (Or.inl ⟨rfl, rfl⟩)) ⟨fun y => ?_, fun y => ?_⟩), fun z => ?_⟩))
      · exact qz_o149 m10 u10 (Or.inr rfl) ⟨fun _ => ⟨(b_apart.mp z).1, (b_apart.mp z).2, y⟩, fun _ => rfl⟩
      · exact qz_o149 m10 u10 (Or.inl rfl) ⟨fun q => absurd q (by decide), fun q => absurd q.2.2 y⟩
      · exact qz_o149 m10 u10 (Or.inl rfl) ⟨fun q => absurd q (by decide), fun q => absurd (b_apart.mpr ⟨q.1, q.2.1⟩) z⟩
    · have k' : ¬ (¬ σ.1 55 21 = 0 ∧ vp_in b nm) := fun z => k ((qz_na a1).mpr z)
      exact ⟨-1, pv_100 _ _ σ _ (pz_ki (w_isAnalysed c4 (by omega) _) ⟨fun z => absurd g (pz_b_0.mp z), fun _ => pz_ki (w_isAnalysed c4 (by omega) _) ⟨fun _ => ⟨rfl, rfl⟩, fun z => absurd (pz_b_0.mpr k) z⟩⟩), pv_149 _ _ σ _ (pz_ki (w_noMethod d4 (by omega) _) ⟨fun _ => pz_ki (w_noMethod d4 (by omega) _) ⟨fun z => absurd k' (pz_b_0.mp z), fun _ => ⟨rfl, rfl⟩⟩, fun z => absurd (pz_b_0.mpr (fun y => y g')) z⟩)⟩
  · have g' : ¬ (¬ σ.1 55 21 = 0 ∧ vp_in a nm) := fun z => g ((qz_na a1).mpr z)
    exact ⟨-1, pv_100 _ _ σ _ (pz_ki (w_isAnalysed c4 (by omega) _) ⟨fun _ => ⟨rfl, rfl⟩, fun z => absurd (pz_b_0.mpr g) z⟩), pv_149 _ _ σ _ (pz_ki (w_noMethod d4 (by omega) _) ⟨fun z => absurd g' (pz_b_0.mp z), fun _ => ⟨rfl, rfl⟩⟩)⟩
