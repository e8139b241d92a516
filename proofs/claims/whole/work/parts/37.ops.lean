/-! ===== caught ===== -/
/-- four numbers of CATCHES -/
def qz_u4 (σ : pz_Sg) (b : Nat) (v0 v1 v2 v3 : Int32) : pz_Sg := pz_up (pz_up (pz_up (pz_up σ 15 b v0) 15 (b + 1) v1) 15 (b + 2) v2) 15 (b + 3) v3
theorem qz_u4o {σ : pz_Sg} {b x : Nat} {v0 v1 v2 v3 : Int32} (h : x < b ∨ b + 4 ≤ x) : (qz_u4 σ b v0 v1 v2 v3).1 15 x = σ.1 15 x := by
  unfold qz_u4
  rw [qz_rd, if_neg (by omega), qz_rd, if_neg (by omega), qz_rd, if_neg (by omega), qz_rd, if_neg (by omega)]
theorem qz_u40 {σ : pz_Sg} {b : Nat} {v0 v1 v2 v3 : Int32} : (qz_u4 σ b v0 v1 v2 v3).1 15 b = v0 := by
  unfold qz_u4
  rw [qz_rd, if_neg (by omega), qz_rd, if_neg (by omega), qz_rd, if_neg (by omega), qz_rs]
theorem qz_u41 {σ : pz_Sg} {b : Nat} {v0 v1 v2 v3 : Int32} : (qz_u4 σ b v0 v1 v2 v3).1 15 (b + 1) = v1 := by
  unfold qz_u4
  rw [qz_rd, if_neg (by omega), qz_rd, if_neg (by omega), qz_rs]
theorem qz_u42 {σ : pz_Sg} {b : Nat} {v0 v1 v2 v3 : Int32} : (qz_u4 σ b v0 v1 v2 v3).1 15 (b + 2) = v2 := by
  unfold qz_u4
  rw [qz_rd, if_neg (by omega), qz_rs]
theorem qz_u43 {σ : pz_Sg} {b : Nat} {v0 v1 v2 v3 : Int32} : (qz_u4 σ b v0 v1 v2 v3).1 15 (b + 3) = v3 := by
  unfold qz_u4
  rw [qz_rs]
theorem w_addCatch {σ : pz_Sg} {m c : Nat} (hm : m < 10) (h : σ.1 14 m = nI c) (hc : c < 4) (v0 v1 v2 v3 : Int32) : pz_WP 64 (0, pz_en 7 [.ref 1, .int (nI m), .int v0, .int v1, .int v2, .int v3], []) σ (pz_is (some (.int (nI c))) (pz_up (qz_u4 σ (16 * m + 4 * c) v0 v1 v2 v3) 14 m (nI (c + 1)))) := by
  have cl : (nI m).toNatClampNeg = m := nI_clamp (by omega)
  have vm : vp_in (nI m) 10 := vp_in_nI hm (by decide)
  have ix : (nI m * nI 4 + nI c) * nI 4 = nI (16 * m + 4 * c) := by
    rw [pk_mul, nI_add, pk_mul]
    congr 1
    omega
  have c0 : (nI (16 * m + 4 * c)).toNatClampNeg = 16 * m + 4 * c := nI_clamp (by omega)
  have c1 : (nI (16 * m + 4 * c) + 1).toNatClampNeg = 16 * m + 4 * c + 1 := by rw [nI_1]; exact nI_clamp (by omega)
  have c2 : (nI (16 * m + 4 * c) + nI 2).toNatClampNeg = 16 * m + 4 * c + 2 := by rw [nI_add]; exact nI_clamp (by omega)
  have c3 : (nI (16 * m + 4 * c) + nI 3).toNatClampNeg = 16 * m + 4 * c + 3 := by rw [nI_add]; exact nI_clamp (by omega)
  have i0 : vp_in (nI (16 * m + 4 * c)) 160 := vp_in_nI (by omega) (by decide)
  have i1 : vp_in (nI (16 * m + 4 * c) + 1) 160 := by rw [nI_1]; exact vp_in_nI (by omega) (by decide)
  have i2 : vp_in (nI (16 * m + 4 * c) + nI 2) 160 := by rw [nI_add]; exact vp_in_nI (by omega) (by decide)
  have i3 : vp_in (nI (16 * m + 4 * c) + nI 3) 160 := by rw [nI_add]; exact vp_in_nI (by omega) (by decide)
  refine pv_64 _ _ _ _ _ σ _ ?_
  rw [cl, h, ix, c0, c1, c2, c3]
  refine ⟨vm, i0, fun σ1 e1 => ⟨i1, fun σ2 e2 => ⟨i2, fun σ3 e3 => ⟨i3, fun σ4 e4 => ⟨vm, vm, fun σ5 e5 => ?_⟩⟩⟩⟩⟩
  subst e1 e2 e3 e4
  have e6 : (pz_up (pz_up (pz_up (pz_up σ 15 (16 * m + 4 * c) v0) 15 (16 * m + 4 * c + 1) v1) 15 (16 * m + 4 * c + 2) v2) 15 (16 * m + 4 * c + 3) v3).1 14 m = nI c := h
  rw [e6, nI_1] at e5
  rw [e6]
  exact pz_ans rfl e5
theorem op_caught (L : Nat) (ys : Nat → Int32) : pz_O5 (iv L ys) := by
  intro a f t x l
  refine op_known fun σ n hn H => ?_
  have H' := iv_up H
  obtain ⟨h0, nt, nf, ns, nm, nx, h1, h2, h3, h4, h5, h6⟩ := H
  obtain ⟨⟨t1, t2, t3, ⟨c4, d4, b4⟩⟩, p2, p3, p4, p5, p6, p7⟩ := id h1
  have hy := pz_byn (x := a) d4 (by omega)
  have ef : vp_in f (24 + 1) ↔ ¬ f < 0 ∧ ¬ nI 24 < f := pz_to (by decide)
  have et : vp_in t (24 + 1) ↔ ¬ t < 0 ∧ ¬ nI 24 < t := pz_to (by decide)
  have ex : vp_in x (9 + 1) ↔ ¬ x < 0 ∧ ¬ nI 9 < x := pz_to (by decide)
  have el : vp_in l (24 + 1) ↔ ¬ l < 0 ∧ ¬ nI 24 < l := pz_to (by decide)
  have el' : l ≤ nI 24 ↔ ¬ nI 24 < l := Int32.not_lt.symm
  have yf : (f.toInt64 < (0 : Int64) ∨ lN 24 < f.toInt64) ↔ ¬ vp_in f (24 + 1) := pz_byc (by decide)
  have yt : (t.toInt64 < (0 : Int64) ∨ lN 24 < t.toInt64) ↔ ¬ vp_in t (24 + 1) := pz_byc (by decide)
  have yx : (x.toInt64 < (0 : Int64) ∨ lN 9 < x.toInt64) ↔ ¬ vp_in x (9 + 1) := pz_byc (by decide)
  have yl : (l.toInt64 < (0 : Int64) ∨ lN 24 < l.toInt64) ↔ ¬ vp_in l (24 + 1) := pz_byc (by decide)
  -- from below to: the class leaves two tests out
  have tr : ¬ f < 0 → ¬ t ≤ f → ¬ nI 24 < t → vp_in f 25 ∧ vp_in t 25 := by
    intro a1 a2 a3
    rw [Int32.lt_iff_toInt_lt, show (0 : Int32).toInt = 0 by decide] at a1
    rw [Int32.le_iff_toInt_le] at a2
    rw [Int32.lt_iff_toInt_lt, nI_toInt (by decide)] at a3
    rw [vp_in_iff, vp_in_iff]
    omega
  by_cases ha : vp_in a nm
  · by_cases g : vp_in f 25 ∧ vp_in t 25 ∧ ¬ t ≤ f ∧ vp_in x 10 ∧ vp_in l 25
    · obtain ⟨gf, gt, gn, gx, gl⟩ := g
      have qf := ef.mp gf
      have qt := et.mp gt
      have qx := ex.mp gx
      have ql := el.mp gl
      have va := vp_le ha b4
      obtain ⟨m, hm, rfl⟩ := vp_in_of ha (by omega)
      have cl : (nI m).toNatClampNeg = m := nI_clamp (by omega)
      obtain ⟨-, -, -, -, ⟨e14, c, hc, ec⟩⟩ := p5.1 m hm
      have ec' : σ.1 68 m = nI c := by rw [← e14]; exact ec
      by_cases h : c < 4
      · have ix : nI 4 * nI m + nI c = nI (4 * m + c) := by rw [pk_mul, nI_add]
        have c0 : (nI (4 * m + c)).toNatClampNeg = 4 * m + c := nI_clamp (by omega)
        have i0 : vp_in (nI (4 * m + c)) 40 := vp_in_nI (by omega) (by decide)
        have a14 : (pz_up (pz_up (pz_up (pz_up (pz_up (pz_up (pz_up (qz_u4 (pz_up σ 0 10 0) (16 * m + 4 * c) f t x l) 14 m (nI (c + 1))) 55 21 0) 69 (4 * m + c) f) 70 (4 * m + c) t) 71 (4 * m + c) x) 72 (4 * m + c) l) 68 m (nI (c + 1))).1 14 m = nI (c + 1) := qz_rs (qz_u4 (pz_up σ 0 10 0) (16 * m + 4 * c) f t x l) 14 m _
        have a68 : (pz_up (pz_up (pz_up (pz_up (pz_up (pz_up (pz_up (qz_u4 (pz_up σ 0 10 0) (16 * m + 4 * c) f t x l) 14 m (nI (c + 1))) 55 21 0) 69 (4 * m + c) f) 70 (4 * m + c) t) 71 (4 * m + c) x) 72 (4 * m + c) l) 68 m (nI (c + 1))).1 68 m = nI (c + 1) := qz_rs (pz_up (pz_up (pz_up (pz_up (pz_up (pz_up (qz_u4 (pz_up σ 0 10 0) (16 * m + 4 * c) f t x l) 14 m (nI (c + 1))) 55 21 0) 69 (4 * m + c) f) 70 (4 * m + c) t) 71 (4 * m + c) x) 72 (4 * m + c) l) 68 m _
        have n14 : ∀ j, j ≠ m → (pz_up (pz_up (pz_up (pz_up (pz_up (pz_up (pz_up (qz_u4 (pz_up σ 0 10 0) (16 * m + 4 * c) f t x l) 14 m (nI (c + 1))) 55 21 0) 69 (4 * m + c) f) 70 (4 * m + c) t) 71 (4 * m + c) x) 72 (4 * m + c) l) 68 m (nI (c + 1))).1 14 j = σ.1 14 j := fun j hj => by
          show (pz_up (qz_u4 (pz_up σ 0 10 0) (16 * m + 4 * c) f t x l) 14 m (nI (c + 1))).1 14 j = _
          rw [qz_rd, if_neg (fun q => hj q.2)]
          rfl
        have n68 : ∀ j, j ≠ m → (pz_up (pz_up (pz_up (pz_up (pz_up (pz_up (pz_up (qz_u4 (pz_up σ 0 10 0) (16 * m + 4 * c) f t x l) 14 m (nI (c + 1))) 55 21 0) 69 (4 * m + c) f) 70 (4 * m + c) t) 71 (4 * m + c) x) 72 (4 * m + c) l) 68 m (nI (c + 1))).1 68 j = σ.1 68 j := fun j hj => by
          rw [qz_rd, if_neg (fun q => hj q.2)]
          rfl
        have n15 : ∀ j, (j < 16 * m + 4 * c ∨ 16 * m + 4 * c + 4 ≤ j) → (pz_up (pz_up (pz_up (pz_up (pz_up (pz_up (pz_up (qz_u4 (pz_up σ 0 10 0) (16 * m + 4 * c) f t x l) 14 m (nI (c + 1))) 55 21 0) 69 (4 * m + c) f) 70 (4 * m + c) t) 71 (4 * m + c) x) 72 (4 * m + c) l) 68 m (nI (c + 1))).1 15 j = σ.1 15 j := fun j hj => by
          show (qz_u4 (pz_up σ 0 10 0) (16 * m + 4 * c) f t x l).1 15 j = _
          rw [qz_u4o hj]
          rfl
        have n69 : ∀ j, j ≠ 4 * m + c → (pz_up (pz_up (pz_up (pz_up (pz_up (pz_up (pz_up (qz_u4 (pz_up σ 0 10 0) (16 * m + 4 * c) f t x l) 14 m (nI (c + 1))) 55 21 0) 69 (4 * m + c) f) 70 (4 * m + c) t) 71 (4 * m + c) x) 72 (4 * m + c) l) 68 m (nI (c + 1))).1 69 j = σ.1 69 j := fun j hj => by
          show (pz_up (pz_up (pz_up (qz_u4 (pz_up σ 0 10 0) (16 * m + 4 * c) f t x l) 14 m (nI (c + 1))) 55 21 0) 69 (4 * m + c) f).1 69 j = _
          rw [qz_rd, if_neg (fun q => hj q.2)]
          rfl
        have n70 : ∀ j, j ≠ 4 * m + c → (pz_up (pz_up (pz_up (pz_up (pz_up (pz_up (pz_up (qz_u4 (pz_up σ 0 10 0) (16 * m + 4 * c) f t x l) 14 m (nI (c + 1))) 55 21 0) 69 (4 * m + c) f) 70 (4 * m + c) t) 71 (4 * m + c) x) 72 (4 * m + c) l) 68 m (nI (c + 1))).1 70 j = σ.1 70 j := fun j hj => by
          show (pz_up (pz_up (pz_up (pz_up (qz_u4 (pz_up σ 0 10 0) (16 * m + 4 * c) f t x l) 14 m (nI (c + 1))) 55 21 0) 69 (4 * m + c) f) 70 (4 * m + c) t).1 70 j = _
          rw [qz_rd, if_neg (fun q => hj q.2)]
          rfl
        have n71 : ∀ j, j ≠ 4 * m + c → (pz_up (pz_up (pz_up (pz_up (pz_up (pz_up (pz_up (qz_u4 (pz_up σ 0 10 0) (16 * m + 4 * c) f t x l) 14 m (nI (c + 1))) 55 21 0) 69 (4 * m + c) f) 70 (4 * m + c) t) 71 (4 * m + c) x) 72 (4 * m + c) l) 68 m (nI (c + 1))).1 71 j = σ.1 71 j := fun j hj => by
          show (pz_up (pz_up (pz_up (pz_up (pz_up (qz_u4 (pz_up σ 0 10 0) (16 * m + 4 * c) f t x l) 14 m (nI (c + 1))) 55 21 0) 69 (4 * m + c) f) 70 (4 * m + c) t) 71 (4 * m + c) x).1 71 j = _
          rw [qz_rd, if_neg (fun q => hj q.2)]
          rfl
        have n72 : ∀ j, j ≠ 4 * m + c → (pz_up (pz_up (pz_up (pz_up (pz_up (pz_up (pz_up (qz_u4 (pz_up σ 0 10 0) (16 * m + 4 * c) f t x l) 14 m (nI (c + 1))) 55 21 0) 69 (4 * m + c) f) 70 (4 * m + c) t) 71 (4 * m + c) x) 72 (4 * m + c) l) 68 m (nI (c + 1))).1 72 j = σ.1 72 j := fun j hj => by
          show (pz_up (pz_up (pz_up (pz_up (pz_up (pz_up (qz_u4 (pz_up σ 0 10 0) (16 * m + 4 * c) f t x l) 14 m (nI (c + 1))) 55 21 0) 69 (4 * m + c) f) 70 (4 * m + c) t) 71 (4 * m + c) x) 72 (4 * m + c) l).1 72 j = _
          rw [qz_rd, if_neg (fun q => hj q.2)]
          rfl
        have b15 : (pz_up (pz_up (pz_up (pz_up (pz_up (pz_up (pz_up (qz_u4 (pz_up σ 0 10 0) (16 * m + 4 * c) f t x l) 14 m (nI (c + 1))) 55 21 0) 69 (4 * m + c) f) 70 (4 * m + c) t) 71 (4 * m + c) x) 72 (4 * m + c) l) 68 m (nI (c + 1))).1 15 (16 * m + 4 * c) = f ∧ (pz_up (pz_up (pz_up (pz_up (pz_up (pz_up (pz_up (qz_u4 (pz_up σ 0 10 0) (16 * m + 4 * c) f t x l) 14 m (nI (c + 1))) 55 21 0) 69 (4 * m + c) f) 70 (4 * m + c) t) 71 (4 * m + c) x) 72 (4 * m + c) l) 68 m (nI (c + 1))).1 15 (16 * m + 4 * c + 1) = t ∧ (pz_up (pz_up (pz_up (pz_up (pz_up (pz_up (pz_up (qz_u4 (pz_up σ 0 10 0) (16 * m + 4 * c) f t x l) 14 m (nI (c + 1))) 55 21 0) 69 (4 * m + c) f) 70 (4 * m + c) t) 71 (4 * m + c) x) 72 (4 * m + c) l) 68 m (nI (c + 1))).1 15 (16 * m + 4 * c + 2) = x ∧ (pz_up (pz_up (pz_up (pz_up (pz_up (pz_up (pz_up (qz_u4 (pz_up σ 0 10 0) (16 * m + 4 * c) f t x l) 14 m (nI (c + 1))) 55 21 0) 69 (4 * m + c) f) 70 (4 * m + c) t) 71 (4 * m + c) x) 72 (4 * m + c) l) 68 m (nI (c + 1))).1 15 (16 * m + 4 * c + 3) = l := ⟨qz_u40 (σ := pz_up σ 0 10 0), qz_u41 (σ := pz_up σ 0 10 0), qz_u42 (σ := pz_up σ 0 10 0), qz_u43 (σ := pz_up σ 0 10 0)⟩
        have b69 : (pz_up (pz_up (pz_up (pz_up (pz_up (pz_up (pz_up (qz_u4 (pz_up σ 0 10 0) (16 * m + 4 * c) f t x l) 14 m (nI (c + 1))) 55 21 0) 69 (4 * m + c) f) 70 (4 * m + c) t) 71 (4 * m + c) x) 72 (4 * m + c) l) 68 m (nI (c + 1))).1 69 (4 * m + c) = f := qz_rs (pz_up (pz_up (qz_u4 (pz_up σ 0 10 0) (16 * m + 4 * c) f t x l) 14 m (nI (c + 1))) 55 21 0) 69 (4 * m + c) f
        have b70 : (pz_up (pz_up (pz_up (pz_up (pz_up (pz_up (pz_up (qz_u4 (pz_up σ 0 10 0) (16 * m + 4 * c) f t x l) 14 m (nI (c + 1))) 55 21 0) 69 (4 * m + c) f) 70 (4 * m + c) t) 71 (4 * m + c) x) 72 (4 * m + c) l) 68 m (nI (c + 1))).1 70 (4 * m + c) = t := qz_rs (pz_up (pz_up (pz_up (qz_u4 (pz_up σ 0 10 0) (16 * m + 4 * c) f t x l) 14 m (nI (c + 1))) 55 21 0) 69 (4 * m + c) f) 70 (4 * m + c) t
        have b71 : (pz_up (pz_up (pz_up (pz_up (pz_up (pz_up (pz_up (qz_u4 (pz_up σ 0 10 0) (16 * m + 4 * c) f t x l) 14 m (nI (c + 1))) 55 21 0) 69 (4 * m + c) f) 70 (4 * m + c) t) 71 (4 * m + c) x) 72 (4 * m + c) l) 68 m (nI (c + 1))).1 71 (4 * m + c) = x := qz_rs (pz_up (pz_up (pz_up (pz_up (qz_u4 (pz_up σ 0 10 0) (16 * m + 4 * c) f t x l) 14 m (nI (c + 1))) 55 21 0) 69 (4 * m + c) f) 70 (4 * m + c) t) 71 (4 * m + c) x
        have b72 : (pz_up (pz_up (pz_up (pz_up (pz_up (pz_up (pz_up (qz_u4 (pz_up σ 0 10 0) (16 * m + 4 * c) f t x l) 14 m (nI (c + 1))) 55 21 0) 69 (4 * m + c) f) 70 (4 * m + c) t) 71 (4 * m + c) x) 72 (4 * m + c) l) 68 m (nI (c + 1))).1 72 (4 * m + c) = l := qz_rs (pz_up (pz_up (pz_up (pz_up (pz_up (qz_u4 (pz_up σ 0 10 0) (16 * m + 4 * c) f t x l) 14 m (nI (c + 1))) 55 21 0) 69 (4 * m + c) f) 70 (4 * m + c) t) 71 (4 * m + c) x) 72 (4 * m + c) l
        refine ⟨nI c, pz_up (qz_u4 (pz_up σ 0 10 0) (16 * m + 4 * c) f t x l) 14 m (nI (c + 1)), pz_up (pz_up (pz_up (pz_up (pz_up (pz_up (pz_up (qz_u4 (pz_up σ 0 10 0) (16 * m + 4 * c) f t x l) 14 m (nI (c + 1))) 55 21 0) 69 (4 * m + c) f) 70 (4 * m + c) t) 71 (4 * m + c) x) 72 (4 * m + c) l) 68 m (nI (c + 1)), pv_87 _ _ _ _ _ σ _ (pz_ki (w_isMethod c4 (by omega) _) ⟨fun z => absurd (pz_b_0.mp z) (fun y => y ha), fun _ => ⟨fun z => absurd z qf.1, fun _ => ⟨fun z => absurd z gn, fun _ => ⟨fun z => absurd z qt.2, fun _ => ⟨fun z => absurd z qx.1, fun _ => ⟨fun z => absurd z qx.2, fun _ => ⟨fun z => absurd z ql.1, fun _ => ⟨fun _ => ?_, fun z => absurd (el'.mpr ql.2) z⟩⟩⟩⟩⟩⟩⟩⟩), ⟨rfl, rfl⟩, pv_120 _ _ _ _ _ _ _ (pz_ki (w_beyond _ _ _ _) ⟨fun _ => pz_ki (w_beyond _ _ _ _) ⟨fun _ => pz_ki (w_beyond _ _ _ _) ⟨fun _ => ⟨fun z => absurd z gn, fun _ => pz_ki (w_beyond _ _ _ _) ⟨fun _ => pz_ki (w_beyond _ _ _ _) ⟨fun _ => ?_, fun z => absurd (pz_b_0.mpr (fun y => yl.mp y gl)) z⟩, fun z => absurd (pz_b_0.mpr (fun y => yx.mp y gx)) z⟩⟩, fun z => absurd (pz_b_0.mpr (fun y => yt.mp y gt)) z⟩, fun z => absurd (pz_b_0.mpr (fun y => yf.mp y gf)) z⟩, fun z => absurd (pz_b_0.mpr (fun y => hy.mp y ha)) z⟩), ?_⟩
        · rw [cl]
          refine ⟨va, fun _ => ?_, fun z => absurd ((pz_lt8 ec (by omega) (by decide)).mpr h) z⟩
          rintro σ2 rfl
          exact pz_ki (w_addCatch (σ := pz_up σ 0 10 0) (by omega) ec h f t x l) ⟨rfl, rfl⟩
        · rw [cl]
          refine ⟨va, fun z => absurd ((pz_eq8 (x := σ.1 68 m) ec' (by omega) (by decide)).mp z) (by omega), fun _ σ6 e6 => ?_⟩
          subst e6
          rw [show (pz_up (pz_up (qz_u4 (pz_up σ 0 10 0) (16 * m + 4 * c) f t x l) 14 m (nI (c + 1))) 55 21 0).1 68 m = nI c from ec', ix, c0]
          refine ⟨va, i0, fun σ7 e7 => ⟨i0, fun σ8 e8 => ⟨i0, fun σ9 e9 => ⟨i0, fun σ10 e10 => ⟨va, va, fun σ11 e11 => ⟨va, ?_⟩⟩⟩⟩⟩⟩
          subst e7 e8 e9 e10
          rw [show (pz_up (pz_up (pz_up (pz_up (pz_up (pz_up (qz_u4 (pz_up σ 0 10 0) (16 * m + 4 * c) f t x l) 14 m (nI (c + 1))) 55 21 0) 69 (4 * m + c) f) 70 (4 * m + c) t) 71 (4 * m + c) x) 72 (4 * m + c) l).1 68 m = nI c from ec', nI_1] at e11
          subst e11
          refine pz_ans ?_ rfl
          rw [qz_rs, qz_m1]
        · refine ⟨pz_ti_u (pz_ti_u (pz_ti_u (pz_ti_u (pz_ti_u (pz_ti_u (pz_ti_u (pz_ti_u (pz_ti_u (pz_ti_u (pz_ti_u (pz_ti_u h0 (by omega)) (by omega)) (by omega)) (by omega)) (by omega)) (by omega)) (by omega)) (by omega)) (by omega)) (by omega)) (by omega)) (by omega), nt, nf, ns, nm, nx, ⟨⟨t1, t2, t3, ⟨c4, d4, b4⟩⟩, iv_ty_d (F := σ.1) (fun _ => rfl) (fun _ => rfl) p2, iv_fl_d (F := σ.1) (fun _ => rfl) (fun _ => rfl) (fun _ => rfl) p3, p4, ⟨fun m' hm' => ?_, fun m' m1 m2 => ?_⟩, iv_ln_g (F := σ.1) (Nat.le_refl _) (Nat.le_refl _) (Nat.le_refl _) (Nat.le_refl _) (by omega) (by omega) (by omega) (fun m hm => rfl) (fun _ a b => absurd a (by omega)) (fun _ => rfl) (fun _ => rfl) (fun _ => rfl) (fun _ => rfl) (fun _ => rfl) (fun _ => rfl) (fun _ => rfl) (fun _ => rfl) (fun _ _ => rfl) (fun _ _ => rfl) (fun x hx => rfl) (fun x hx => rfl) (fun x hx => rfl) p6, fun m' hm' k hk => ?_⟩, iv_wd_c (F := σ.1) (qz_fr1 (qz_fr1 (qz_fr1 (qz_fr1 (qz_fr1 (qz_fr1 (qz_fr1 (qz_fr1 (qz_fr1 (qz_fr1 (qz_fr1 (qz_fr1 qz_fr0 rfl) rfl) rfl) rfl) rfl) rfl) rfl) rfl) rfl) rfl) rfl) rfl) rfl rfl h2, iv_pr_c (Nat.le_succ n) rfl rfl (fun _ => rfl) (fun _ => rfl) h3, iv_ar_c (fun _ => rfl) (fun _ => rfl) (fun _ => rfl) (fun _ => rfl) h4, iv_an_0 rfl rfl, iv_la_c (fun _ => rfl) (fun _ => rfl) rfl rfl h6⟩
          · obtain ⟨z1, z2, z3, z4, z5, z6⟩ := p5.1 m' hm'
            refine ⟨z1, z2, z3, z4, ?_⟩
            by_cases hq : m' = m
            · subst hq
              exact ⟨a14.trans a68.symm, c + 1, by omega, a14⟩
            · obtain ⟨p, hp, ep⟩ := z6
              exact ⟨(n14 m' hq).trans (z5.trans (n68 m' hq).symm), p, hp, (n14 m' hq).trans ep⟩
          · exact ⟨(p5.2 m' m1 m2).1, (n14 m' (by omega)).trans (p5.2 m' m1 m2).2⟩
          · by_cases hq : m' = m
            · subst hq
              rw [a14, nI_clamp (by omega)] at hk
              by_cases hkc : k = c
              · subst hkc
                rw [b15.1, b15.2.1, b15.2.2.1, b15.2.2.2, b69, b70, b71, b72]
                exact ⟨⟨rfl, rfl, rfl, rfl⟩, gf, gt, gx, gl⟩
              · have := p7 m' hm' k (by rw [ec, nI_clamp (by omega)]; omega)
                rw [n15 _ (by omega), n15 _ (by omega), n15 _ (by omega), n15 _ (by omega), n69 _ (by omega), n70 _ (by omega), n71 _ (by omega), n72 _ (by omega)]
                exact this
            · rw [n14 m' hq] at hk
              obtain ⟨-, -, -, -, ⟨-, c', hc', ec2⟩⟩ := p5.1 m' hm'
              have hk' := hk
              rw [ec2, nI_clamp (by omega)] at hk'
              rw [n15 _ (by omega), n15 _ (by omega), n15 _ (by omega), n15 _ (by omega), n69 _ (by omega), n70 _ (by omega), n71 _ (by omega), n72 _ (by omega)]
              exact p7 m' hm' k hk
      · have hc4 : c = 4 := by omega
        refine ⟨-(nI 3), σ, σ, pv_87 _ _ _ _ _ σ _ (pz_ki (w_isMethod c4 (by omega) _) ⟨fun z => absurd (pz_b_0.mp z) (fun y => y ha), fun _ => ⟨fun z => absurd z qf.1, fun _ => ⟨fun z => absurd z gn, fun _ => ⟨fun z => absurd z qt.2, fun _ => ⟨fun z => absurd z qx.1, fun _ => ⟨fun z => absurd z qx.2, fun _ => ⟨fun z => absurd z ql.1, fun _ => ⟨fun _ => ?_, fun z => absurd (el'.mpr ql.2) z⟩⟩⟩⟩⟩⟩⟩⟩), ⟨rfl, rfl⟩, pv_120 _ _ _ _ _ _ _ (pz_ki (w_beyond _ _ _ _) ⟨fun _ => pz_ki (w_beyond _ _ _ _) ⟨fun _ => pz_ki (w_beyond _ _ _ _) ⟨fun _ => ⟨fun z => absurd z gn, fun _ => pz_ki (w_beyond _ _ _ _) ⟨fun _ => pz_ki (w_beyond _ _ _ _) ⟨fun _ => ?_, fun z => absurd (pz_b_0.mpr (fun y => yl.mp y gl)) z⟩, fun z => absurd (pz_b_0.mpr (fun y => yx.mp y gx)) z⟩⟩, fun z => absurd (pz_b_0.mpr (fun y => yt.mp y gt)) z⟩, fun z => absurd (pz_b_0.mpr (fun y => yf.mp y gf)) z⟩, fun z => absurd (pz_b_0.mpr (fun y => hy.mp y ha)) z⟩), H'⟩
        · rw [cl]
          exact ⟨va, fun z => absurd ((pz_lt8 ec (by omega) (by decide)).mp z) h, fun _ => ⟨rfl, rfl⟩⟩
        · rw [cl]
          exact ⟨va, fun _ => ⟨rfl, rfl⟩, fun z => absurd ((pz_eq8 ec' (by omega) (by decide)).mpr hc4) z⟩
    · refine ⟨-(nI 2), σ, σ, pv_87 _ _ _ _ _ σ _ (pz_ki (w_isMethod c4 (by omega) _) ⟨fun z => absurd (pz_b_0.mp z) (fun y => y ha), fun _ => ⟨fun _ => ⟨rfl, rfl⟩, fun a1 => ⟨fun _ => ⟨rfl, rfl⟩, fun a2 => ⟨fun _ => ⟨rfl, rfl⟩, fun a3 => ⟨fun _ => ⟨rfl, rfl⟩, fun a4 => ⟨fun _ => ⟨rfl, rfl⟩, fun a5 => ⟨fun _ => ⟨rfl, rfl⟩, fun a6 => ⟨fun a7 => absurd ⟨(tr a1 a2 a3).1, (tr a1 a2 a3).2, a2, ex.mpr ⟨a4, a5⟩, el.mpr ⟨a6, el'.mp a7⟩⟩ g, fun _ => ⟨rfl, rfl⟩⟩⟩⟩⟩⟩⟩⟩⟩), ⟨rfl, rfl⟩, pv_120 _ _ _ _ _ _ _ (pz_ki (w_beyond _ _ _ _) ⟨fun _ => pz_ki (w_beyond _ _ _ _) ⟨fun b1 => pz_ki (w_beyond _ _ _ _) ⟨fun b2 => ⟨fun _ => ⟨rfl, rfl⟩, fun b3 => pz_ki (w_beyond _ _ _ _) ⟨fun b4 => pz_ki (w_beyond _ _ _ _) ⟨fun b5 => absurd ⟨Classical.not_not.mp fun y => pz_b_0.mp b1 (yf.mpr y), Classical.not_not.mp fun y => pz_b_0.mp b2 (yt.mpr y), b3, Classical.not_not.mp fun y => pz_b_0.mp b4 (yx.mpr y), Classical.not_not.mp fun y => pz_b_0.mp b5 (yl.mpr y)⟩ g, fun _ => ⟨rfl, rfl⟩⟩, fun _ => ⟨rfl, rfl⟩⟩⟩, fun _ => ⟨rfl, rfl⟩⟩, fun _ => ⟨rfl, rfl⟩⟩, fun z => absurd (pz_b_0.mpr (fun y => hy.mp y ha)) z⟩), H'⟩
  · exact ⟨-1, σ, σ, pv_87 _ _ _ _ _ σ _ (pz_ki (w_isMethod c4 (by omega) _) ⟨fun _ => ⟨rfl, rfl⟩, fun z => absurd (pz_b_0.mpr ha) z⟩), ⟨rfl, rfl⟩, pv_120 _ _ _ _ _ _ _ (pz_ki (w_beyond _ _ _ _) ⟨fun z => absurd (hy.mpr ha) (pz_b_0.mp z), fun _ => ⟨rfl, rfl⟩⟩), H'⟩
