theorem rs_o {G : iv_F} {a : Nat} (h5 : a ≠ 55) (h7 : ¬ (73 ≤ a ∧ a ≤ 77)) : rs G a = G a := by
  unfold rs rs3 rs2 rs1 rs0
  rw [fu_o h5, fu_o h5, fi_o (by omega), fi_o (by omega), fi_o (by omega), fi_o (by omega), fi_o (by omega)]
theorem rs_j {G : iv_F} {j : Nat} (h2 : j ≠ 22) (h7 : j ≠ 27) : rs G 55 j = G 55 j := by
  unfold rs
  rw [fu_j h7, fu_j h2]
  rfl
theorem rs_73 {G : iv_F} {x : Nat} (hx : x < 60) : rs G 73 x = G 95 (2 * x) := (show fi G 73 60 (fun y => G 95 (2 * y)) 73 x = _ from fi_i hx)
theorem rs_74 {G : iv_F} {x : Nat} (hx : x < 60) : rs G 74 x = G 95 (2 * x + 1) := (show fi (fi G 73 60 (fun y => G 95 (2 * y))) 74 60 (fun y => G 95 (2 * y + 1)) 74 x = _ from fi_i hx)
theorem rs_75 {G : iv_F} {x : Nat} (hx : x < 960) : rs G 75 x = G 95 (120 + x) := (show fi (rs0 G) 75 960 (fun y => G 95 (120 + y)) 75 x = _ from fi_i hx)
theorem rs_76 {G : iv_F} {x : Nat} (hx : x < 8) : rs G 76 x = G 95 (1080 + x) := (show fi (rs1 G) 76 8 (fun y => G 95 (1080 + y)) 76 x = _ from fi_i hx)
theorem rs_77 {G : iv_F} {x : Nat} (hx : x < 200) : rs G 77 x = G 95 (1088 + x) := (show fi (rs2 G) 77 200 (fun y => G 95 (1088 + y)) 77 x = _ from fi_i hx)
section
variable {S : iv_F} {nx0 pr0 nt nf ns nm : Nat}
/-- the world as it was before -/
theorem b_rest {F G : iv_F} {x2 : Nat → Nat → Int64} (K : bK S nx0 pr0 F G) (h2 : iv_wd S nt ns nx0) (e27 : S 55 27 = nI pr0) (e20 : ∀ k, k < 200 → k < pr0 → S 20 k = S 77 k) (hpb : pr0 ≤ 1000000) (b3 : ns ≤ 8) : ∃ Fc, pz_WP 70 (0, pz_en 2 [.ref 16, .ref 21], []) (F, x2) (pz_is none (Fc, x2)) ∧ (∀ a, ¬ (16 ≤ a ∧ a ≤ 20) → Fc a = F a) ∧ iv_wd (mxf Fc (rs G)) nt ns nx0 ∧ rPr Fc (rs G) pr0 ∧ ∀ x, x < nx0 → Fc 17 x = S 17 x := by
  obtain ⟨k1, k2, k3, ⟨⟨k21, k21'⟩, k22, k23, k24, k25⟩, k5⟩ := K
  have wb := h2.1.2.2
  obtain ⟨Fc, hC2, oc, ⟨l0, l1⟩, l17, l18, l19, l20⟩ := w_cp16_21 (σ := (F, x2)) (nx := nx0) (pr := pr0) k21 wb k21' (by omega)
  have s17 : ∀ x, x < nx0 → Fc 17 x = S 17 x := fun x hx => (l17 x hx).trans (k22 x hx)
  refine ⟨Fc, hC2, oc, ?_, ⟨l1, ?_, fun k hk hkp => ?_, hpb⟩, s17⟩
  · refine iv_wd_r h2 ?_ ?_ (fun x hx => ?_) (fun x hx => ?_) (fun x hx => ?_) (fun j hj => ?_) (fun j hj => ?_) (fun s hs => ?_) (fun s hs => ?_) ?_ ?_ ?_ b3
    · rw [mx_c (by decide)]; exact l0
    · rw [mx_g (by decide)]
      show G 95 1288 = _
      rw [k5 _ (by decide), sv_5]
      exact h2.1.2.1
    · rw [mx_c (by decide)]; exact s17 x hx
    · rw [mx_g (by decide), rs_73 (by omega), k5 _ (by omega), sv_0 (by omega)]
    · rw [mx_g (by decide), rs_74 (by omega), k5 _ (by omega), sv_1 (by omega)]
    · rw [mx_c (by decide)]; exact (l18 j hj).trans (k23 j hj)
    · rw [mx_g (by decide), rs_75 (by omega), k5 _ (by omega), sv_2 (by omega)]
    · rw [mx_c (by decide)]; exact (l19 s hs).trans (k24 s hs)
    · rw [mx_g (by decide), rs_76 (by omega), k5 _ (by omega), sv_3 (by omega)]
    · rw [mx_c (by decide), oc 3 (by decide)]; exact k1 3 (by decide) rfl (by decide) (by decide)
    · rw [mx_c (by decide), oc 4 (by decide)]; exact k1 4 (by decide) rfl (by decide) (by decide)
    · rw [mx_c (by decide), oc 5 (by decide)]; exact k1 5 (by decide) rfl (by decide) (by decide)
  · show G 95 1289 = _
    rw [k5 _ (by decide), sv_6]
    exact e27
  · rw [l20 k hk hkp, rs_77 hk, k5 _ (by omega), sv_4 hk]
    exact (k25 k hk hkp).trans (e20 k hk hkp)
end
/-- both ends with the world as it was -/
theorem b_fin {L n : Nat} {ys : Nat → Int32} {σ : pz_Sg} {nt nf ns nm nx pr : Nat} {F G : iv_F} {a0 a1 r : Int32} (h0 : pz_ti L ys σ) (h1 : iv_pg σ.1 nt nf ns nm) (h2 : iv_wd σ.1 nt ns nx) (hpr : pr ≤ 500 * n) (hn : n < 512) (e27 : σ.1 55 27 = nI pr) (e20 : ∀ k, k < 200 → k < pr → σ.1 20 k = σ.1 77 k) (h4 : iv_ar σ.1 nx) (h5 : iv_an σ nm) (h6 : iv_la σ.1) (K : bK σ.1 nx pr F G) (reach : ∀ T P, P (some (.int r)) (Ms T (rs G)) → pz_WP 177 (0, pz_en 6 [.ref 55, .int a0, .int a1], []) (Ms T σ.1) P) :
    ∃ Q : pz_Ps, pz_WP 70 (0, pz_en 2 [.ref 16, .ref 21], []) (F, σ.2) Q ∧ ∀ σ1, Q none σ1 → ∃ r', some (Value.int r) = some (Value.int r') ∧ (σ1.1 1000 = σ.1 1000 ∧ σ1.1 1001 = σ.1 1001) ∧ pz_WP 177 (0, pz_en 6 (.ref 55 :: [.int a0, .int a1]), []) σ1 (fun v' σ2 => v' = some (.int r') ∧ iv L ys (n + 1) σ2) := by
  obtain ⟨Fc, hC, oc, wd, rp, -⟩ := b_rest (x2 := σ.2) K h2 e27 e20 (by omega) h1.1.2.2.1.2.2
  obtain ⟨k1, k2, k3, -, -⟩ := id K
  have cO : ∀ a, (a ≤ 102 ∨ a = 1000 ∨ a = 1001) → rcN a = false → ¬ (16 ≤ a ∧ a ≤ 30) → ¬ (46 ≤ a ∧ a ≤ 51) → Fc a = σ.1 a := fun a ha hn hc hd => by
    rw [oc a (by omega)]
    exact k1 a ha hn (by omega) hd
  refine pz_kv hC ⟨r, rfl, ⟨cO 1000 (by decide) rfl (by decide) (by decide), cO 1001 (by decide) rfl (by decide) (by decide)⟩, ?_⟩
  rw [Ms_eq (s := (Fc, σ.2)) (G := σ.1) (fun a ha => cO a (Or.inl ha.2) (by unfold rcN; simp; omega) (by omega) (by omega))]
  generalize hT : ((Fc, σ.2) : pz_Sg) = T
  have tF : T.1 = Fc := by rw [← hT]
  have t2 : T.2 = σ.2 := by rw [← hT]
  refine reach T _ ⟨rfl, ?_⟩
  have sC : ∀ a, a ≤ 54 ∨ 103 ≤ a → (Ms T (rs G)).1 a = Fc a := fun a ha => by
    show (if a ≤ 54 ∨ 103 ≤ a then T.1 a else _) = _
    rw [if_pos ha, tF]
  have sO : ∀ a, 55 ≤ a ∧ a ≤ 102 → rgN a = false → a ≠ 95 → a ≠ 96 → ¬ (98 ≤ a ∧ a ≤ 102) → (Ms T (rs G)).1 a = σ.1 a := fun a ha hr h95 h96 h98 => by
    have hr' := hr
    unfold rgN at hr'
    simp at hr'
    rw [Ms_r ha, rs_o (by omega) (by omega)]
    exact k2 a ha hr h95 h96 h98
  have sJ : ∀ j, rjN j = false → j ≠ 70 → (Ms T (rs G)).1 55 j = σ.1 55 j := fun j hj h70 => by
    have hj' := hj
    unfold rjN at hj'
    simp at hj'
    rw [Ms_r (by decide), rs_j (by omega) (by omega)]
    exact k3 j hj h70
  refine ⟨⟨?_, fun j hj => ?_⟩, nt, nf, ns, nm, nx, ?_, ?_, ⟨pr, by omega, ?_, ?_, fun k hk hkp => ?_⟩, fun j hj => ?_, ?_, ?_⟩
  · rw [sC 1001 (by decide), cO 1001 (by decide) rfl (by decide) (by decide)]
    exact h0.1
  · rw [sC 1000 (by decide), cO 1000 (by decide) rfl (by decide) (by decide)]
    exact h0.2 j hj
  · refine iv_pg_c (F := σ.1) (fun a ha j => ?_) (fun j _ => ?_) ?_ ?_ ?_ ?_ h1
    · have ha' := ha
      unfold iv_pgN at ha'
      simp at ha'
      by_cases q : a ≤ 54
      · rw [sC a (Or.inl q), cO a (Or.inl (by omega)) (by unfold rcN; simp; omega) (by omega) (by omega)]
      · rw [sO a (by omega) (by unfold rgN; simp; omega) (by omega) (by omega) (by omega)]
    · rw [sC 1 (by decide), cO 1 (by decide) rfl (by decide) (by decide)]
    · exact sJ 0 rfl (by decide)
    · exact sJ 2 rfl (by decide)
    · exact sJ 5 rfl (by decide)
    · exact sJ 7 rfl (by decide)
  · refine iv_wd_c (F := mxf Fc (rs G)) (fun a ha j => ?_) ?_ ?_ wd
    · have ha' := ha
      unfold iv_wdN at ha'
      simp at ha'
      by_cases q : a ≤ 54
      · rw [sC a (Or.inl q), mx_c q]
      · rw [Ms_r (by omega), mx_g (by omega)]
    · rw [sC 16 (by decide), mx_c (by decide)]
    · rw [Ms_r (by decide), mx_g (by decide)]
  · rw [sC 16 (by decide)]
    exact rp.1
  · rw [Ms_r (by decide)]
    exact rp.2.1
  · rw [sC 20 (by decide), Ms_r (by decide)]
    exact rp.2.2.1 k hk hkp
  · rw [sC 53 (by decide), cO 53 (by decide) rfl (by decide) (by decide), sC 54 (by decide), cO 54 (by decide) rfl (by decide) (by decide), sO 78 (by decide) rfl (by decide) (by decide) (by decide), sO 79 (by decide) rfl (by decide) (by decide) (by decide)]
    exact h4 j hj
  · refine iv_an_c (σ := σ) (fun a ha j => ?_) ?_ ?_ (fun j => ?_) h5
    · have ha' := ha
      unfold iv_anN at ha'
      simp at ha'
      by_cases q : a ≤ 54
      · rw [sC a (Or.inl q), cO a (Or.inl (by omega)) (by unfold rcN; simp; omega) (by omega) (by omega)]
      · rw [sO a (by omega) (by unfold rgN; simp; omega) (by omega) (by omega) (by omega)]
    · rw [sC 0 (by decide), cO 0 (by decide) rfl (by decide) (by decide)]
    · exact sJ 21 rfl (by decide)
    · show T.2 32 j = σ.2 32 j
      rw [t2]
  · refine iv_la_c (F := σ.1) (fun j => ?_) (fun j => ?_) ?_ ?_ h6 ?_
    · rw [sC 52 (by decide), cO 52 (by decide) rfl (by decide) (by decide)]
    · rw [sO 97 (by decide) rfl (by decide) (by decide) (by decide)]
    · exact sJ 62 rfl (by decide)
    · exact sJ 64 rfl (by decide)
    · exact sJ 39 rfl (by decide)
