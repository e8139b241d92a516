theorem pz_kQ {t : Nat} {f : pz_Fr} {σ : pz_Sg} {K : Int32 → pz_Sg → Prop} (h : pz_WP t f σ (fun v s => ∀ r, v = some (.int r) → K r s)) : ∃ Q : pz_Ps, pz_WP t f σ Q ∧ ∀ r s, Q (some (.int r)) s → K r s := ⟨_, h, fun r _ h => h r rfl⟩
theorem mkB_u {F G F' G' : iv_F} (h : rFr (mkB F G) F' G') : (∀ a, (a ≤ 102 ∨ a = 1000 ∨ a = 1001) → rcN a = false → F' a = F a) ∧ (∀ a, 95 ≤ a ∧ a ≤ 102 → G' a = G a) ∧ (∀ a, 55 ≤ a ∧ a ≤ 94 → rgN a = false → G' a = F a) ∧ (∀ j, rjN j = false → G' 55 j = F 55 j) := by
  refine ⟨fun a h1 h2 => (h.1 a h1 h2).trans ?_, fun a ha => (h.2.1 a ⟨by omega, ha.2⟩ ?_).trans ?_, fun a ha hn => (h.2.1 a ⟨ha.1, by omega⟩ hn).trans (mkB_c ha.2), fun j hj => (h.2.2 j hj).trans (congrFun (mkB_c (by decide)) j)⟩
  · unfold rBi
    split
    · unfold mkB
      rw [if_neg (by omega), if_pos (by omega), show a + 2000 - 2000 = a by omega]
    · exact if_pos (by omega)
  · unfold rgN
    simp
    omega
  · unfold mkB
    rw [if_neg (by omega), if_neg (by omega)]
theorem rq_mk {F0 F G : iv_F} {nt nf ns nm m0 t1 : Nat} (h1 : iv_pg F0 nt nf ns nm) (hF : ∀ a, iv_pgN a = true → F a = F0 a) (h11 : F 1 = F0 1) (h55 : F 55 2 = F0 55 2) (hm : m0 < nm) (ht : t1 + 3 ≤ 6) : rQ (mkB F G) nt nf ns nm m0 t1 := by
  obtain ⟨⟨⟨c1, d1, b1⟩, ⟨c2, d2, b2⟩, ⟨c3, d3, b3⟩, ⟨c4, d4, b4⟩⟩, p2, p3, p4, p5, p6, p7⟩ := h1
  have hp : ∀ a, iv_pgN a = true → ∀ j, mkB F G a j = F0 a j := fun a ha j => by
    rw [mkB_c (by unfold iv_pgN at ha; simp at ha; omega), hF a ha]
  exact ⟨⟨⟨b1, b2, b3, b4⟩, iv_mt_c hp p5, iv_ln_c hp p6, iv_ca_c hp p7⟩, iv_ty_c hp p2, iv_fl_c hp p3, iv_rf_c hp p4, ⟨by rw [mkB_c (by decide), h11]; exact c2, by rw [mkB_c (by decide), h55]; exact d2⟩, hm, ht⟩
theorem w_cpDeeds {σ : pz_Sg} (h7 : σ.1 40 7 = 0 ∨ σ.1 40 7 = 1) : pz_WP 1 (0, pz_en 2 [.ref 52, .ref 40], []) σ (pz_is none (fi σ.1 52 8 (σ.1 40), σ.2)) := by
  refine pv_1 σ _ ?_
  rintro σ1 rfl σ2 rfl σ3 rfl σ4 rfl σ5 rfl σ6 rfl σ7 rfl
  refine ⟨h7, ?_⟩
  rintro σ8 rfl
  refine ⟨rfl, Prod.ext ?_ rfl⟩
  show fu (fu (fu (fu (fu (fu (fu (fu σ.1 52 0 (σ.1 40 0)) 52 1 (σ.1 40 1)) 52 2 (σ.1 40 2)) 52 3 (σ.1 40 3)) 52 4 (σ.1 40 4)) 52 5 (σ.1 40 5)) 52 6 (σ.1 40 6)) 52 7 (σ.1 40 7) = _
  have s : ∀ k, fu (fi σ.1 52 k (σ.1 40)) 52 k (σ.1 40 k) = fi σ.1 52 (k + 1) (σ.1 40) := fun k => fi_s
  have s0 : fu σ.1 52 0 (σ.1 40 0) = fi σ.1 52 1 (σ.1 40) := by rw [← s 0, fi_0]
  rw [s0, s 1, s 2, s 3, s 4, s 5, s 6, s 7]
/-- a RUN that ended: the reference tells what it did -/
theorem w_tellM {G : iv_F} {T : pz_Sg} {m0 f : Nat} {res : Int32} {P : pz_Ps} (hf : f ≤ 9) (g51 : G 55 51 = nI f) (hres : (f = 0 → G 55 52 = res) ∧ (0 < f → res = 0)) (hP : ∀ Gd : iv_F, Gd = fu (fu (fu (fu (fu (fu (fu G 55 62 1) 97 0 (G 55 54 ||| G 55 58)) 97 1 (G 55 55 ||| G 55 59)) 97 2 (G 55 27 - G 55 50)) 97 3 (G 55 47)) 97 4 (G 55 22 - G 55 49)) 97 5 res → (G 55 21 = 0 → P (some (.int (nI f))) (Ms T (fu Gd 55 64 1))) ∧ (¬ G 55 21 = 0 → ∃ Q : pz_Ps, pz_WP 169 (0, pz_en 8 [.ref 55, .int (nI m0)], []) (Ms T Gd) Q ∧ ∀ r s, Q (some (.int r)) s → (r = 0 → ∀ σ4, σ4 = pz_up s 55 64 0 → P (some (.int (σ4.1 55 51))) σ4) ∧ (¬ r = 0 → ∀ σ5, σ5 = pz_up s 55 64 1 → P (some (.int (σ5.1 55 51))) σ5))) :
    ∀ σ4 : pz_Sg, σ4 = pz_up (Ms T G) 55 62 1 → (vp_in (0 : Int32) 6 ∧ (∀ σ5 : pz_Sg, σ5 = pz_up σ4 97 (0 : Int32).toNatClampNeg ((σ4.1 55 54) ||| (σ4.1 55 58)) → (vp_in (1 : Int32) 6 ∧ (∀ σ6 : pz_Sg, σ6 = pz_up σ5 97 (1 : Int32).toNatClampNeg ((σ5.1 55 55) ||| (σ5.1 55 59)) → (vp_in (nI 2) 6 ∧ (∀ σ7 : pz_Sg, σ7 = pz_up σ6 97 (nI 2).toNatClampNeg ((σ6.1 55 27) - (σ6.1 55 50)) → (vp_in (nI 3) 6 ∧ (∀ σ8 : pz_Sg, σ8 = pz_up σ7 97 (nI 3).toNatClampNeg (σ7.1 55 47) → (vp_in (nI 4) 6 ∧ (∀ σ9 : pz_Sg, σ9 = pz_up σ8 97 (nI 4).toNatClampNeg ((σ8.1 55 22) - (σ8.1 55 49)) → (((σ9.1 55 51) ≤ (0 : Int32) → pz_WP 170 (141, [some (.ref 55), some (.int (nI m0))], [.int (σ9.1 55 52), .int (nI 5), .ref 97]) σ9 P) ∧ (¬ (σ9.1 55 51) ≤ (0 : Int32) → pz_WP 170 (141, [some (.ref 55), some (.int (nI m0))], [.int (0 : Int32), .int (nI 5), .ref 97]) σ9 P)))))))))))) := by
  rintro σ4 rfl
  rw [Ms_u (by decide)]
  refine ⟨vp_in_nI (n := 0) (by decide) (by decide), ?_⟩
  rintro σ5 rfl
  rw [Ms_u (by decide)]
  refine ⟨vp_in_nI (n := 1) (by decide) (by decide), ?_⟩
  rintro σ6 rfl
  rw [Ms_u (by decide)]
  refine ⟨vp_in_nI (by decide) (by decide), ?_⟩
  rintro σ7 rfl
  rw [Ms_u (by decide)]
  refine ⟨vp_in_nI (by decide) (by decide), ?_⟩
  rintro σ8 rfl
  rw [Ms_u (by decide)]
  refine ⟨vp_in_nI (by decide) (by decide), ?_⟩
  rintro σ9 rfl
  rw [Ms_u (by decide)]
  have L : ∀ s0 : Int32, s0 = res → pz_WP 170 (141, [some (.ref 55), some (.int (nI m0))], [.int s0, .int (nI 5), .ref 97]) (Ms T (fu (fu (fu (fu (fu (fu G 55 62 1) 97 0 (G 55 54 ||| G 55 58)) 97 1 (G 55 55 ||| G 55 59)) 97 2 (G 55 27 - G 55 50)) 97 3 (G 55 47)) 97 4 (G 55 22 - G 55 49))) P := by
    rintro s0 rfl
    refine pv_170_141 _ _ _ _ _ ⟨vp_in_nI (by decide) (by decide), ?_⟩
    rintro σ1 rfl
    rw [nI_clamp (by decide), Ms_u (by decide)]
    obtain ⟨q1, q2⟩ := hP _ rfl
    refine ⟨fun z => ?_, fun z => q2 z⟩
    rintro σ2 rfl
    rw [Ms_u (by decide)]
    have := q1 z
    rw [← g51] at this
    exact this
  refine ⟨fun z => L _ ?_, fun z => L 0 ?_⟩
  · have : f = 0 := by
      have := (nI_leI (show f < 2 ^ 31 by omega) (by decide)).mp (show nI f ≤ nI 0 from (by rw [← g51]; exact z))
      omega
    exact hres.1 this
  · refine (hres.2 (Nat.pos_of_ne_zero fun q => z ?_)).symm
    show G 55 51 ≤ 0
    rw [g51, q]
    decide
