/-! ===== both: two METHODS tried, one behind the other ===== -/
/-- one try of the reference -/
def tryM (m w at' : Nat) (s : pz_Sg) (K0 K1 : pz_Sg → Prop) : Prop := ∃ Q : pz_Ps, pz_WP 166 (0, pz_en 5 [.ref 55, .int (nI m), .int (nI w)], []) s Q ∧ ∀ r1 σ1, Q (some (.int r1)) σ1 → ((r1 = (0 : Int32) → K0 σ1) ∧ (¬ r1 = (0 : Int32) → (vp_in (nI at') 4 ∧ (∀ σ2 : pz_Sg, σ2 = pz_up σ1 98 (nI at').toNatClampNeg (σ1.1 55 51) → (vp_in (nI at') 4 ∧ (∀ σ3 : pz_Sg, σ3 = pz_up σ2 99 (nI at').toNatClampNeg (σ2.1 55 52) → K1 σ3))))))
theorem tryM_m {m w at' : Nat} {s : pz_Sg} {K0 K1 K0' K1' : pz_Sg → Prop} (h : tryM m w at' s K0 K1) (h0 : ∀ s, K0 s → K0' s) (h1 : ∀ s, K1 s → K1' s) : tryM m w at' s K0' K1' := by
  obtain ⟨Q, q1, q2⟩ := h
  refine ⟨Q, q1, fun r s hq => ?_⟩
  obtain ⟨k1, k2⟩ := q2 r s hq
  refine ⟨fun z => h0 _ (k1 z), fun z => ?_⟩
  obtain ⟨v, k3⟩ := k2 z
  refine ⟨v, fun s2 e2 => ?_⟩
  obtain ⟨v', k4⟩ := k3 s2 e2
  exact ⟨v', fun s3 e3 => h1 _ (k4 s3 e3)⟩
/-- what stands while METHODS are tried: S is what was before -/
def bK (S : iv_F) (nx0 pr0 : Nat) (F G : iv_F) : Prop :=
  (∀ a, (a ≤ 102 ∨ a = 1000 ∨ a = 1001) → rcN a = false → ¬ (21 ≤ a ∧ a ≤ 30) → ¬ (46 ≤ a ∧ a ≤ 51) → F a = S a) ∧
  (∀ a, 55 ≤ a ∧ a ≤ 102 → rgN a = false → a ≠ 95 → a ≠ 96 → ¬ (98 ≤ a ∧ a ≤ 102) → G a = S a) ∧
  (∀ j, rjN j = false → j ≠ 70 → G 55 j = S 55 j) ∧
  ((F 21 0 = nI nx0 ∧ F 21 1 = nI pr0) ∧ (∀ y, y < nx0 → F 22 y = S 17 y) ∧ (∀ y, y < 16 * nx0 → F 23 y = S 18 y) ∧ (∀ y, y < 8 → F 24 y = S 19 y) ∧ ∀ y, y < 200 → y < pr0 → F 25 y = S 20 y) ∧
  ∀ y, y < 1290 → G 95 y = sv S y
theorem bK_c {S F G F' G' : iv_F} {nx0 pr0 : Nat} (H : bK S nx0 pr0 F G) (hF : ∀ a, (a ≤ 102 ∨ a = 1000 ∨ a = 1001) → rcN a = false → ¬ (26 ≤ a ∧ a ≤ 30) → ¬ (46 ≤ a ∧ a ≤ 51) → F' a = F a) (hG : ∀ a, 55 ≤ a ∧ a ≤ 102 → rgN a = false → a ≠ 96 → ¬ (98 ≤ a ∧ a ≤ 102) → G' a = G a) (hJ : ∀ j, rjN j = false → j ≠ 70 → G' 55 j = G 55 j) : bK S nx0 pr0 F' G' := by
  obtain ⟨k1, k2, k3, k4, k5⟩ := H
  refine ⟨fun a h1 h2 h3 h4 => by rw [hF a h1 h2 (by omega) h4]; exact k1 a h1 h2 h3 h4, fun a h1 h2 h3 h4 h5 => by rw [hG a h1 h2 h4 h5]; exact k2 a h1 h2 h3 h4 h5, fun j h1 h2 => (hJ j h1 h2).trans (k3 j h1 h2), ?_, fun y hy => by rw [hG 95 (by decide) rfl (by decide) (by decide)]; exact k5 y hy⟩
  rw [hF 21 (by decide) rfl (by decide) (by decide), hF 22 (by decide) rfl (by decide) (by decide), hF 23 (by decide) rfl (by decide) (by decide), hF 24 (by decide) rfl (by decide) (by decide), hF 25 (by decide) rfl (by decide) (by decide)]
  exact k4
/-- before a METHOD is tried -/
def bJ (S : iv_F) (nx0 pr0 nt ns nx pr : Nat) (F G : iv_F) : Prop := bK S nx0 pr0 F G ∧ G 55 70 = S 55 70 ∧ iv_wd (mxf F G) nt ns nx ∧ rPr F G pr ∧ nx0 ≤ nx ∧ ∀ x, x < nx0 → F 17 x = S 17 x
section
variable {S : iv_F} {nx0 pr0 nt nf ns nm nx pr m w c at' : Nat}
theorem bJ_fr {F G : iv_F} (J : bJ S nx0 pr0 nt ns nx pr F G) : rFr (mkB F G) F G := by
  obtain ⟨⟨k1, k2, k3, -, -⟩, k70, -⟩ := J
  refine mkB_fr (fun a ha hn => ?_) (fun j hj => ?_)
  · rw [k2 a ⟨ha.1, by omega⟩ hn (by omega) (by omega) (by omega), k1 a (Or.inl (by omega)) (by unfold rcN; simp; omega) (by omega) (by omega)]
  · rw [k1 55 (by decide) rfl (by decide) (by decide)]
    by_cases e : j = 70
    · rw [e]; exact k70
    · exact k3 j hj e
/-- what a try leaves -/
theorem bJ_go {F G F1 F2 G1 F' G' : iv_F} (hc : c = 47 ∨ c = 48) (J : bJ S nx0 pr0 nt ns nx pr F G) (r1 : rFr (mkB F G) F1 G1) (ox : ∀ a, a ≠ 40 → F2 a = F1 a) (hF : ∀ a, a ≠ c → F' a = F2 a) (hG : ∀ a, ¬ (98 ≤ a ∧ a ≤ 99) → G' a = G1 a) :
    bK S nx0 pr0 F' G' ∧ G' 55 70 = S 55 70 ∧ (∀ a, (a ≤ 102 ∨ a = 1000 ∨ a = 1001) → rcN a = false → a ≠ c → F' a = F a) ∧ (∀ a, 95 ≤ a ∧ a ≤ 102 → ¬ (98 ≤ a ∧ a ≤ 99) → G' a = G a) := by
  obtain ⟨m1, m2, m3, m4⟩ := mkB_u r1
  obtain ⟨⟨k1, k2, k3, k4, k5⟩, k70, -⟩ := id J
  have e55 : ∀ j, F 55 j = S 55 j := fun j => congrFun (k1 55 (by decide) rfl (by decide) (by decide)) j
  have fF : ∀ a, (a ≤ 102 ∨ a = 1000 ∨ a = 1001) → rcN a = false → a ≠ c → F' a = F a := fun a h1 h2 h3 => by
    rw [hF a h3, ox a (fun q => by rw [q] at h2; cases h2), m1 a h1 h2]
  have gG : ∀ a, 95 ≤ a ∧ a ≤ 102 → ¬ (98 ≤ a ∧ a ≤ 99) → G' a = G a := fun a h1 h2 => by
    rw [hG a h2, m2 a h1]
  refine ⟨bK_c J.1 (fun a h1 h2 _ h4 => fF a h1 h2 (by omega)) (fun a h1 h2 h3 h4 => ?_) (fun j h1 h2 => ?_), ?_, fF, gG⟩
  · by_cases q : 95 ≤ a
    · exact gG a ⟨q, h1.2⟩ (by omega)
    · rw [hG a (by omega), m3 a ⟨h1.1, by omega⟩ h2, k1 a (Or.inl (by omega)) (by unfold rcN; simp; omega) (by omega) (by omega), k2 a h1 h2 (by omega) (by omega) (by omega)]
  · rw [hG 55 (by decide), m4 j h1, e55, k3 j h1 h2]
  · rw [hG 55 (by decide), m4 70 rfl, e55]
/-- tryOne beside the reference's try -/
theorem w_tryG {F G : iv_F} {x2 : Nat → Nat → Int64} {Post : pz_Ps} (hc : c = 47 ∨ c = 48) (hw : w ≤ 1) (hat : at' < 4) (h1 : iv_pg S nt nf ns nm) (h4 : iv_ar S nx0) (hm : m < nm) (J : bJ S nx0 pr0 nt ns nx pr F G) (hpb : pr + 500 < 1000000)
    (hEnd : ∀ F' G' nx' pr' f, bJ S nx0 pr0 nt ns nx' pr' F' G' → pr' ≤ pr + 500 → nx ≤ nx' → f ≤ 9 → (F' c (2 * w) = nI f ∧ G' 98 at' = nI f) → F' c (2 * w + 1) = G' 99 at' → (f = 0 ∨ F' c (2 * w + 1) = 0) → (f = 0 → S 8 m = nI 2 → iv_rv nx' (F' c (2 * w + 1))) → (∀ a, (a ≤ 102 ∨ a = 1000 ∨ a = 1001) → rcN a = false → a ≠ c → F' a = F a) → (∀ j, j ≠ 2 * w → j ≠ 2 * w + 1 → F' c j = F c j) → (∀ a, 95 ≤ a ∧ a ≤ 102 → ¬ (98 ≤ a ∧ a ≤ 99) → G' a = G a) → (∀ j, j ≠ at' → G' 98 j = G 98 j ∧ G' 99 j = G 99 j) → (∀ T K0 K1, K1 (Ms T G') → tryM m w at' (Ms T G) K0 K1) → Post (some (.int 1)) (F', x2))
    (hFull : ∀ F' G', bK S nx0 pr0 F' G' → (∀ T K0 K1, K0 (Ms T G') → tryM m w at' (Ms T G) K0 K1) → Post (some (.int 0)) (F', x2)) :
    ∃ Q : pz_Ps, pz_WP 34 (0, pz_en 8 [.ref 39, .int (nI m), .ref 53, .ref 54, .int (nI w * (nI 3)), .int (0 : Int32)], []) (F, x2) Q ∧ ∀ r1 σ1, Q (some (.int r1)) σ1 → (vp_in (nI w * (nI 2)) 4 ∧ (∀ σ2 : pz_Sg, σ2 = pz_up σ1 c (nI w * (nI 2)).toNatClampNeg r1 → (vp_in ((nI w * (nI 2)) + (1 : Int32)) 4 ∧ (∀ σ3 : pz_Sg, σ3 = pz_up σ2 c ((nI w * (nI 2)) + (1 : Int32)).toNatClampNeg (σ2.1 40 5) → ((r1 = (-(nI 4)) → Post (some (.int (0 : Int32))) σ3) ∧ (¬ r1 = (-(nI 4)) → Post (some (.int (1 : Int32))) σ3)))))) := by
  obtain ⟨⟨k1, k2, k3, k4, k5⟩, k70, hwd, hrp, hnx, h17⟩ := id J
  have a1 := bJ_fr J
  have cS : ∀ a, a ≤ 15 → F a = S a := fun a ha => k1 a (Or.inl (by omega)) (by unfold rcN; simp; omega) (by omega) (by omega)
  have hQ : rQ (mkB F G) nt nf ns nm m (3 * w) := rq_mk h1 (fun a ha => by
    unfold iv_pgN at ha
    simp at ha
    by_cases q : a ≤ 15
    · exact cS a q
    · exact k1 a (Or.inl (by omega)) (by unfold rcN; simp; omega) (by omega) (by omega)) (cS 1 (by decide)) (by rw [k1 55 (by decide) rfl (by decide) (by decide)]) hm (by omega)
  have har : ∀ j, j < 6 → F 53 j = G 78 j ∧ G 79 j = F 54 j + 1 ∧ iv_rv nx (F 54 j) := fun j hj => by
    rw [k1 53 (by decide) rfl (by decide) (by decide), k1 54 (by decide) rfl (by decide) (by decide), k2 78 (by decide) rfl (by decide) (by decide) (by decide), k2 79 (by decide) rfl (by decide) (by decide) (by decide)]
    obtain ⟨j1, j2, j3⟩ := h4 j hj
    exact ⟨j1, j2, iv_rv_le j3 hnx⟩
  rw [pk_mul, pk_mul, nI_1, nI_clamp (show w * 2 < 2 ^ 31 by omega), nI_clamp (show w * 2 + 1 < 2 ^ 31 by omega), Nat.mul_comm w 3, Nat.mul_comm w 2]
  have v1 : vp_in (nI (2 * w)) 4 := vp_in_nI (by omega) (by decide)
  have v2 : vp_in (nI (2 * w + 1)) 4 := vp_in_nI (by omega) (by decide)
  have va : vp_in (nI at') 4 := vp_in_nI hat (by decide)
  refine pz_kQ (w_goRun (σ := (F, x2)) (G := G) hQ rfl hw a1 hwd hrp hpb har (fun x _ => congrFun (mkB_c (by decide)).symm x) (Or.inl rfl) ?_ ?_)
  · intro F1 F2 G1 nx' dn fl pr' f R hfn hp' hf ef ox o40 o44 o7a o7b hW r er
    cases er
    refine ⟨v1, ?_⟩
    rintro σ2 rfl
    refine ⟨v2, ?_⟩
    rintro σ3 rfl
    refine ⟨fun q => absurd q ((by decide +kernel : ∀ f, f < 10 → ¬ nI f = -(nI 4)) f (by omega)), fun _ => ?_⟩
    obtain ⟨r1, r2, r3, -, -, ⟨⟨-, -, u2⟩, -, -, u5⟩, -, ⟨q1, q2, -, f', hf', ef', q3⟩, -, -, r17⟩ := id R
    have ff : f' = f := (nI_eq (by omega) (by omega)).mp (ef'.symm.trans ef)
    subst ff
    have c40 : c ≠ 40 := by omega
    have e5 : fu F2 c (2 * w) (nI f') 40 5 = F1 40 5 := by rw [fu_o (Ne.symm c40), o40 5 (by decide) (by decide)]
    show Post _ (fu (fu F2 c (2 * w) (nI f')) c (2 * w + 1) (fu F2 c (2 * w) (nI f') 40 5), x2)
    rw [e5]
    generalize hF' : fu (fu F2 c (2 * w) (nI f')) c (2 * w + 1) (F1 40 5) = F'
    generalize hG' : fu (fu G1 98 at' (G1 55 51)) 99 at' (G1 55 52) = G'
    have fo : ∀ a, a ≠ c → F' a = F2 a := fun a ha => by rw [← hF', fu_o ha, fu_o ha]
    have go : ∀ a, ¬ (98 ≤ a ∧ a ≤ 99) → G' a = G1 a := fun a ha => by rw [← hG', fu_o (by omega), fu_o (by omega)]
    obtain ⟨z1, z2, z3, z4⟩ := bJ_go (c := c) hc J r1 ox fo go
    have fc0 : F' c (2 * w) = nI f' := by rw [← hF', fu_j (by omega), fu_s]
    have fc1 : F' c (2 * w + 1) = F1 40 5 := by rw [← hF', fu_s]
    have g98 : G' 98 at' = G1 55 51 := by rw [← hG', fu_o (by decide), fu_s]
    have g99 : G' 99 at' = G1 55 52 := by rw [← hG', fu_s]
    have f16 : F' 16 = F1 16 := by rw [fo 16 (by omega), ox 16 (by decide)]
    have f20 : F' 20 = F1 20 := by rw [fo 20 (by omega), ox 20 (by decide)]
    have f17 : F' 17 = F1 17 := by rw [fo 17 (by omega), ox 17 (by decide)]
    refine hEnd F' G' nx' pr' f' ⟨z1, z2, ?_, ?_, by omega, fun x hx => ?_⟩ hp' u2 hf ⟨fc0, ?_⟩ ?_ ?_ (fun h0 h8 => ?_) z3 (fun j j1 j2 => ?_) z4 (fun j hj => ?_) (fun T K0 K1 hK => ?_)
    · refine iv_wd_c (F := mxf F1 G1) (fun a ha j => ?_) ?_ ?_ r2
      · unfold iv_wdN at ha
        simp at ha
        by_cases q : a ≤ 54
        · rw [mx_c q, mx_c q, fo a (by omega), ox a (by omega)]
        · rw [mx_g (by omega), mx_g (by omega), go a (by omega)]
      · rw [mx_c (by decide), mx_c (by decide), f16]
      · rw [mx_g (by decide), mx_g (by decide), go 55 (by decide)]
    · unfold rPr at r3 ⊢
      rw [f16, f20, go 55 (by decide), go 77 (by decide)]
      exact r3
    · rw [f17, r17 x (by omega), mkB_c (by decide)]
      exact h17 x hx
    · rw [g98, ← q1, ef]
    · rw [fc1, g99, q2]
    · rw [fc1]
      exact q3
    · rw [fc1]
      exact hfn (by rw [ef, h0]; rfl) (by rw [mkB_c (by decide), cS 8 (by decide)]; exact h8)
    · rw [← hF', fu_j j2, fu_j j1, ox c c40, (mkB_u r1).1 c (Or.inl (by omega)) (by unfold rcN; simp; omega)]
    · rw [← hG', fu_o (by decide), fu_j hj, fu_j hj, fu_o (by decide), (mkB_u r1).2.1 98 (by decide), (mkB_u r1).2.1 99 (by decide)]
      exact ⟨rfl, rfl⟩
    · refine ⟨_, hW T (fun v s => v = some (.int 1) ∧ s = Ms T G1) ⟨rfl, rfl⟩, ?_⟩
      rintro r s ⟨er, rfl⟩
      cases er
      refine ⟨fun z => absurd z (by decide), fun _ => ⟨va, ?_⟩⟩
      rintro σ2 rfl
      refine ⟨va, ?_⟩
      rintro σ3 rfl
      rw [nI_clamp (show at' < 2 ^ 31 by omega), Ms_u (by decide), Ms_u (by decide), Ms_r (by decide), Ms_r (by decide), fu_o (show 55 ≠ 98 by decide), hG']
      exact hK
  · intro F1 G1 r1 hW r er
    cases er
    refine ⟨v1, ?_⟩
    rintro σ2 rfl
    refine ⟨v2, ?_⟩
    rintro σ3 rfl
    refine ⟨fun _ => ?_, fun q => absurd rfl q⟩
    obtain ⟨z1, -, -, -⟩ := bJ_go (c := c) (F2 := F1) (F' := (pz_up (pz_up (F1, x2) c (2 * w) (-(nI 4))) c (2 * w + 1) ((pz_up (F1, x2) c (2 * w) (-(nI 4))).1 40 5)).1) (G' := G1) hc J r1 (fun _ _ => rfl) (fun a ha => by rw [fu_up, fu_up, fu_o ha, fu_o ha]) (fun _ _ => rfl)
    refine hFull _ G1 z1 (fun T K0 K1 hK => ?_)
    refine ⟨_, hW T (fun v s => v = some (.int 0) ∧ s = Ms T G1) ⟨rfl, rfl⟩, ?_⟩
    rintro r s ⟨er, rfl⟩
    cases er
    exact ⟨fun _ => hK, fun z => absurd rfl z⟩
theorem w_try47 {F G : iv_F} {x2 : Nat → Nat → Int64} {Post : pz_Ps} (hw : w ≤ 1) (hat : at' < 4) (h1 : iv_pg S nt nf ns nm) (h4 : iv_ar S nx0) (hm : m < nm) (J : bJ S nx0 pr0 nt ns nx pr F G) (hpb : pr + 500 < 1000000)
    (hEnd : ∀ F' G' nx' pr' f, bJ S nx0 pr0 nt ns nx' pr' F' G' → pr' ≤ pr + 500 → nx ≤ nx' → f ≤ 9 → (F' 47 (2 * w) = nI f ∧ G' 98 at' = nI f) → F' 47 (2 * w + 1) = G' 99 at' → (f = 0 ∨ F' 47 (2 * w + 1) = 0) → (f = 0 → S 8 m = nI 2 → iv_rv nx' (F' 47 (2 * w + 1))) → (∀ a, (a ≤ 102 ∨ a = 1000 ∨ a = 1001) → rcN a = false → a ≠ 47 → F' a = F a) → (∀ j, j ≠ 2 * w → j ≠ 2 * w + 1 → F' 47 j = F 47 j) → (∀ a, 95 ≤ a ∧ a ≤ 102 → ¬ (98 ≤ a ∧ a ≤ 99) → G' a = G a) → (∀ j, j ≠ at' → G' 98 j = G 98 j ∧ G' 99 j = G 99 j) → (∀ T K0 K1, K1 (Ms T G') → tryM m w at' (Ms T G) K0 K1) → Post (some (.int 1)) (F', x2))
    (hFull : ∀ F' G', bK S nx0 pr0 F' G' → (∀ T K0 K1, K0 (Ms T G') → tryM m w at' (Ms T G) K0 K1) → Post (some (.int 0)) (F', x2)) :
    pz_WP 106 (0, pz_en 5 [.ref 0, .int (nI m), .int (nI w), .ref 47], []) (F, x2) Post := pv_106r0_47 _ _ _ _ (w_tryG (c := 47) (Post := Post) (by decide) hw hat h1 h4 hm J hpb hEnd hFull)
theorem w_try48 {F G : iv_F} {x2 : Nat → Nat → Int64} {Post : pz_Ps} (hw : w ≤ 1) (hat : at' < 4) (h1 : iv_pg S nt nf ns nm) (h4 : iv_ar S nx0) (hm : m < nm) (J : bJ S nx0 pr0 nt ns nx pr F G) (hpb : pr + 500 < 1000000)
    (hEnd : ∀ F' G' nx' pr' f, bJ S nx0 pr0 nt ns nx' pr' F' G' → pr' ≤ pr + 500 → nx ≤ nx' → f ≤ 9 → (F' 48 (2 * w) = nI f ∧ G' 98 at' = nI f) → F' 48 (2 * w + 1) = G' 99 at' → (f = 0 ∨ F' 48 (2 * w + 1) = 0) → (f = 0 → S 8 m = nI 2 → iv_rv nx' (F' 48 (2 * w + 1))) → (∀ a, (a ≤ 102 ∨ a = 1000 ∨ a = 1001) → rcN a = false → a ≠ 48 → F' a = F a) → (∀ j, j ≠ 2 * w → j ≠ 2 * w + 1 → F' 48 j = F 48 j) → (∀ a, 95 ≤ a ∧ a ≤ 102 → ¬ (98 ≤ a ∧ a ≤ 99) → G' a = G a) → (∀ j, j ≠ at' → G' 98 j = G 98 j ∧ G' 99 j = G 99 j) → (∀ T K0 K1, K1 (Ms T G') → tryM m w at' (Ms T G) K0 K1) → Post (some (.int 1)) (F', x2))
    (hFull : ∀ F' G', bK S nx0 pr0 F' G' → (∀ T K0 K1, K0 (Ms T G') → tryM m w at' (Ms T G) K0 K1) → Post (some (.int 0)) (F', x2)) :
    pz_WP 106 (0, pz_en 5 [.ref 0, .int (nI m), .int (nI w), .ref 48], []) (F, x2) Post := pv_106r0_48 _ _ _ _ (w_tryG (c := 48) (Post := Post) (by decide) hw hat h1 h4 hm J hpb hEnd hFull)
end
