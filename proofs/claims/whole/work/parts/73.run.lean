/-! ===== frames: entered, left, thrown out of ===== -/
theorem w_locals {σ : pz_Sg} {e : Nat} (h : σ.1 39 8 = nI (e + 1)) : pz_WP 39 (0, pz_en 1 [.ref 39], []) σ (pz_is (some (.int (nI (8 * e)))) σ) := by
  refine pv_39 σ _ ?_
  rw [h, qz_m1, pk_mul, Nat.mul_comm]
  exact ⟨rfl, rfl⟩
theorem w_goOn {σ : pz_Sg} {e l : Nat} (h : σ.1 39 8 = nI (e + 1)) (he : e < 12) (hl : σ.1 42 e = nI l) : pz_WP 40 (0, pz_en 1 [.ref 39], []) σ (pz_is (some (.int 0)) (pz_up σ 42 e (nI (l + 1)))) := by
  have ve : vp_in (nI e) 12 := vp_in_nI he (by decide)
  refine pv_40 σ _ ?_
  rw [h, qz_m1, nI_clamp (by omega), hl, nI_1]
  refine ⟨ve, ve, ?_⟩
  rintro σ1 rfl
  exact ⟨rfl, rfl⟩
theorem w_goOnAt {σ : pz_Sg} {e : Nat} {v : Int32} (h : σ.1 39 8 = nI (e + 1)) (he : e < 12) : pz_WP 41 (0, pz_en 2 [.ref 39, .int v], []) σ (pz_is (some (.int 0)) (pz_up σ 42 e v)) := by
  have ve : vp_in (nI e) 12 := vp_in_nI he (by decide)
  refine pv_41 v σ _ ?_
  rw [h, qz_m1, nI_clamp (by omega)]
  refine ⟨ve, ?_⟩
  rintro σ1 rfl
  exact ⟨rfl, rfl⟩
/-- a frame put on -/
def enC (F : iv_F) (d : Nat) (v : Int32) : iv_F := fun x y => if x = 39 ∧ y = 8 then nI (d + 1) else if x = 44 ∧ 8 * d ≤ y ∧ y < 8 * d + 8 then -1 else if x = 43 ∧ 8 * d ≤ y ∧ y < 8 * d + 8 then 0 else if x = 42 ∧ y = d then 0 else if x = 41 ∧ y = d then v else F x y
def enM (G : iv_F) (d : Nat) (v : Int32) : iv_F := fun x y => if x = 55 ∧ y = 41 then nI (d + 1) else if x = 92 ∧ 8 * d ≤ y ∧ y < 8 * d + 8 then -1 else if x = 91 ∧ 8 * d ≤ y ∧ y < 8 * d + 8 then 0 else if x = 90 ∧ y = d then 0 else if x = 89 ∧ y = d then v else G x y
/-- two rows cleared, k places of them -/
def cl2 (F : iv_F) (a b s k : Nat) : iv_F := fun x y => if x = b ∧ s ≤ y ∧ y < s + k then -1 else if x = a ∧ s ≤ y ∧ y < s + k then 0 else F x y
theorem cl2_s {F : iv_F} {a b s k : Nat} (h : a ≠ b) : fu (fu (cl2 F a b s k) a (s + k) 0) b (s + k) (-1) = cl2 F a b s (k + 1) := by
  funext x y
  unfold fu cl2
  by_cases h1 : x = b
  · subst h1
    by_cases h2 : y = s + k
    · rw [if_pos ⟨rfl, h2⟩, if_pos ⟨rfl, by omega, by omega⟩]
    · rw [if_neg (fun z => h2 z.2), if_neg (fun z => h z.1.symm)]
      by_cases h3 : s ≤ y ∧ y < s + k
      · rw [if_pos ⟨rfl, h3⟩, if_pos ⟨rfl, by omega, by omega⟩]
      · rw [if_neg (fun z => h3 z.2), if_neg (fun z => h z.1.symm), if_neg (by omega), if_neg (fun z => h z.1.symm)]
  · rw [if_neg (fun z => h1 z.1)]
    by_cases h2 : x = a
    · subst h2
      by_cases h4 : y = s + k
      · rw [if_pos ⟨rfl, h4⟩, if_neg (fun z => h1 z.1), if_pos ⟨rfl, by omega, by omega⟩]
      · have c : (s ≤ y ∧ y < s + k) ↔ (s ≤ y ∧ y < s + (k + 1)) := by omega
        simp only [h1, h4, and_false, false_and, if_false, true_and]
        by_cases h3 : s ≤ y ∧ y < s + k
        · rw [if_pos h3, if_pos (c.mp h3)]
        · rw [if_neg h3, if_neg (fun z => h3 (c.mpr z))]
    · rw [if_neg (fun z => h2 z.1), if_neg (fun z => h1 z.1), if_neg (fun z => h2 z.1), if_neg (fun z => h1 z.1), if_neg (fun z => h2 z.1)]
theorem cl2_0 {F : iv_F} {a b s : Nat} : cl2 F a b s 0 = F := by
  funext x y
  unfold cl2
  rw [if_neg (by omega), if_neg (by omega)]
theorem w_enter {σ : pz_Sg} {d : Nat} (h : σ.1 39 8 = nI d) (hd : d < 12) (v : Int32) : pz_WP 36 (0, pz_en 3 [.ref 39, .int v], []) σ (pz_is none (enC σ.1 d v, σ.2)) := by
  have vd : vp_in (nI d) 12 := vp_in_nI hd (by decide)
  have go : ∀ n k, k + n = 8 → pz_WP 36 (28, [some (.ref 39), none, some (.int (nI (8 * d + k)))], []) (cl2 (fu (fu σ.1 41 d v) 42 d 0) 43 44 (8 * d) k, σ.2) (pz_is none (enC σ.1 d v, σ.2)) := by
    intro n
    induction n with
    | zero =>
      intro k hk
      have hk : k = 8 := by omega
      subst hk
      refine pv_36_28 _ _ _ ?_
      have e8 : (cl2 (fu (fu σ.1 41 d v) 42 d 0) 43 44 (8 * d) 8) 39 8 = nI d := h
      rw [show ((cl2 (fu (fu σ.1 41 d v) 42 d 0) 43 44 (8 * d) 8, σ.2) : pz_Sg).1 39 8 = nI d from e8, nI_1, pk_mul]
      refine ⟨fun _ => ?_, fun z => absurd (nI_le (by omega) (by omega)) z⟩
      rintro σ1 rfl
      refine ⟨rfl, Prod.ext ?_ rfl⟩
      funext x y
      show (if x = 39 ∧ y = 8 then nI (d + 1) else cl2 (fu (fu σ.1 41 d v) 42 d 0) 43 44 (8 * d) 8 x y) = enC σ.1 d v x y
      unfold cl2 fu enC
      rfl
    | succ n ih =>
      intro k hk
      refine pv_36_28 _ _ _ ?_
      have e8 : (cl2 (fu (fu σ.1 41 d v) 42 d 0) 43 44 (8 * d) k) 39 8 = nI d := h
      rw [show ((cl2 (fu (fu σ.1 41 d v) 42 d 0) 43 44 (8 * d) k, σ.2) : pz_Sg).1 39 8 = nI d from e8, nI_1, nI_1, pk_mul, nI_clamp (show 8 * d + k < 2 ^ 31 by omega)]
      have vk : vp_in (nI (8 * d + k)) 96 := vp_in_nI (by omega) (by decide)
      refine ⟨fun z => absurd ((nI_leI (by omega) (by omega)).mp z) (by omega), fun _ => ⟨vk, ?_⟩⟩
      rintro σ1 rfl
      refine ⟨vk, ?_⟩
      rintro σ2 rfl
      have e := cl2_s (F := fu (fu σ.1 41 d v) 42 d 0) (a := 43) (b := 44) (s := 8 * d) (k := k) (by decide)
      have := ih (k + 1) (by omega)
      rw [← e] at this
      exact this
  refine pv_36 _ σ _ ?_
  rw [h, nI_clamp (by omega)]
  refine ⟨vd, ?_⟩
  rintro σ1 rfl
  rw [show (pz_up σ 41 d v).1 39 8 = nI d from h, nI_clamp (by omega)]
  refine ⟨vd, ?_⟩
  rintro σ2 rfl
  rw [show (pz_up (pz_up σ 41 d v) 42 d 0).1 39 8 = nI d from h, pk_mul, Nat.mul_comm]
  have := go 8 0 (by decide)
  rw [cl2_0] at this
  exact this
theorem w_openM {T : pz_Sg} {G : iv_F} {d : Nat} (h : G 55 41 = nI d) (hd : d < 12) (v : Int32) : pz_WP 150 (0, pz_en 3 [.ref 55, .int v], []) (Ms T G) (pz_is (some (.int 1)) (Ms T (enM G d v))) := by
  have vd : vp_in (nI d) 12 := vp_in_nI hd (by decide)
  have go : ∀ n k, k + n = 8 → pz_WP 150 (38, [some (.ref 55), none, some (.int (nI k))], []) (Ms T (cl2 (fu (fu G 89 d v) 90 d 0) 91 92 (8 * d) k)) (pz_is (some (.int 1)) (Ms T (enM G d v))) := by
    intro n
    induction n with
    | zero =>
      intro k hk
      have hk : k = 8 := by omega
      subst hk
      refine pv_150_38 _ _ _ ?_
      rw [Ms_r (by decide), show (cl2 (fu (fu G 89 d v) 90 d 0) 91 92 (8 * d) 8) 55 41 = nI d from h, nI_1]
      refine ⟨fun _ => ?_, fun z => absurd (by decide) z⟩
      rintro σ1 rfl
      rw [Ms_u (by decide)]
      refine ⟨rfl, ?_⟩
      congr 1
    | succ n ih =>
      intro k hk
      have ix : nI 8 * nI d + nI k = nI (8 * d + k) := by rw [pk_mul, nI_add]
      have vk : vp_in (nI (8 * d + k)) 96 := vp_in_nI (by omega) (by decide)
      refine pv_150_38 _ _ _ ?_
      rw [Ms_r (by decide), show (cl2 (fu (fu G 89 d v) 90 d 0) 91 92 (8 * d) k) 55 41 = nI d from h, ix, nI_clamp (show 8 * d + k < 2 ^ 31 by omega), nI_1]
      refine ⟨fun z => absurd z (nI_ge (by omega) (by decide)), fun _ => ⟨vk, ?_⟩⟩
      rintro σ1 rfl
      rw [Ms_u (by decide), Ms_r (by decide), show (fu (cl2 (fu (fu G 89 d v) 90 d 0) 91 92 (8 * d) k) 91 (8 * d + k) 0) 55 41 = nI d from h, ix, nI_clamp (show 8 * d + k < 2 ^ 31 by omega)]
      refine ⟨vk, ?_⟩
      rintro σ2 rfl
      rw [Ms_u (by decide), cl2_s (by decide), nI_1]
      exact ih (k + 1) (by omega)
  refine pv_150 _ _ _ ?_
  rw [Ms_r (by decide), h, nI_clamp (by omega)]
  refine ⟨fun z => absurd ((nI_eq (by omega) (by decide)).mp z) (by omega), fun _ => ⟨vd, ?_⟩⟩
  rintro σ1 rfl
  rw [Ms_u (by decide), Ms_r (by decide), show (fu G 89 d v) 55 41 = nI d from h, nI_clamp (by omega)]
  refine ⟨vd, ?_⟩
  rintro σ2 rfl
  rw [Ms_u (by decide)]
  have := go 8 0 (by decide)
  rw [cl2_0] at this
  exact this
theorem enC_o {F : iv_F} {d : Nat} {v : Int32} {x : Nat} (h1 : x ≠ 39) (h2 : x ≠ 41) (h3 : x ≠ 42) (h4 : x ≠ 43) (h5 : x ≠ 44) : enC F d v x = F x := funext fun y => by
  unfold enC
  rw [if_neg (fun z => h1 z.1), if_neg (fun z => h5 z.1), if_neg (fun z => h4 z.1), if_neg (fun z => h3 z.1), if_neg (fun z => h2 z.1)]
theorem enM_o {G : iv_F} {d : Nat} {v : Int32} {x : Nat} (h1 : x ≠ 55) (h2 : x ≠ 89) (h3 : x ≠ 90) (h4 : x ≠ 91) (h5 : x ≠ 92) : enM G d v x = G x := funext fun y => by
  unfold enM
  rw [if_neg (fun z => h1 z.1), if_neg (fun z => h5 z.1), if_neg (fun z => h4 z.1), if_neg (fun z => h3 z.1), if_neg (fun z => h2 z.1)]
theorem enC_39 {F : iv_F} {d j : Nat} {v : Int32} (h : j ≠ 8) : enC F d v 39 j = F 39 j := by
  unfold enC
  simp [h]
theorem enM_55 {G : iv_F} {d j : Nat} {v : Int32} (h : j ≠ 41) : enM G d v 55 j = G 55 j := by
  unfold enM
  simp [h]
/-- a called METHOD's frame -/
theorem rr_push {B : iv_F} {nt ns nm m0 t1 t0 pb : Nat} {wv : Int32} {e nx dn fl pr : Nat} {F G : iv_F} (H : RR B nt ns nm m0 t1 t0 pb wv (e + 1) nx dn fl pr F G) (he : e + 1 < 12) {m l m2 : Nat} (hf : rFm B nm F G e m l l) (hl : l < (B 9 m).toNatClampNeg) (h21 : B 10 (24 * m + l) = nI 21) (hb : B 12 (24 * m + l) = nI m2) (hm2 : m2 < nm) : RR B nt ns nm m0 t1 t0 pb wv (e + 2) nx dn fl pr (enC F (e + 1) (nI m2)) (enM G (e + 1) (nI m2)) := by
  obtain ⟨a1, a2, a3, ⟨s1, s2, s3⟩, a5, a6, a7, a8, a9, a10⟩ := H
  have f41 : ∀ j, enC F (e + 1) (nI m2) 41 j = if j = e + 1 then nI m2 else F 41 j := fun j => by unfold enC; simp
  have f42 : ∀ j, enC F (e + 1) (nI m2) 42 j = if j = e + 1 then 0 else F 42 j := fun j => by unfold enC; simp
  have f43 : ∀ y, enC F (e + 1) (nI m2) 43 y = if 8 * (e + 1) ≤ y ∧ y < 8 * (e + 1) + 8 then 0 else F 43 y := fun y => by unfold enC; simp
  have f44 : ∀ y, enC F (e + 1) (nI m2) 44 y = if 8 * (e + 1) ≤ y ∧ y < 8 * (e + 1) + 8 then -1 else F 44 y := fun y => by unfold enC; simp
  have g89 : ∀ j, enM G (e + 1) (nI m2) 89 j = if j = e + 1 then nI m2 else G 89 j := fun j => by unfold enM; simp
  have g90 : ∀ j, enM G (e + 1) (nI m2) 90 j = if j = e + 1 then 0 else G 90 j := fun j => by unfold enM; simp
  have g91 : ∀ y, enM G (e + 1) (nI m2) 91 y = if 8 * (e + 1) ≤ y ∧ y < 8 * (e + 1) + 8 then 0 else G 91 y := fun y => by unfold enM; simp
  have g92 : ∀ y, enM G (e + 1) (nI m2) 92 y = if 8 * (e + 1) ≤ y ∧ y < 8 * (e + 1) + 8 then -1 else G 92 y := fun y => by unfold enM; simp
  have oF : ∀ x, x ≠ 39 → x ≠ 41 → x ≠ 42 → x ≠ 43 → x ≠ 44 → enC F (e + 1) (nI m2) x = F x := fun x h1 h2 h3 h4 h5 => enC_o h1 h2 h3 h4 h5
  have oG : ∀ x, x ≠ 55 → x ≠ 89 → x ≠ 90 → x ≠ 91 → x ≠ 92 → enM G (e + 1) (nI m2) x = G x := fun x h1 h2 h3 h4 h5 => enM_o h1 h2 h3 h4 h5
  refine ⟨⟨fun a h1 h2 => ?_, fun a h1 h2 => ?_, fun j hj => ?_⟩, rWd_c (fun a h _ => ?_) (fun a h _ => ?_) (by rw [oF 16 (by decide) (by decide) (by decide) (by decide) (by decide)]) (enM_55 (by decide)) a2, ?_, ⟨⟨?_, ?_, by omega⟩, fun i hi => ?_, fun j hj => ?_⟩, ?_, ?_, ?_, ?_, rSu_c (enC_39 (by decide)) ?_ (oF 45 (by decide) (by decide) (by decide) (by decide) (by decide)) (by rw [oF 40 (by decide) (by decide) (by decide) (by decide) (by decide)]) (enM_55 (by decide)) (enM_55 (by decide)) (oG 93 (by decide) (by decide) (by decide) (by decide) (by decide)) (oG 94 (by decide) (by decide) (by decide) (by decide) (by decide)) a9, (enM_55 (by decide)).trans a10.1, fun x hx => (congrFun (oF 17 (by decide) (by decide) (by decide) (by decide) (by decide)) x).trans (a10.2 x hx)⟩
  · rw [oF a (fun e => by rw [e] at h2; cases h2) (fun e => by rw [e] at h2; cases h2) (fun e => by rw [e] at h2; cases h2) (fun e => by rw [e] at h2; cases h2) (fun e => by rw [e] at h2; cases h2)]
    exact a1.1 a h1 h2
  · rw [oG a (fun e => by rw [e] at h2; cases h2) (fun e => by rw [e] at h2; cases h2) (fun e => by rw [e] at h2; cases h2) (fun e => by rw [e] at h2; cases h2) (fun e => by rw [e] at h2; cases h2)]
    exact a1.2.1 a h1 h2
  · rw [enM_55 (fun e => by rw [e] at hj; cases hj)]
    exact a1.2.2 j hj
  · exact oF a (fun e => by rw [e] at h; cases h) (fun e => by rw [e] at h; cases h) (fun e => by rw [e] at h; cases h) (fun e => by rw [e] at h; cases h) (fun e => by rw [e] at h; cases h)
  · exact oG a (fun e => by rw [e] at h; cases h) (fun e => by rw [e] at h; cases h) (fun e => by rw [e] at h; cases h) (fun e => by rw [e] at h; cases h) (fun e => by rw [e] at h; cases h)
  · unfold rPr at *
    rw [oF 16 (by decide) (by decide) (by decide) (by decide) (by decide), oF 20 (by decide) (by decide) (by decide) (by decide) (by decide), enM_55 (by decide), oG 77 (by decide) (by decide) (by decide) (by decide) (by decide)]
    exact a3
  · unfold enC; simp
  · unfold enM; simp
  · rw [f43, f44, g91, g92]
    by_cases q : 8 * (e + 1) ≤ i ∧ i < 8 * (e + 1) + 8
    · rw [if_pos q, if_pos q, if_pos q, if_pos q]
      exact ⟨rfl, rfl, Or.inl rfl⟩
    · rw [if_neg q, if_neg q, if_neg q, if_neg q]
      exact s2 i (by omega)
  · by_cases q : j = e + 1
    · subst q
      refine ⟨m2, 0, 0, ⟨hm2, ⟨by rw [f41, if_pos rfl], by rw [g89, if_pos rfl]⟩, ⟨by rw [f42, if_pos rfl]; rfl, by rw [g90, if_pos rfl]; rfl⟩, ⟨by decide, by decide⟩, Or.inl rfl⟩, fun z => absurd z (by omega)⟩
    · by_cases q2 : j = e
      · subst q2
        obtain ⟨h1, ⟨h2, h2'⟩, ⟨h3, h3'⟩, h4⟩ := hf
        refine ⟨m, l, l, ⟨h1, ⟨by rw [f41, if_neg q]; exact h2, by rw [g89, if_neg q]; exact h2'⟩, ⟨by rw [f42, if_neg q]; exact h3, by rw [g90, if_neg q]; exact h3'⟩, h4⟩, fun _ => ⟨rfl, hl, h21, ?_⟩⟩
        rw [f41, if_pos rfl, hb]
      · obtain ⟨m', k, k', ⟨h1, ⟨h2, h2'⟩, ⟨h3, h3'⟩, h4⟩, h5⟩ := s3 j (by omega)
        obtain ⟨h6, h7, h8, h9⟩ := h5 (by omega)
        refine ⟨m', k, k', ⟨h1, ⟨by rw [f41, if_neg q]; exact h2, by rw [g89, if_neg q]; exact h2'⟩, ⟨by rw [f42, if_neg q]; exact h3, by rw [g90, if_neg q]; exact h3'⟩, h4⟩, fun _ => ⟨h6, h7, h8, ?_⟩⟩
        rw [f41, if_neg (by omega)]
        exact h9
  · unfold rCt at *
    rw [oF 40 (by decide) (by decide) (by decide) (by decide) (by decide), enC_39 (by decide), enM_55 (by decide), enM_55 (by decide)]
    exact a5
  · unfold rTh at *
    rw [oF 40 (by decide) (by decide) (by decide) (by decide) (by decide), enC_39 (by decide), enM_55 (by decide), enM_55 (by decide)]
    exact a6
  · unfold rEf at *
    rw [oF 40 (by decide) (by decide) (by decide) (by decide) (by decide), enM_55 (by decide), enM_55 (by decide), enM_55 (by decide), enM_55 (by decide)]
    exact a7
  · obtain ⟨h1, h2, h3, h4⟩ := a8
    unfold rEn
    rw [oF 40 (by decide) (by decide) (by decide) (by decide) (by decide), enM_55 (by decide), enM_55 (by decide)]
    exact ⟨h1, h2, fun _ => h3 (by omega), h4⟩
  · rw [f41, if_neg (by omega)]
/-- the top frame taken off -/
theorem rr_pop {B : iv_F} {nt ns nm m0 t1 t0 pb : Nat} {wv : Int32} {e nx dn fl pr : Nat} {F G : iv_F} (H : RR B nt ns nm m0 t1 t0 pb wv (e + 1) nx dn fl pr F G) : RR B nt ns nm m0 t1 t0 pb wv e nx dn fl pr (fu F 39 8 (nI e)) (fu G 55 41 (nI e)) := by
  obtain ⟨a1, a2, a3, ⟨s1, s2, s3⟩, a5, a6, a7, ⟨h1, h2, h3, h4⟩, a9, a10⟩ := H
  refine ⟨rFr_5 (rFr_f a1 rfl) rfl, rWd_c (fun a h _ => fu_o (fun e => by rw [e] at h; cases h)) (fun a h _ => fu_o (fun e => by rw [e] at h; cases h)) rfl rfl a2, a3, ⟨⟨fu_s, fu_s, by omega⟩, fun i hi => s2 i (by omega), fun j hj => ?_⟩, a5, a6, a7, ⟨h1, h2, fun z => h3 (by omega), h4⟩, rSu_c rfl rfl rfl rfl rfl rfl rfl rfl a9, a10⟩
  obtain ⟨m, l, l', k1, k2⟩ := s3 j (by omega)
  exact ⟨m, l, l', k1, fun z => k2 (by omega)⟩
/-- one more line looked for a catch -/
theorem rr_fl {B : iv_F} {nt ns nm m0 t1 t0 pb : Nat} {wv : Int32} {d nx dn fl pr : Nat} {F G : iv_F} (H : RR B nt ns nm m0 t1 t0 pb wv d nx dn fl pr F G) (h : fl + 1 ≤ 41) : RR B nt ns nm m0 t1 t0 pb wv d nx dn (fl + 1) pr (fu F 39 9 (nI (fl + 1))) (fu G 55 48 (nI (fl + 1))) := by
  obtain ⟨a1, a2, a3, a4, ⟨c1, c2⟩, a6, a7, a8, a9, a10⟩ := H
  exact ⟨rFr_5 (rFr_f a1 rfl) rfl, rWd_c (fun a h _ => fu_o (fun e => by rw [e] at h; cases h)) (fun a h _ => fu_o (fun e => by rw [e] at h; cases h)) rfl rfl a2, a3, rSt_c rfl rfl rfl rfl rfl rfl rfl rfl rfl rfl a4, ⟨c1, ⟨fu_s, fu_s, h⟩⟩, a6, a7, a8, rSu_c rfl rfl rfl rfl rfl rfl rfl rfl a9, a10⟩
