/-! ===== run ===== -/
theorem uc_fi {F : iv_F} {x2 : Nat → Nat → Int64} {a d n : Nat} : pz_uc (F, x2) a d (0 : Int32).toNatClampNeg (0 : Int32).toNatClampNeg n = (fi F d n (F a), x2) := by
  refine Prod.ext (funext fun x => funext fun y => ?_) rfl
  show (if x = d then va_cpy (F a) (F d) 0 0 n y else F x y) = if x = d ∧ y < n then F a y else F x y
  unfold va_cpy
  by_cases h : x = d
  · subst h
    rw [if_pos rfl]
    by_cases h2 : y < n
    · rw [if_pos ⟨Nat.zero_le _, by omega⟩, if_pos ⟨rfl, h2⟩, Nat.sub_zero, Nat.zero_add]
    · rw [if_neg (by omega), if_neg (fun z => h2 z.2)]
  · rw [if_neg h, if_neg (fun z => h z.1)]
theorem w_cp21_16 {σ : pz_Sg} {nx pr : Nat} (h0 : σ.1 16 0 = nI nx) (hn : nx ≤ 60) (h1 : σ.1 16 1 = nI pr) (hp : pr < 2 ^ 30) : ∃ F', pz_WP 70 (0, pz_en 2 [.ref 21, .ref 16], []) σ (pz_is none (F', σ.2)) ∧ (∀ a, ¬ (21 ≤ a ∧ a ≤ 25) → F' a = σ.1 a) ∧ (F' 21 0 = nI nx ∧ F' 21 1 = nI pr) ∧ (∀ y, y < nx → F' 22 y = σ.1 17 y) ∧ (∀ y, y < 16 * nx → F' 23 y = σ.1 18 y) ∧ (∀ y, y < 8 → F' 24 y = σ.1 19 y) ∧ ∀ y, y < 200 → y < pr → F' 25 y = σ.1 20 y := by
  have c : ∃ c, (if nI 200 < nI pr then nI 200 else nI pr) = nI c ∧ c ≤ 200 ∧ ∀ y, y < 200 → y < pr → y < c := by
    by_cases q : 200 < pr
    · exact ⟨200, if_pos (nI_lt q (by omega)), Nat.le_refl _, fun y h _ => h⟩
    · exact ⟨pr, if_neg (nI_nlt (by omega) (by decide)), by omega, fun y _ h => h⟩
  obtain ⟨c, ec, hc, hcy⟩ := c
  refine ⟨fi (fi (fi (fi (fu (fu σ.1 21 0 (nI nx)) 21 1 (nI pr)) 22 nx (σ.1 17)) 23 (16 * nx) (σ.1 18)) 24 8 (σ.1 19)) 25 c (σ.1 20), ?_, fun a ha => ?_, ⟨rfl, rfl⟩, fun y hy => ?_, fun y hy => ?_, fun y hy => ?_, fun y hy hy2 => ?_⟩
  · refine pv_70r21_16 σ _ ?_
    rintro σ1 rfl σ2 rfl
    have z0 : (0 : Int32).toNatClampNeg = 0 := rfl
    rw [h0, show (pz_up σ 21 0 (nI nx)).1 16 1 = nI pr from h1]
    have r0 : (pz_up (pz_up σ 21 0 (nI nx)) 21 1 (nI pr)).1 21 0 = nI nx := rfl
    rw [r0, nI_clamp (show nx < 2 ^ 31 by omega), z0, Nat.zero_add]
    refine ⟨by decide, by decide, nI_pos (by omega), hn, hn, ?_⟩
    rintro σ3 rfl
    rw [show pz_uc (pz_up (pz_up σ 21 0 (nI nx)) 21 1 (nI pr)) 17 22 0 0 nx = (fi (fu (fu σ.1 21 0 (nI nx)) 21 1 (nI pr)) 22 nx (σ.1 17), σ.2) from uc_fi]
    rw [show ((fi (fu (fu σ.1 21 0 (nI nx)) 21 1 (nI pr)) 22 nx (σ.1 17), σ.2) : pz_Sg).1 21 0 = nI nx from rfl, pk_mul, nI_clamp (show nx * 16 < 2 ^ 31 by omega), Nat.mul_comm nx 16, Nat.zero_add]
    refine ⟨by decide, by decide, nI_pos (by omega), by omega, by omega, ?_⟩
    rintro σ4 rfl
    rw [show pz_uc (fi (fu (fu σ.1 21 0 (nI nx)) 21 1 (nI pr)) 22 nx (σ.1 17), σ.2) 18 23 0 0 (16 * nx) = (fi (fi (fu (fu σ.1 21 0 (nI nx)) 21 1 (nI pr)) 22 nx (σ.1 17)) 23 (16 * nx) (σ.1 18), σ.2) from uc_fi]
    rw [nI_clamp (show 8 < 2 ^ 31 by decide)]
    refine ⟨by decide, by decide, by decide, by decide, by decide, ?_⟩
    rintro σ5 rfl
    rw [show pz_uc (fi (fi (fu (fu σ.1 21 0 (nI nx)) 21 1 (nI pr)) 22 nx (σ.1 17)) 23 (16 * nx) (σ.1 18), σ.2) 19 24 0 0 8 = (fi (fi (fi (fu (fu σ.1 21 0 (nI nx)) 21 1 (nI pr)) 22 nx (σ.1 17)) 23 (16 * nx) (σ.1 18)) 24 8 (σ.1 19), σ.2) from uc_fi]
    rw [show ((fi (fi (fi (fu (fu σ.1 21 0 (nI nx)) 21 1 (nI pr)) 22 nx (σ.1 17)) 23 (16 * nx) (σ.1 18)) 24 8 (σ.1 19), σ.2) : pz_Sg).1 21 1 = nI pr from rfl, ec, nI_clamp (show c < 2 ^ 31 by omega), Nat.zero_add]
    refine ⟨by decide, by decide, nI_pos (by omega), hc, hc, ?_⟩
    rintro σ6 rfl
    exact ⟨rfl, uc_fi⟩
  · rw [fi_o (by omega), fi_o (by omega), fi_o (by omega), fi_o (by omega), fu_o (by omega), fu_o (by omega)]
  · rw [fi_o (by decide), fi_o (by decide), fi_o (by decide), fi_i hy]
  · rw [fi_o (by decide), fi_o (by decide), fi_i hy]
  · rw [fi_o (by decide), fi_i hy]
  · rw [fi_i (hcy y hy hy2)]
theorem w_cp16_21 {σ : pz_Sg} {nx pr : Nat} (h0 : σ.1 21 0 = nI nx) (hn : nx ≤ 60) (h1 : σ.1 21 1 = nI pr) (hp : pr < 2 ^ 30) : ∃ F', pz_WP 70 (0, pz_en 2 [.ref 16, .ref 21], []) σ (pz_is none (F', σ.2)) ∧ (∀ a, ¬ (16 ≤ a ∧ a ≤ 20) → F' a = σ.1 a) ∧ (F' 16 0 = nI nx ∧ F' 16 1 = nI pr) ∧ (∀ y, y < nx → F' 17 y = σ.1 22 y) ∧ (∀ y, y < 16 * nx → F' 18 y = σ.1 23 y) ∧ (∀ y, y < 8 → F' 19 y = σ.1 24 y) ∧ ∀ y, y < 200 → y < pr → F' 20 y = σ.1 25 y := by
  have c : ∃ c, (if nI 200 < nI pr then nI 200 else nI pr) = nI c ∧ c ≤ 200 ∧ ∀ y, y < 200 → y < pr → y < c := by
    by_cases q : 200 < pr
    · exact ⟨200, if_pos (nI_lt q (by omega)), Nat.le_refl _, fun y h _ => h⟩
    · exact ⟨pr, if_neg (nI_nlt (by omega) (by decide)), by omega, fun y _ h => h⟩
  obtain ⟨c, ec, hc, hcy⟩ := c
  refine ⟨fi (fi (fi (fi (fu (fu σ.1 16 0 (nI nx)) 16 1 (nI pr)) 17 nx (σ.1 22)) 18 (16 * nx) (σ.1 23)) 19 8 (σ.1 24)) 20 c (σ.1 25), ?_, fun a ha => ?_, ⟨rfl, rfl⟩, fun y hy => ?_, fun y hy => ?_, fun y hy => ?_, fun y hy hy2 => ?_⟩
  · refine pv_70r16_21 σ _ ?_
    rintro σ1 rfl σ2 rfl
    have z0 : (0 : Int32).toNatClampNeg = 0 := rfl
    rw [h0, show (pz_up σ 16 0 (nI nx)).1 21 1 = nI pr from h1]
    have r0 : (pz_up (pz_up σ 16 0 (nI nx)) 16 1 (nI pr)).1 16 0 = nI nx := rfl
    rw [r0, nI_clamp (show nx < 2 ^ 31 by omega), z0, Nat.zero_add]
    refine ⟨by decide, by decide, nI_pos (by omega), hn, hn, ?_⟩
    rintro σ3 rfl
    rw [show pz_uc (pz_up (pz_up σ 16 0 (nI nx)) 16 1 (nI pr)) 22 17 0 0 nx = (fi (fu (fu σ.1 16 0 (nI nx)) 16 1 (nI pr)) 17 nx (σ.1 22), σ.2) from uc_fi]
    rw [show ((fi (fu (fu σ.1 16 0 (nI nx)) 16 1 (nI pr)) 17 nx (σ.1 22), σ.2) : pz_Sg).1 16 0 = nI nx from rfl, pk_mul, nI_clamp (show nx * 16 < 2 ^ 31 by omega), Nat.mul_comm nx 16, Nat.zero_add]
    refine ⟨by decide, by decide, nI_pos (by omega), by omega, by omega, ?_⟩
    rintro σ4 rfl
    rw [show pz_uc (fi (fu (fu σ.1 16 0 (nI nx)) 16 1 (nI pr)) 17 nx (σ.1 22), σ.2) 23 18 0 0 (16 * nx) = (fi (fi (fu (fu σ.1 16 0 (nI nx)) 16 1 (nI pr)) 17 nx (σ.1 22)) 18 (16 * nx) (σ.1 23), σ.2) from uc_fi]
    rw [nI_clamp (show 8 < 2 ^ 31 by decide)]
    refine ⟨by decide, by decide, by decide, by decide, by decide, ?_⟩
    rintro σ5 rfl
    rw [show pz_uc (fi (fi (fu (fu σ.1 16 0 (nI nx)) 16 1 (nI pr)) 17 nx (σ.1 22)) 18 (16 * nx) (σ.1 23), σ.2) 24 19 0 0 8 = (fi (fi (fi (fu (fu σ.1 16 0 (nI nx)) 16 1 (nI pr)) 17 nx (σ.1 22)) 18 (16 * nx) (σ.1 23)) 19 8 (σ.1 24), σ.2) from uc_fi]
    rw [show ((fi (fi (fi (fu (fu σ.1 16 0 (nI nx)) 16 1 (nI pr)) 17 nx (σ.1 22)) 18 (16 * nx) (σ.1 23)) 19 8 (σ.1 24), σ.2) : pz_Sg).1 16 1 = nI pr from rfl, ec, nI_clamp (show c < 2 ^ 31 by omega), Nat.zero_add]
    refine ⟨by decide, by decide, nI_pos (by omega), hc, hc, ?_⟩
    rintro σ6 rfl
    exact ⟨rfl, uc_fi⟩
  · rw [fi_o (by omega), fi_o (by omega), fi_o (by omega), fi_o (by omega), fu_o (by omega), fu_o (by omega)]
  · rw [fi_o (by decide), fi_o (by decide), fi_o (by decide), fi_i hy]
  · rw [fi_o (by decide), fi_o (by decide), fi_i hy]
  · rw [fi_o (by decide), fi_i hy]
  · rw [fi_i (hcy y hy hy2)]
theorem w_cp26_16 {σ : pz_Sg} {nx pr : Nat} (h0 : σ.1 16 0 = nI nx) (hn : nx ≤ 60) (h1 : σ.1 16 1 = nI pr) (hp : pr < 2 ^ 30) : ∃ F', pz_WP 70 (0, pz_en 2 [.ref 26, .ref 16], []) σ (pz_is none (F', σ.2)) ∧ (∀ a, ¬ (26 ≤ a ∧ a ≤ 30) → F' a = σ.1 a) ∧ (F' 26 0 = nI nx ∧ F' 26 1 = nI pr) ∧ (∀ y, y < nx → F' 27 y = σ.1 17 y) ∧ (∀ y, y < 16 * nx → F' 28 y = σ.1 18 y) ∧ (∀ y, y < 8 → F' 29 y = σ.1 19 y) ∧ ∀ y, y < 200 → y < pr → F' 30 y = σ.1 20 y := by
  have c : ∃ c, (if nI 200 < nI pr then nI 200 else nI pr) = nI c ∧ c ≤ 200 ∧ ∀ y, y < 200 → y < pr → y < c := by
    by_cases q : 200 < pr
    · exact ⟨200, if_pos (nI_lt q (by omega)), Nat.le_refl _, fun y h _ => h⟩
    · exact ⟨pr, if_neg (nI_nlt (by omega) (by decide)), by omega, fun y _ h => h⟩
  obtain ⟨c, ec, hc, hcy⟩ := c
  refine ⟨fi (fi (fi (fi (fu (fu σ.1 26 0 (nI nx)) 26 1 (nI pr)) 27 nx (σ.1 17)) 28 (16 * nx) (σ.1 18)) 29 8 (σ.1 19)) 30 c (σ.1 20), ?_, fun a ha => ?_, ⟨rfl, rfl⟩, fun y hy => ?_, fun y hy => ?_, fun y hy => ?_, fun y hy hy2 => ?_⟩
  · refine pv_70r26_16 σ _ ?_
    rintro σ1 rfl σ2 rfl
    have z0 : (0 : Int32).toNatClampNeg = 0 := rfl
    rw [h0, show (pz_up σ 26 0 (nI nx)).1 16 1 = nI pr from h1]
    have r0 : (pz_up (pz_up σ 26 0 (nI nx)) 26 1 (nI pr)).1 26 0 = nI nx := rfl
    rw [r0, nI_clamp (show nx < 2 ^ 31 by omega), z0, Nat.zero_add]
    refine ⟨by decide, by decide, nI_pos (by omega), hn, hn, ?_⟩
    rintro σ3 rfl
    rw [show pz_uc (pz_up (pz_up σ 26 0 (nI nx)) 26 1 (nI pr)) 17 27 0 0 nx = (fi (fu (fu σ.1 26 0 (nI nx)) 26 1 (nI pr)) 27 nx (σ.1 17), σ.2) from uc_fi]
    rw [show ((fi (fu (fu σ.1 26 0 (nI nx)) 26 1 (nI pr)) 27 nx (σ.1 17), σ.2) : pz_Sg).1 26 0 = nI nx from rfl, pk_mul, nI_clamp (show nx * 16 < 2 ^ 31 by omega), Nat.mul_comm nx 16, Nat.zero_add]
    refine ⟨by decide, by decide, nI_pos (by omega), by omega, by omega, ?_⟩
    rintro σ4 rfl
    rw [show pz_uc (fi (fu (fu σ.1 26 0 (nI nx)) 26 1 (nI pr)) 27 nx (σ.1 17), σ.2) 18 28 0 0 (16 * nx) = (fi (fi (fu (fu σ.1 26 0 (nI nx)) 26 1 (nI pr)) 27 nx (σ.1 17)) 28 (16 * nx) (σ.1 18), σ.2) from uc_fi]
    rw [nI_clamp (show 8 < 2 ^ 31 by decide)]
    refine ⟨by decide, by decide, by decide, by decide, by decide, ?_⟩
    rintro σ5 rfl
    rw [show pz_uc (fi (fi (fu (fu σ.1 26 0 (nI nx)) 26 1 (nI pr)) 27 nx (σ.1 17)) 28 (16 * nx) (σ.1 18), σ.2) 19 29 0 0 8 = (fi (fi (fi (fu (fu σ.1 26 0 (nI nx)) 26 1 (nI pr)) 27 nx (σ.1 17)) 28 (16 * nx) (σ.1 18)) 29 8 (σ.1 19), σ.2) from uc_fi]
    rw [show ((fi (fi (fi (fu (fu σ.1 26 0 (nI nx)) 26 1 (nI pr)) 27 nx (σ.1 17)) 28 (16 * nx) (σ.1 18)) 29 8 (σ.1 19), σ.2) : pz_Sg).1 26 1 = nI pr from rfl, ec, nI_clamp (show c < 2 ^ 31 by omega), Nat.zero_add]
    refine ⟨by decide, by decide, nI_pos (by omega), hc, hc, ?_⟩
    rintro σ6 rfl
    exact ⟨rfl, uc_fi⟩
  · rw [fi_o (by omega), fi_o (by omega), fi_o (by omega), fi_o (by omega), fu_o (by omega), fu_o (by omega)]
  · rw [fi_o (by decide), fi_o (by decide), fi_o (by decide), fi_i hy]
  · rw [fi_o (by decide), fi_o (by decide), fi_i hy]
  · rw [fi_o (by decide), fi_i hy]
  · rw [fi_i (hcy y hy hy2)]
theorem iv_wd_r {F F' : iv_F} {nt ns nx : Nat} (H : iv_wd F nt ns nx) (h16 : F' 16 0 = nI nx) (h22 : F' 55 22 = nI nx) (h17 : ∀ x, x < nx → F' 17 x = F 17 x) (h73 : ∀ x, x < nx → F' 73 x = F 73 x) (h74 : ∀ x, x < nx → F' 74 x = F 74 x) (h18 : ∀ j, j < 16 * nx → F' 18 j = F 18 j) (h75 : ∀ j, j < 16 * nx → F' 75 j = F 75 j) (h19 : ∀ s, s < 8 → F' 19 s = F 19 s) (h76 : ∀ s, s < 8 → F' 76 s = F 76 s) (h3 : F' 3 = F 3) (h4 : F' 4 = F 4) (h5 : F' 5 = F 5) (hns : ns ≤ 8) : iv_wd F' nt ns nx := by
  obtain ⟨w1, w2, w3, w4, w5, w6⟩ := H
  refine ⟨⟨h16, h22, w1.2.2⟩, fun x hx => by rw [h17 x hx, h73 x hx, h74 x hx]; exact w2 x hx, fun j hj => by rw [h18 j hj, h75 j hj]; exact w3 j hj, fun s hs => by rw [h19 s hs, h76 s hs]; exact w4 s hs, fun x hx t ht hk f hf hr hb => ?_, fun s hs hr => ?_⟩
  · rw [h17 x hx] at hk
    rw [h4] at hr
    rw [h3] at hb
    rw [h18 _ (by omega)]
    exact w5 x hx t ht hk f hf hr hb
  · rw [h5] at hr
    rw [h19 s (by omega)]
    exact w6 s hs hr
def mkB (F G : iv_F) : iv_F := fun x => if x ≤ 94 ∨ x = 1000 ∨ x = 1001 then F x else if 2095 ≤ x ∧ x ≤ 2102 then F (x - 2000) else G x
theorem mkB_c {F G : iv_F} {a : Nat} (h : a ≤ 94) : mkB F G a = F a := if_pos (Or.inl h)
theorem mkB_fr {F G : iv_F} (h1 : ∀ a, 55 ≤ a ∧ a ≤ 94 → rgN a = false → G a = F a) (h2 : ∀ j, rjN j = false → G 55 j = F 55 j) : rFr (mkB F G) F G := by
  refine ⟨fun a h _ => ?_, fun a h hn => ?_, fun j hj => (h2 j hj).trans (congrFun (mkB_c (by decide)).symm j)⟩
  · unfold rBi
    split
    · unfold mkB
      rw [if_neg (by omega), if_pos (by omega), show a + 2000 - 2000 = a by omega]
    · exact (if_pos (by omega)).symm
  · by_cases q : a ≤ 94
    · rw [mkB_c q]
      exact h1 a ⟨h.1, q⟩ hn
    · unfold mkB
      rw [if_neg (by omega), if_neg (by omega)]
theorem Ms_eq {s : pz_Sg} {G : iv_F} (h : ∀ a, 55 ≤ a ∧ a ≤ 102 → s.1 a = G a) : s = Ms s G := by
  refine Prod.ext (funext fun x => ?_) rfl
  show s.1 x = if x ≤ 54 ∨ 103 ≤ x then s.1 x else G x
  split
  · rfl
  · exact h x (by omega)
theorem nI_sb {a b : Nat} (h : b ≤ a) : nI a - nI b = nI (a - b) := by
  have e : nI a = nI (a - b) + nI b := by rw [nI_add, Nat.sub_add_cancel h]
  rw [e]
  exact Int32.add_sub_cancel _ _
