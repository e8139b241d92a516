/-! ===== both ===== -/
abbrev R92 (ma mb o : Nat) (r : Int32) (P : pz_Ps) (s : pz_Sg) : Prop := pz_WP 177 (92, [some (.ref 55), some (.int (nI ma)), some (.int (nI mb)), some (.int (nI o)), some (.int r), none], []) s P
def Kx (ma mb o : Nat) (P : pz_Ps) (s : pz_Sg) : Prop := ∃ Q : pz_Ps, pz_WP 167 (0, pz_en 4 [.ref 55, .ref 96], []) s Q ∧ ∀ σ5, Q none σ5 → (∃ Q : pz_Ps, pz_WP 168 (0, pz_en 4 [.ref 55, .ref 95], []) σ5 Q ∧ ∀ σ6, Q none σ6 → (∃ Q : pz_Ps, pz_WP 176 (0, pz_en 7 [.ref 55, .int (nI mb), .int (1 : Int32), .int (nI 3), .int (nI ma), .int (0 : Int32), .int (nI 2)], []) σ6 Q ∧ ∀ r7 σ7, Q (some (.int r7)) σ7 → R92 ma mb o r7 P σ7))
theorem qq_0 {σ T : pz_Sg} {P : pz_Ps} {ma mb nm nx : Nat} (d4 : σ.1 55 7 = nI nm) (b4 : nm ≤ 10) (ha : ma < nm) (hb : mb < nm) (e22 : σ.1 55 22 = nI nx) (h : tryM ma 0 0 (Ms T (fi σ.1 95 1290 (sv σ.1))) (R92 ma mb nx 0 P) (fun s => tryM mb 1 1 s (R92 ma mb nx 0 P) (Kx ma mb nx P))) : pz_WP 177 (0, pz_en 6 [.ref 55, .int (nI ma), .int (nI mb)], []) (Ms T σ.1) P := by
  have y1 := pz_byn (x := nI ma) d4 (by omega)
  have y2 := pz_byn (x := nI mb) d4 (by omega)
  have g1 : vp_in (nI ma) nm := vp_in_nI ha (by omega)
  have g2 : vp_in (nI mb) nm := vp_in_nI hb (by omega)
  refine pv_177 _ _ _ _ (pz_ki (w_beyond _ _ _ _) ⟨fun _ => ?_, fun y => absurd (pz_b_f fun q => (y1.mp q) g1) y⟩)
  refine pz_ki (w_beyond _ _ _ _) ⟨fun _ => ?_, fun y => absurd (pz_b_f fun q => (y2.mp q) g2) y⟩
  refine pz_kv w_save95 ?_
  rw [show (Ms T (fi σ.1 95 1290 (sv σ.1))).1 55 22 = nI nx by rw [Ms_r (by decide), fi_o (by decide)]; exact e22]
  refine pz_kQ (pv_176 _ _ _ _ _ _ _ _ ?_)
  refine tryM_m h (fun s hs r er => ?_) (fun s hs => tryM_m hs (fun s hs r er => ?_) (fun s hs r er => ?_))
  · cases er
    exact ⟨fun _ => hs, fun z => absurd rfl z⟩
  · cases er
    exact ⟨fun _ => hs, fun z => absurd rfl z⟩
  · cases er
    exact ⟨fun z => absurd z (by decide), fun _ => hs⟩
theorem qq_1 {T : pz_Sg} {G : iv_F} {P : pz_Ps} {ma mb nx : Nat} (h : tryM mb 1 3 (Ms T (rs (fi G 96 1290 (sv G)))) (R92 ma mb nx 0 P) (fun s => tryM ma 0 2 s (R92 ma mb nx 0 P) (R92 ma mb nx 1 P))) : Kx ma mb nx P (Ms T G) := by
  refine pz_kv w_save96 (pz_kv w_restM (pz_kQ (pv_176 _ _ _ _ _ _ _ _ ?_)))
  refine tryM_m h (fun s hs r er => ?_) (fun s hs => tryM_m hs (fun s hs r er => ?_) (fun s hs r er => ?_))
  · cases er
    exact hs
  · cases er
    exact hs
  · cases er
    exact hs
theorem qq_2 {T : pz_Sg} {G : iv_F} {P : pz_Ps} {ma mb nx : Nat} (h : P (some (.int (-(nI 4)))) (Ms T (rs G))) : R92 ma mb nx 0 P (Ms T G) :=
  pv_177_92 _ _ _ _ _ _ ⟨fun _ => pv_177_112 _ _ _ _ (pz_kv w_restM ⟨fun _ => h, fun z => absurd rfl z⟩), fun z => absurd rfl z⟩
theorem qq_3 {T : pz_Sg} {G G' : iv_F} {P : pz_Ps} {ma mb nx : Nat} {r : Int32} (h01 : r = 0 ∨ r = 1) (hW : ∀ P', P' (some (.int r)) (Ms T G') → W175 ma mb nx (Ms T G) P') (h : P (some (.int r)) (Ms T (rs G'))) : R92 ma mb nx 1 P (Ms T G) := by
  refine pv_177_92 _ _ _ _ _ _ ⟨fun z => absurd z (by decide), fun _ => pz_kQ (hW _ ?_)⟩
  intro r' er
  cases er
  rcases h01 with rfl | rfl
  · exact ⟨fun _ => pv_177_112 _ _ _ _ (pz_kv w_restM ⟨fun z => absurd z (by decide), fun _ => ⟨fun _ => h, fun z => absurd rfl z⟩⟩), fun z => absurd rfl z⟩
  · exact ⟨fun z => absurd z (by decide), fun _ => pv_177_112 _ _ _ _ (pz_kv w_restM ⟨fun z => absurd z (by decide), fun _ => ⟨fun z => absurd z (by decide), fun _ => h⟩⟩)⟩
theorem op_both (L : Nat) (ys : Nat → Int32) : pz_O22 (iv L ys) := by
  intro a0 a1 n hn σ H
  have H' := iv_up H
  obtain ⟨h0, nt, nf, ns, nm, nx, h1, h2, h3, h4, h5, h6⟩ := H
  obtain ⟨⟨⟨c1, d1, b1⟩, ⟨c2, d2, b2⟩, ⟨c3, d3, b3⟩, ⟨c4, d4, b4⟩⟩, p2, p3, p4, p5, p6, p7⟩ := id h1
  obtain ⟨pr, hpr, e16, e27, e20⟩ := id h3
  obtain ⟨⟨w1', w1'', wb⟩, -⟩ := id h2
  have y0 := pz_byn (x := a0) d4 (by omega)
  have y1 := pz_byn (x := a1) d4 (by omega)
  refine pv_105 _ _ σ _ (pz_ki (w_isMethod c4 (by omega) a0) ⟨fun z => ?_, fun z => ?_⟩)
  · have g := pz_b_0.mp z
    exact ⟨-1, rfl, ⟨rfl, rfl⟩, pv_177 _ _ _ _ (pz_ki (w_beyond _ _ _ _) ⟨fun y => absurd (y0.mpr g) (pz_b_0.mp y), fun _ => ⟨rfl, H'⟩⟩)⟩
  have g : vp_in a0 nm := Classical.not_not.mp fun q => z (pz_b_0.mpr q)
  clear z
  refine pz_ki (w_isMethod c4 (by omega) a1) ⟨fun z => ?_, fun z => ?_⟩
  · have g1 := pz_b_0.mp z
    exact ⟨-1, rfl, ⟨rfl, rfl⟩, pv_177 _ _ _ _ (pz_ki (w_beyond _ _ _ _) ⟨fun _ => pz_ki (w_beyond _ _ _ _) ⟨fun y => absurd (y1.mpr g1) (pz_b_0.mp y), fun _ => ⟨rfl, H'⟩⟩, fun y => absurd (pz_b_f fun q => (y0.mp q) g) y⟩)⟩
  have g1 : vp_in a1 nm := Classical.not_not.mp fun q => z (pz_b_0.mpr q)
  clear z
  obtain ⟨ma, hma, rfl⟩ := vp_in_of g (by omega)
  obtain ⟨mb, hmb, rfl⟩ := vp_in_of g1 (by omega)
  obtain ⟨F2, hC, o2, ⟨k0, k1⟩, k22, k23, k24, k25⟩ := w_cp21_16 (σ := σ) w1' wb e16 (by omega)
  refine pz_kv hC ?_
  have K2 : bK σ.1 nx pr F2 (fi σ.1 95 1290 (sv σ.1)) := ⟨fun a _ _ h _ => o2 a (by omega), fun a _ _ h95 _ _ => fi_o h95, fun j _ _ => by rw [fi_o (by decide)], ⟨⟨k0, k1⟩, k22, k23, k24, k25⟩, fun y hy => fi_i hy⟩
  have J2 : bJ σ.1 nx pr nt ns nx pr F2 (fi σ.1 95 1290 (sv σ.1)) := by
    refine ⟨K2, by rw [fi_o (by decide)], ?_, ⟨?_, ?_, fun k hk hkp => ?_, by omega⟩, Nat.le_refl _, fun x _ => by rw [o2 17 (by decide)]⟩
    · refine iv_wd_c (F := σ.1) (fun a ha j => ?_) ?_ ?_ h2
      · unfold iv_wdN at ha
        simp at ha
        by_cases q : a ≤ 54
        · rw [mx_c q, o2 a (by omega)]
        · rw [mx_g (by omega), fi_o (by omega)]
      · rw [mx_c (by decide), o2 16 (by decide)]
      · rw [mx_g (by decide), fi_o (by decide)]
    · rw [o2 16 (by decide)]; exact e16
    · rw [fi_o (by decide)]; exact e27
    · rw [o2 20 (by decide), fi_o (by decide)]; exact e20 k hk hkp
  -- the world runs full
  have hF : ∀ F G, bK σ.1 nx pr F G → (∀ T P, R92 ma mb nx 0 P (Ms T G) → pz_WP 177 (0, pz_en 6 [.ref 55, .int (nI ma), .int (nI mb)], []) (Ms T σ.1) P) → pz_WP 105 (137, [some (.ref 0), some (.int (nI ma)), some (.int (nI mb)), some (.int 0), none], []) (F, σ.2) (fun v σ1 => ∃ r, v = some (.int r) ∧ (σ1.1 1000 = σ.1 1000 ∧ σ1.1 1001 = σ.1 1001) ∧ pz_WP 177 (0, pz_en 6 (.ref 55 :: [.int (nI ma), .int (nI mb)]), []) σ1 (fun v' σ2 => v' = some (.int r) ∧ iv L ys (n + 1) σ2)) := fun F G K hr =>
    pv_105_137 _ _ _ _ _ ⟨fun _ => b_fin h0 h1 h2 hpr hn e27 e20 h4 h5 h6 K (fun T P h => hr T P (qq_2 h)), fun z => absurd rfl z⟩
  have hF72 : ∀ F G, bK σ.1 nx pr F G → (∀ T P, R92 ma mb nx 0 P (Ms T G) → pz_WP 177 (0, pz_en 6 [.ref 55, .int (nI ma), .int (nI mb)], []) (Ms T σ.1) P) → pz_WP 105 (72, [some (.ref 0), some (.int (nI ma)), some (.int (nI mb)), none, none], [.int 0]) (F, σ.2) (fun v σ1 => ∃ r, v = some (.int r) ∧ (σ1.1 1000 = σ.1 1000 ∧ σ1.1 1001 = σ.1 1001) ∧ pz_WP 177 (0, pz_en 6 (.ref 55 :: [.int (nI ma), .int (nI mb)]), []) σ1 (fun v' σ2 => v' = some (.int r) ∧ iv L ys (n + 1) σ2)) := fun F G K hr =>
    pv_105_72 _ _ _ _ _ ⟨fun _ => hF F G K hr, fun z => absurd rfl z⟩
  refine pz_kQ (w_try47 (w := 0) (at' := 0) (by decide) (by decide) h1 h4 hma J2 (by omega) ?_ ?_)
  rotate_left
  · intro F G K hW r er
    cases er
    exact ⟨fun _ => hF72 F G K (fun T P h => qq_0 d4 b4 hma hmb w1'' (hW T _ _ h)), fun z => absurd rfl z⟩
  intro F3 G3 n1 q1 fa1 J3 hq1 hn1 hfa1 ⟨ef3, eg3⟩ er3 z3 v3 oc3 oj3 og3 oh3 hW3 r er
  cases er
  refine ⟨fun z => absurd z (by decide), fun _ => ?_⟩
  refine pz_kQ (w_try47 (w := 1) (at' := 1) (by decide) (by decide) h1 h4 hmb J3 (by omega) ?_ ?_)
  rotate_left
  · intro F G K hW r er
    cases er
    exact ⟨fun _ => hF72 F G K (fun T P h => qq_0 d4 b4 hma hmb w1'' (hW3 T _ _ (hW T _ _ h))), fun z => absurd rfl z⟩
  intro F4 G4 n2 q2 fb1 J4 hq2 hn2 hfb1 ⟨ef4, eg4⟩ er4 z4 v4 oc4 oj4 og4 oh4 hW4 r er
  cases er
  refine ⟨fun z => absurd z (by decide), fun _ => ?_⟩
  refine pv_105_72 _ _ _ _ _ ⟨fun z => absurd z (by decide), fun _ => ?_⟩
  obtain ⟨k4, -, wd4, ⟨r16, r27, r20, -⟩, -, s17⟩ := id J4
  have c16 : F4 16 0 = nI n2 := wd4.1.1
  have c22 : G4 55 22 = nI n2 := wd4.1.2.1
  have b60 : n2 ≤ 60 := wd4.1.2.2
  obtain ⟨F5, hC5, o5, ⟨l0, l1⟩, l27, l28, l29, l30⟩ := w_cp26_16 (σ := (F4, σ.2)) c16 b60 r16 (by omega)
  refine pz_kv hC5 ?_
  have K5 : bK σ.1 nx pr F5 (fi G4 96 1290 (sv G4)) := bK_c k4 (fun a _ _ h _ => o5 a h) (fun a _ _ h _ => fi_o h) (fun j _ _ => by rw [fi_o (by decide)])
  obtain ⟨F6, hC6, o6, wd6, rp6, s6⟩ := b_rest (x2 := σ.2) K5 h2 e27 e20 (by omega) b3
  refine pz_kv hC6 ?_
  have K6 : bK σ.1 nx pr F6 (rs (fi G4 96 1290 (sv G4))) := bK_c K5 (fun a _ h _ _ => o6 a (fun q => by unfold rcN at h; simp at h; omega)) (fun a _ h _ _ => by unfold rgN at h; simp at h; exact rs_o (by omega) (by omega)) (fun j h _ => by unfold rjN at h; simp at h; exact rs_j (by omega) (by omega))
  have g6 : ∀ a, 96 ≤ a ∧ a ≤ 102 → rs (fi G4 96 1290 (sv G4)) a = fi G4 96 1290 (sv G4) a := fun a ha => rs_o (by omega) (by omega)
  have J6 : bJ σ.1 nx pr nt ns nx pr F6 (rs (fi G4 96 1290 (sv G4))) := ⟨K6, by rw [rs_j (by decide) (by decide), fi_o (by decide)]; exact J4.2.1, wd6, rp6, Nat.le_refl _, s6⟩
  have reach6 : ∀ T P, tryM mb 1 3 (Ms T (rs (fi G4 96 1290 (sv G4)))) (R92 ma mb nx 0 P) (fun s => tryM ma 0 2 s (R92 ma mb nx 0 P) (R92 ma mb nx 1 P)) → pz_WP 177 (0, pz_en 6 [.ref 55, .int (nI ma), .int (nI mb)], []) (Ms T σ.1) P := fun T P h => qq_0 d4 b4 hma hmb w1'' (hW3 T _ _ (hW4 T _ _ (qq_1 h)))
  refine pz_kQ (w_try48 (w := 1) (at' := 3) (by decide) (by decide) h1 h4 hmb J6 (by omega) ?_ ?_)
  rotate_left
  · intro F G K hW r er
    cases er
    exact ⟨fun _ => hF F G K (fun T P h => reach6 T P (hW T _ _ h)), fun z => absurd rfl z⟩
  intro F7 G7 n3 q3 fb2 J7 hq3 hn3 hfb2 ⟨ef7, eg7⟩ er7 z7 v7 oc7 oj7 og7 oh7 hW7 r er
  cases er
  refine ⟨fun z => absurd z (by decide), fun _ => ?_⟩
  refine pz_kQ (w_try48 (w := 0) (at' := 2) (by decide) (by decide) h1 h4 hma J7 (by omega) ?_ ?_)
  rotate_left
  · intro F G K hW r er
    cases er
    exact ⟨fun _ => hF F G K (fun T P h => reach6 T P (hW7 T _ _ (hW T _ _ h))), fun z => absurd rfl z⟩
  intro F8 G8 n4 q4 fa2 J8 hq4 hn4 hfa2 ⟨ef8, eg8⟩ er8 z8 v8 oc8 oj8 og8 oh8 hW8 r er
  cases er
  refine ⟨fun z => absurd z (by decide), fun _ => ?_⟩
  obtain ⟨k8, -, wd8, rp8, hnx8, s8⟩ := id J8
  have reach8 : ∀ T P, R92 ma mb nx 1 P (Ms T G8) → pz_WP 177 (0, pz_en 6 [.ref 55, .int (nI ma), .int (nI mb)], []) (Ms T σ.1) P := fun T P h => reach6 T P (hW7 T _ _ (hW8 T _ _ h))
  refine pv_105_137 _ _ _ _ _ ⟨fun z => absurd z (by decide), fun _ => ?_⟩
  rw [show ((F8, σ.2) : pz_Sg).1 21 0 = nI nx from k8.2.2.2.1.1.1]
  -- what the two ends tell
  have f8 : ∀ a, (a ≤ 102 ∨ a = 1000 ∨ a = 1001) → rcN a = false → a ≠ 48 → F8 a = F6 a := fun a h1 h2 h3 => (oc8 a h1 h2 h3).trans (oc7 a h1 h2 h3)
  have f85 : ∀ a, 26 ≤ a ∧ a ≤ 30 → F8 a = F5 a := fun a ha => by rw [f8 a (Or.inl (by omega)) (by unfold rcN; simp; omega) (by omega), o6 a (by omega)]
  have f847 : F8 47 = F4 47 := by rw [f8 47 (by decide) rfl (by decide), o6 47 (by decide)]; exact o5 47 (by decide)
  have g896 : G8 96 = fi G4 96 1290 (sv G4) 96 := by rw [og8 96 (by decide) (by decide), og7 96 (by decide) (by decide), g6 96 (by decide)]
  have gs : ∀ y, y < 1290 → G8 96 y = sv G4 y := fun y hy => by rw [g896, fi_i hy]
  have g4 : ∀ j, j ≠ 2 → j ≠ 3 → G8 98 j = G4 98 j ∧ G8 99 j = G4 99 j := fun j j2 j3 => by
    rw [(oh8 j j2).1, (oh8 j j2).2, (oh7 j j3).1, (oh7 j j3).2, g6 98 (by decide), g6 99 (by decide), fi_o (by decide), fi_o (by decide)]
    exact ⟨rfl, rfl⟩
  obtain ⟨x1, x2, x3, -, -⟩ := id k8
  have cS : ∀ a, a ≤ 15 ∨ (55 ≤ a ∧ a ≤ 94) → F8 a = σ.1 a := fun a ha => x1 a (Or.inl (by omega)) (by unfold rcN; simp; omega) (by omega) (by omega)
  have gS : ∀ a, 56 ≤ a ∧ a ≤ 72 → G8 a = σ.1 a := fun a ha => x2 a (by omega) (by unfold rgN; simp; omega) (by omega) (by omega) (by omega)
  have pS : ∀ a, iv_pgN a = true → ∀ j, F8 a j = σ.1 a j := fun a ha j => by
    unfold iv_pgN at ha
    simp at ha
    rw [cS a (by omega)]
  have m62 : ∀ m, m < nm → G8 62 m = F8 8 m := fun m hm => by
    rw [gS 62 (by decide), cS 8 (by decide)]
    exact (p5.1 m hm).2.2.1.1.symm
  have cS4 : ∀ a, a ≤ 15 → F4 a = σ.1 a := fun a ha => k4.1 a (Or.inl (by omega)) (by unfold rcN; simp; omega) (by omega) (by omega)
  have wdA : iv_wd (w1 F8 G8) nt ns n2 := by
    refine iv_wd_r wd4 ?_ ?_ (fun x hx => ?_) (fun x hx => ?_) (fun x hx => ?_) (fun j hj => ?_) (fun j hj => ?_) (fun s hs => ?_) (fun s hs => ?_) ?_ ?_ ?_ b3
    · show F8 26 0 = _
      rw [f85 26 (by decide)]
      exact l0
    · show G8 96 1288 = _
      rw [gs _ (by decide), sv_5]
      exact c22
    · show F8 27 x = _
      rw [f85 27 (by decide), mx_c (by decide)]
      exact l27 x hx
    · show G8 96 (2 * x) = _
      rw [gs _ (by omega), sv_0 (by omega), mx_g (by decide)]
    · show G8 96 (2 * x + 1) = _
      rw [gs _ (by omega), sv_1 (by omega), mx_g (by decide)]
    · show F8 28 j = _
      rw [f85 28 (by decide), mx_c (by decide)]
      exact l28 j hj
    · show G8 96 (120 + j) = _
      rw [gs _ (by omega), sv_2 (by omega), mx_g (by decide)]
    · show F8 29 s = _
      rw [f85 29 (by decide), mx_c (by decide)]
      exact l29 s hs
    · show G8 96 (1080 + s) = _
      rw [gs _ (by omega), sv_3 (by omega), mx_g (by decide)]
    · show F8 3 = _
      rw [mx_c (by decide), cS 3 (by decide), cS4 3 (by decide)]
    · show F8 4 = _
      rw [mx_c (by decide), cS 4 (by decide), cS4 4 (by decide)]
    · show F8 5 = _
      rw [mx_c (by decide), cS 5 (by decide), cS4 5 (by decide)]
  have D : lD nt nf ns n2 n4 nx q2 q4 ma mb F8 G8 := by
    refine ⟨⟨⟨b1, b2, b3⟩, b60, wd8.1.2.2, by omega, hnx8⟩, ⟨?_, ?_, ?_, ?_⟩, ⟨iv_ty_c pS p2, iv_fl_c pS p3, iv_rf_c pS p4⟩, ⟨?_, ?_, ?_, ?_⟩, ⟨by omega, by omega, m62 ma hma, m62 mb hmb⟩, ⟨wdA, wd8⟩, fun x hx => ?_, ⟨?_, ?_, rp8.1, rp8.2.1, ⟨by omega, rp8.2.2.2⟩, fun k hk hkp => ?_, rp8.2.2.1⟩, ?_, ?_⟩
    · rw [cS 1 (by decide)]; exact c2
    · rw [cS 1 (by decide)]; exact c3
    · rw [x3 2 rfl (by decide)]; exact d2
    · rw [x3 5 rfl (by decide)]; exact d3
    · rw [cS 56 (by decide), gS 56 (by decide)]
    · rw [cS 57 (by decide), gS 57 (by decide)]
    · rw [cS 58 (by decide), gS 58 (by decide)]
    · rw [cS 59 (by decide), gS 59 (by decide)]
    · rw [s8 x hx, f85 27 (by decide), l27 x (by omega)]
      exact s17 x hx
    · rw [f85 26 (by decide)]; exact l1
    · rw [gs _ (by decide), sv_6]; exact r27
    · rw [f85 30 (by decide), gs _ (by omega), sv_4 hk, l30 k hk hkp]
      exact r20 k hk hkp
    · have e0 : F8 47 (2 * 0) = F3 47 (2 * 0) := by rw [f847]; exact oj4 _ (by decide) (by decide)
      have e1 : F8 47 (2 * 0 + 1) = F3 47 (2 * 0 + 1) := by rw [f847]; exact oj4 _ (by decide) (by decide)
      have g0 : G8 98 0 = G3 98 0 := by rw [(g4 0 (by decide) (by decide)).1, (oh4 0 (by decide)).1]
      have g1 : G8 99 0 = G3 99 0 := by rw [(g4 0 (by decide) (by decide)).2, (oh4 0 (by decide)).2]
      refine ⟨fa1, fa2, ⟨hfa1, hfa2⟩, ⟨e0.trans ef3, g0.trans eg3⟩, ⟨ef8, eg8⟩, ⟨?_, er8⟩, ⟨?_, z8⟩, fun q0 q8 => ?_, fun q0 q8 => v8 q0 (by rw [← cS 8 (by decide)]; exact q8)⟩
      · rw [e1, g1]; exact er3
      · rw [e1]; exact z3
      · rw [e1]; exact iv_rv_le (v3 q0 (by rw [← cS 8 (by decide)]; exact q8)) hn2
    · have e0 : F8 47 (2 * 1) = F4 47 (2 * 1) := by rw [f847]
      have e1 : F8 47 (2 * 1 + 1) = F4 47 (2 * 1 + 1) := by rw [f847]
      have e2 : F8 48 (2 * 1) = F7 48 (2 * 1) := oj8 _ (by decide) (by decide)
      have e3 : F8 48 (2 * 1 + 1) = F7 48 (2 * 1 + 1) := oj8 _ (by decide) (by decide)
      have g0 : G8 98 1 = G4 98 1 := (g4 1 (by decide) (by decide)).1
      have g1 : G8 99 1 = G4 99 1 := (g4 1 (by decide) (by decide)).2
      have g2 : G8 98 (2 + 1) = G7 98 3 := (oh8 3 (by decide)).1
      have g3 : G8 99 (2 + 1) = G7 99 3 := (oh8 3 (by decide)).2
      refine ⟨fb1, fb2, ⟨hfb1, hfb2⟩, ⟨e0.trans ef4, g0.trans eg4⟩, ⟨e2.trans ef7, g2.trans eg7⟩, ⟨?_, ?_⟩, ⟨?_, ?_⟩, fun q0 q8 => ?_, fun q0 q8 => ?_⟩
      · rw [e1, g1]; exact er4
      · rw [e3, g3]; exact er7
      · rw [e1]; exact z4
      · rw [e3]; exact z7
      · rw [e1]; exact v4 q0 (by rw [← cS 8 (by decide)]; exact q8)
      · rw [e3]; exact iv_rv_le (v7 q0 (by rw [← cS 8 (by decide)]; exact q8)) hn4
  refine ⟨_, w_like (x2 := σ.2) D, ?_⟩
  rintro r ⟨F9, t2⟩ ⟨r', er, h01, et2, lf9, G9, lg9, hW9⟩
  cases er
  have et2 : t2 = σ.2 := et2
  subst et2
  have K9 : bK σ.1 nx pr F9 G9 := bK_c k8 (fun a _ _ _ h => lf9 a (by omega) (by omega)) (fun a h h' _ h98 => lg9.1 a (fun q => by rw [q] at h'; cases h') (by omega)) (fun j _ h => lg9.2 j h)
  have fin := fun r (hr : r = 0 ∨ r = 1) (hW : ∀ T P, P (some (.int r)) (Ms T G9) → W175 ma mb nx (Ms T G8) P) => b_fin (a0 := nI ma) (a1 := nI mb) (r := r) h0 h1 h2 hpr hn e27 e20 h4 h5 h6 K9 (fun T P h => reach8 T P (qq_3 hr (hW T) h))
  rcases h01 with rfl | rfl
  · exact ⟨fun _ => fin 0 (Or.inl rfl) hW9, fun z => absurd rfl z⟩
  · exact ⟨fun z => absurd z (by decide), fun _ => fin 1 (Or.inr rfl) hW9⟩
