/-! ===== the reference's analysis: its steps, walked ===== -/
theorem qz_id {σ : pz_Sg} {a j : Nat} {v : Int32} (h : σ.1 a j = v) : pz_up σ a j v = σ := by
  refine Prod.ext (funext fun x => funext fun y => ?_) rfl
  rw [qz_rd]
  split
  · rename_i e
    rw [e.1, e.2, h]
  · rfl
theorem qz_cm {σ : pz_Sg} {a b i j : Nat} {v w : Int32} (h : a ≠ b) : pz_up (pz_up σ a i v) b j w = pz_up (pz_up σ b j w) a i v := by
  refine Prod.ext (funext fun x => funext fun y => ?_) rfl
  simp only [qz_rd]
  by_cases h1 : x = a ∧ y = i
  · rw [if_neg (fun z => h (h1.1.symm.trans z.1)), if_pos h1, if_pos h1]
  · rw [if_neg h1, if_neg h1]
theorem g_add {σ : pz_Sg} {a j : Nat} {v s0 : Int32} (ha : a ≠ 55) (hs : (σ.1 a j ||| v = σ.1 a j ∧ s0 = σ.1 55 39) ∨ (¬ σ.1 a j ||| v = σ.1 a j ∧ s0 = 1)) : pz_up (pz_up σ 55 39 s0) a j (σ.1 a j ||| v) = fadd 55 39 σ a j v := by
  rcases hs with ⟨h1, h2⟩ | ⟨h1, h2⟩
  · rw [fadd_y h1, h1, h2, qz_id (σ := σ) (a := 55) rfl, qz_id rfl]
  · rw [fadd_n h1, h2, qz_cm (Ne.symm ha)]
theorem w_co {N : Nat → Int32} {j : Nat} (hj : j < 250) : ∀ d r s, r + d = 8 → (s.1 55 39 = 0 ∨ s.1 55 39 = 1) → s.1 88 = N → pz_WP 133 (50, [some (.ref 55), none, none, some (.int (nI j)), some (.int (nI r)), none], []) s (pz_is none (gco j N d r s)) := by
  intro d
  induction d with
  | zero =>
    intro r s hr _ _
    have hr : r = 8 := by omega
    subst hr
    exact pv_133_50 _ _ s _ ⟨fun _ => ⟨rfl, rfl⟩, fun z => absurd (by decide) z⟩
  | succ d ih =>
    intro r s hr hf hN
    have ix : nI 8 * nI j + nI r = nI (8 * j + r) := by rw [pk_mul, nI_add]
    have cx : (nI (8 * j + r)).toNatClampNeg = 8 * j + r := nI_clamp (by omega)
    have vx : vp_in (nI (8 * j + r)) 2000 := vp_in_nI (by omega) (by decide)
    have fin : ∀ s0 : Int32, (s0 = 0 ∨ s0 = 1) → ((s.1 80 (8 * j + r) ||| N r = s.1 80 (8 * j + r) ∧ s0 = s.1 55 39) ∨ (¬ s.1 80 (8 * j + r) ||| N r = s.1 80 (8 * j + r) ∧ s0 = 1)) → pz_WP 133 (109, [some (.ref 55), none, none, some (.int (nI j)), some (.int (nI r)), some (.int (s.1 80 (8 * j + r) ||| N r))], [.int s0, .ref 55]) s (pz_is none (gco j N (d + 1) r s)) := by
      intro s0 h01 h
      refine pv_133_109 _ _ _ _ s _ ⟨h01, ?_⟩
      rintro σ1 rfl
      rw [ix, cx]
      refine ⟨vx, ?_⟩
      rintro σ2 rfl
      rw [g_add (by decide) h, nI_1]
      exact ih (r + 1) _ (by omega) (fadd_fl (by decide) hf) (by rw [fadd_o (by decide) (by decide)]; exact hN)
    refine pv_133_50 _ _ s _ ⟨fun z => absurd z (nI_ge (by omega) (by decide)), fun _ => ?_⟩
    rw [ix, cx, nI_clamp (by omega), hN]
    refine ⟨vx, vp_in_nI (by omega) (by decide), fun z => ⟨vx, fun y => fin 0 (Or.inl rfl) (Or.inl ⟨y, z.symm⟩), fun y => fin 1 (Or.inr rfl) (Or.inr ⟨y, rfl⟩)⟩, fun z => fin 1 (Or.inr rfl) ?_⟩
    by_cases y : s.1 80 (8 * j + r) ||| N r = s.1 80 (8 * j + r)
    · exact Or.inl ⟨y, (hf.resolve_left z).symm⟩
    · exact Or.inr ⟨y, rfl⟩
/-- lines, as the reference has them -/
def gP (F : iv_F) (nt nf ns nm : Nat) : Prop := fP F nt nf ns nm ∧ F 55 7 = nI nm
theorem gP_63 {F : iv_F} {nt nf ns nm : Nat} (h : fP F nt nf ns nm) {m : Nat} (hm : m < nm) : ∃ y, y ≤ 24 ∧ F 63 m = nI y ∧ (F 9 m).toNatClampNeg = y := by
  obtain ⟨-, -, -, ⟨e, y, hy, e2⟩, -⟩ := h.2.1.1 m hm
  exact ⟨y, hy, e.symm.trans e2, by rw [e2]; exact nI_clamp (by omega)⟩
theorem w_comes {F : iv_F} {nt nf ns nm n0 : Nat} {X : fX} (hP : fP F nt nf ns nm) {σ : pz_Sg} (H : gI F n0 X σ) {m l : Nat} (hm : m < nm) (hl : l < 100) : pz_WP 133 (0, pz_en 6 [.ref 55, .int (nI m), .int (nI l)], []) σ (pz_is none (gcomes F σ m l (σ.1 88))) := by
  have bm := hP.1.2.2.2
  obtain ⟨y, hy, e63, ey⟩ := gP_63 hP hm
  have vm : vp_in (nI m) 10 := vp_in_nI (by omega) (by decide)
  have s63 : σ.1 63 = F 63 := H.1.1 63 rfl
  have go : ∀ x, x = gms F m l → x ≤ y → pz_WP 133 (24, [some (.ref 55), none, none, none, none, none], [.int (nI x), .int (nI 25 * nI m)]) σ (pz_is none (gcomes F σ m l (σ.1 88))) := by
    intro x hx hxy
    have ix : nI 25 * nI m + nI x = nI (25 * m + x) := by rw [pk_mul, nI_add]
    have cx : (nI (25 * m + x)).toNatClampNeg = 25 * m + x := nI_clamp (by omega)
    have vx : vp_in (nI (25 * m + x)) 250 := vp_in_nI (by omega) (by decide)
    have b01 := H.2.2.2.1 (25 * m + x) (by omega)
    unfold gcomes
    rw [← hx]
    refine pv_133_24 _ _ σ _ ?_
    rw [ix, cx]
    refine ⟨vx, fun z => ⟨vx, ?_⟩, fun z => ?_⟩
    · rintro σ1 rfl σ2 rfl
      have e : pz_up (pz_up σ 81 (25 * m + x) 1) 55 39 1 = fadd 55 39 σ 81 (25 * m + x) 1 := by
        rw [fadd_n (by rw [z]; decide), z]
        rfl
      rw [e]
      exact w_co (by omega) 8 0 _ (by decide) (fadd_fl (by decide) H.2.2.2.2.2) (fadd_o (by decide) (by decide))
    · have e : fadd 55 39 σ 81 (25 * m + x) 1 = σ := fadd_y (by rw [b01.resolve_left z]; decide)
      rw [e]
      exact w_co (by omega) 8 0 _ (by decide) H.2.2.2.2.2 rfl
  refine pv_133 _ _ σ _ ?_
  rw [nI_clamp (by omega), s63, e63]
  refine ⟨vm, fun z => ⟨vm, go y ?_ (Nat.le_refl _)⟩, fun z => go l ?_ ?_⟩
  · have : ¬ l < y := Nat.not_lt.mpr ((nI_leI (by omega) (by omega)).mp z)
    unfold gms
    rw [ey, if_neg this]
  · have : l < y := Nat.not_le.mp fun q => z (nI_le q (by omega))
    unfold gms
    rw [ey, if_pos this]
  · have : l < y := Nat.not_le.mp fun q => z (nI_le q (by omega))
    omega
theorem w_catchM {F : iv_F} {nt nf ns nm : Nat} (hP : fP F nt nf ns nm) {σ : pz_Sg} (h68 : σ.1 68 = F 68) (h69 : σ.1 69 = F 69) (h70 : σ.1 70 = F 70) (h71 : σ.1 71 = F 71) (h72 : σ.1 72 = F 72) (h63 : σ.1 63 = F 63) {m l f : Nat} (hm : m < nm) : pz_WP 121 (0, pz_en 5 [.ref 55, .int (nI m), .int (nI l), .int (nI f)], []) σ (pz_is (some (.int (if fk F m l f = 0 then -1 else nI (gms F m (fk F m l f - 1))))) σ) := by
  have bm := hP.1.2.2.2
  have hc := hP.2.2.2
  obtain ⟨y, hy, e63, ey⟩ := gP_63 hP hm
  obtain ⟨-, -, -, -, ⟨e14, cn, bc, e2⟩⟩ := hP.2.1.1 m hm
  have e68 : F 68 m = nI cn := e14.symm.trans e2
  have ec : (F 14 m).toNatClampNeg = cn := by rw [e2]; exact nI_clamp (by omega)
  have cm : (nI m).toNatClampNeg = m := nI_clamp (by omega)
  have vm : vp_in (nI m) 10 := vp_in_nI (by omega) (by decide)
  have i4 : nI 4 * nI m = nI (4 * m) := pk_mul _ _
  have go : ∀ d k, k + d = cn → pz_WP 121 (5, [some (.ref 55), some (.int (nI m)), some (.int (nI l)), some (.int (nI f)), some (.int (nI (4 * m + k)))], []) σ (pz_is (some (.int (if fk_go F m l f d k = 0 then -1 else nI (gms F m (fk_go F m l f d k - 1))))) σ) := by
    intro d
    induction d with
    | zero =>
      intro k hk
      have hk : k = cn := by omega
      subst hk
      refine pv_121_5 _ _ _ _ σ _ ?_
      rw [cm, h68, e68, i4, nI_add]
      exact ⟨vm, fun _ => ⟨rfl, rfl⟩, fun z => absurd (Int32.le_refl _) z⟩
    | succ d ih =>
      intro k hk
      have kc : k < cn := by omega
      obtain ⟨-, v0, v1, v2, v3⟩ := hc m hm k (by rw [ec]; exact kc)
      have next := ih (k + 1) (by omega)
      have v4 : vp_in (nI (4 * m + k)) 40 := vp_in_nI (by omega) (by decide)
      have no : ¬ fk_is F m l f k → pz_WP 121 (5, [some (.ref 55), some (.int (nI m)), some (.int (nI l)), some (.int (nI f)), some (.int (nI (4 * m + (k + 1))))], []) σ (pz_is (some (.int (if fk_go F m l f (d + 1) k = 0 then -1 else nI (gms F m (fk_go F m l f (d + 1) k - 1))))) σ) := fun z => by
        rw [show fk_go F m l f (d + 1) k = fk_go F m l f d (k + 1) from if_neg z]
        exact next
      have yes : fk_is F m l f k → pz_WP 121 (63, [some (.ref 55), some (.int (nI m)), none, none, some (.int (nI (4 * m + k)))], []) σ (pz_is (some (.int (if fk_go F m l f (d + 1) k = 0 then -1 else nI (gms F m (fk_go F m l f (d + 1) k - 1))))) σ) := fun z => by
        rw [show fk_go F m l f (d + 1) k = (F 72 (4 * m + k)).toNatClampNeg + 1 from if_pos z, if_neg (Nat.succ_ne_zero _), Nat.add_sub_cancel]
        obtain ⟨b1, b2⟩ := vp_N v3 (by decide)
        refine pv_121_63 _ _ σ _ ?_
        rw [cm, nI_clamp (show 4 * m + k < 2 ^ 31 by omega), h63, h72, e63, b2, nI_clamp (show (F 72 (4 * m + k)).toNatClampNeg < 2 ^ 31 by omega)]
        refine ⟨v4, vm, fun q => ⟨vm, pz_ans ?_ rfl⟩, fun q => ⟨v4, pz_ans ?_ rfl⟩⟩
        · have : ¬ (F 72 (4 * m + k)).toNatClampNeg < y := Nat.not_lt.mpr ((nI_leI (by omega) (by omega)).mp q)
          unfold gms
          rw [ey, if_neg this]
        · have : (F 72 (4 * m + k)).toNatClampNeg < y := Nat.not_le.mp fun u => q (nI_le u (by omega))
          unfold gms
          rw [ey, if_pos this]
      refine pv_121_5 _ _ _ _ σ _ ?_
      rw [cm, h68, e68, i4, nI_add, nI_clamp (show 4 * m + k < 2 ^ 31 by omega), h69, h70, h71, nI_1, Nat.add_assoc]
      exact ⟨vm, fun z => absurd z (nI_ge (by omega) (by omega)), fun _ => ⟨v4, fun z => no (fun q => q.1.1 z), fun z => ⟨v4, fun z2 => no (fun q => q.1.2 z2), fun z2 => ⟨v4, fun z3 => yes ⟨⟨z, z2⟩, Or.inl z3⟩, fun z3 => ⟨v4, fun z4 => yes ⟨⟨z, z2⟩, Or.inr z4⟩, fun z4 => no (fun q => q.2.elim z3 z4)⟩⟩⟩⟩⟩
  refine pv_121 _ _ _ σ _ ?_
  unfold fk
  rw [ec, i4]
  exact go cn 0 (by omega)
theorem gms_i {F : iv_F} {m l : Nat} : gms F m (gms F m l) = gms F m l := by
  unfold gms
  by_cases h : l < (F 9 m).toNatClampNeg
  · rw [if_pos h, if_pos h]
  · rw [if_neg h, if_neg (Nat.lt_irrefl _)]
theorem gms_le {F : iv_F} {m l : Nat} : gms F m l ≤ (F 9 m).toNatClampNeg := by
  unfold gms
  split <;> omega
theorem w_faults {F : iv_F} {nt nf ns nm : Nat} {X : fX} (hP : fP F nt nf ns nm) {σ : pz_Sg} (H : gI F nm X σ) {m l f : Nat} (hm : m < nm) (hf : f < 32) : pz_WP 134 (0, pz_en 5 [.ref 55, .int (nI m), .int (nI l), .int (nI f)], []) σ (pz_is none (gthr F σ m l f (σ.1 88))) := by
  have bm := hP.1.2.2.2
  have vm : vp_in (nI m) 10 := vp_in_nI (by omega) (by decide)
  have cm : (nI m).toNatClampNeg = m := nI_clamp (by omega)
  have bl := fP_L' hP m hm
  refine pv_134 _ _ _ σ _ (pz_ki (w_catchM hP (H.1.1 68 rfl) (H.1.1 69 rfl) (H.1.1 70 rfl) (H.1.1 71 rfl) (H.1.1 72 rfl) (H.1.1 63 rfl) hm) ?_)
  unfold gthr
  rw [cm]
  by_cases h : fk F m l f = 0
  · rw [if_pos h, if_pos h]
    refine ⟨fun _ => ⟨vm, fun z => ⟨vm, vm, ?_⟩, fun z => ⟨rfl, ?_⟩⟩, fun z => absurd (by decide) z⟩
    · rintro σ2 rfl σ3 rfl
      refine ⟨rfl, (fadd_n ?_).symm⟩
      intro e
      have := b_sub.mp e f hf (by rw [b_bit hf]; simp)
      rw [(b_no hf).mp z] at this
      cases this
    · refine (fadd_y (b_sub.mpr fun i hi y => ?_)).symm
      rw [b_bit hf] at y
      have e : i = f := by simpa using y
      subst e
      cases u : bt (σ.1 84 m) i
      · exact absurd ((b_no hf).mpr u) z
      · rfl
  · rw [if_neg h, if_neg h]
    have gl := gms_le (F := F) (m := m) (l := fk F m l f - 1)
    refine ⟨fun z => absurd z (nI_pos (by omega)), fun _ => pz_kv (w_comes hP H hm (by omega)) ⟨rfl, ?_⟩⟩
    unfold gcomes
    rw [gms_i]
theorem w_touchM {σ : pz_Sg} {m : Nat} (hm : m < 10) (hf : σ.1 55 39 = 0 ∨ σ.1 55 39 = 1) {a : Nat} {wr : Int32} (hw : (wr = 0 ∧ a = 86) ∨ (wr = 1 ∧ a = 87)) (pl is : Int32) : pz_WP 135 (0, pz_en 8 [.ref 55, .int (nI m), .int wr, .int pl, .int is], []) σ (pz_is none (gtouch a σ m is pl)) := by
  have tk : ∀ k, k < 4 → ((is >>> ((nI k + nI 2) &&& 31)) &&& 1 = 1 ↔ bt is (k + 2) = true) := fun k hk => by
    rw [nI_add]
    exact b_is (by omega)
  have a55 : a ≠ 55 := by omega
  have st : ∀ (k : Nat) (s : pz_Sg) {P : pz_Ps}, k < 4 → (s.1 55 39 = 0 ∨ s.1 55 39 = 1) → pz_WP 135 (3, [some (.ref 55), some (.int (nI m)), some (.int wr), some (.int pl), some (.int is), some (.int (nI (k + 1))), none, none], []) (gth a s m is pl k) P → pz_WP 135 (3, [some (.ref 55), some (.int (nI m)), some (.int wr), some (.int pl), some (.int is), some (.int (nI k)), none, none], []) s P := by
    intro k s P hk hfs h
    have ix : nI 4 * nI m + nI k = nI (4 * m + k) := by rw [pk_mul, nI_add]
    have cx : (nI (4 * m + k)).toNatClampNeg = 4 * m + k := nI_clamp (by omega)
    have vx : vp_in (nI (4 * m + k)) 40 := vp_in_nI (by omega) (by decide)
    refine pv_135_3 _ _ _ _ _ s _ ⟨fun z => absurd z (nI_ge hk (by decide)), fun _ => ⟨fun z => ?_, fun z => ?_⟩⟩
    · have e : gth a s m is pl k = fadd 55 39 s a (4 * m + k) pl := if_pos ((tk k hk).mp z)
      rw [e] at h
      have f75 : ∀ s0 : Int32, (s0 = 0 ∨ s0 = 1) → ((s.1 a (4 * m + k) ||| pl = s.1 a (4 * m + k) ∧ s0 = s.1 55 39) ∨ (¬ s.1 a (4 * m + k) ||| pl = s.1 a (4 * m + k) ∧ s0 = 1)) → pz_WP 135 (75, [some (.ref 55), some (.int (nI m)), some (.int wr), some (.int pl), some (.int is), some (.int (nI k)), some (.int (nI (4 * m + k))), some (.int (s.1 a (4 * m + k)))], [.int s0, .ref 55]) s P := by
        intro s0 h01 hh
        refine pv_135_75 _ _ _ _ _ _ _ _ s _ ⟨h01, ?_⟩
        rintro σ1 rfl
        rw [cx, nI_1]
        rcases hw with ⟨h1, h2⟩ | ⟨h1, h2⟩
        · subst h2
          refine ⟨fun _ => ⟨vx, ?_⟩, fun y => absurd h1 y⟩
          rintro σ2 rfl
          rw [g_add a55 hh]
          exact h
        · subst h2
          refine ⟨fun y => absurd (h1.symm.trans y) (by decide), fun _ => ⟨vx, ?_⟩⟩
          rintro σ2 rfl
          rw [g_add a55 hh]
          exact h
      have f51 : pz_WP 135 (51, [some (.ref 55), some (.int (nI m)), some (.int wr), some (.int pl), some (.int is), some (.int (nI k)), some (.int (nI (4 * m + k))), none], [.int (s.1 a (4 * m + k))]) s P := by
        refine pv_135_51 _ _ _ _ _ _ _ s _ ⟨fun z => ⟨fun y => f75 0 (Or.inl rfl) (Or.inl ⟨y, z.symm⟩), fun y => f75 1 (Or.inr rfl) (Or.inr ⟨y, rfl⟩)⟩, fun z => f75 1 (Or.inr rfl) ?_⟩
        by_cases y : s.1 a (4 * m + k) ||| pl = s.1 a (4 * m + k)
        · exact Or.inl ⟨y, (hfs.resolve_left z).symm⟩
        · exact Or.inr ⟨y, rfl⟩
      rw [ix, cx]
      rcases hw with ⟨h1, h2⟩ | ⟨h1, h2⟩
      · subst h2
        exact ⟨fun _ => ⟨vx, f51⟩, fun y => absurd h1 y⟩
      · subst h2
        exact ⟨fun y => absurd (h1.symm.trans y) (by decide), fun _ => ⟨vx, f51⟩⟩
    · have e : gth a s m is pl k = s := if_neg (fun y => z ((tk k hk).mpr y))
      rw [e] at h
      rw [nI_1]
      exact h
  have fl : ∀ (s : pz_Sg) (k : Nat), (s.1 55 39 = 0 ∨ s.1 55 39 = 1) → ((gth a s m is pl k).1 55 39 = 0 ∨ (gth a s m is pl k).1 55 39 = 1) := fun s k h => by
    unfold gth
    split
    · exact fadd_fl a55 h
    · exact h
  exact pv_135 _ _ _ _ σ _ (st 0 _ (by decide) hf (st 1 _ (by decide) (fl _ _ hf) (st 2 _ (by decide) (fl _ _ (fl _ _ hf)) (st 3 _ (by decide) (fl _ _ (fl _ _ (fl _ _ hf))) (pv_135_3 _ _ _ _ _ _ _ ⟨fun _ => ⟨rfl, rfl⟩, fun z => absurd (by decide) z⟩)))))
theorem w_printM {σ : pz_Sg} {m : Nat} (hm : m < 10) (hf : σ.1 55 39 = 0 ∨ σ.1 55 39 = 1) (h : σ.1 83 m = 0 ∨ σ.1 83 m = 1) : pz_WP 136 (0, pz_en 2 [.ref 55, .int (nI m)], []) σ (pz_is none (fadd 55 39 σ 83 m 1)) := by
  have vm : vp_in (nI m) 10 := vp_in_nI hm (by decide)
  have e1 : σ.1 83 m ||| 1 = 1 := by rcases h with t | t <;> rw [t] <;> decide
  have g : ∀ s0 : Int32, ((σ.1 83 m ||| 1 = σ.1 83 m ∧ s0 = σ.1 55 39) ∨ (¬ σ.1 83 m ||| 1 = σ.1 83 m ∧ s0 = 1)) → pz_up (pz_up σ 55 39 s0) 83 m 1 = fadd 55 39 σ 83 m 1 := fun s0 hs => by
    have := g_add (by decide) hs
    rw [e1] at this
    exact this
  refine pv_136 _ σ _ ?_
  rw [nI_clamp (by omega)]
  refine ⟨fun z => ⟨vm, fun y => ?_, fun y => ?_⟩, fun z => ?_⟩
  · rintro σ5 rfl
    refine ⟨vm, ?_⟩
    rintro σ6 rfl
    exact ⟨rfl, g 1 (Or.inr ⟨by rw [y]; decide, rfl⟩)⟩
  · rintro σ5 rfl
    refine ⟨vm, ?_⟩
    rintro σ6 rfl
    exact ⟨rfl, g 0 (Or.inl ⟨by rw [h.resolve_left y]; decide, z.symm⟩)⟩
  · rintro σ5 rfl
    refine ⟨vm, ?_⟩
    rintro σ6 rfl
    refine ⟨rfl, g 1 ?_⟩
    rcases h with t | t
    · exact Or.inr ⟨by rw [t]; decide, rfl⟩
    · exact Or.inl ⟨by rw [t]; decide, (hf.resolve_left z).symm⟩
theorem w_endM {σ : pz_Sg} {m : Nat} (hm : m < 10) (hf : σ.1 55 39 = 0 ∨ σ.1 55 39 = 1) (h : σ.1 82 m = 0 ∨ σ.1 82 m = 1) (x : Int32) : pz_WP 137 (0, pz_en 3 [.ref 55, .int (nI m), .int x], []) σ (pz_is none (gend σ m x)) := by
  have vm : vp_in (nI m) 10 := vp_in_nI hm (by decide)
  have cm : (nI m).toNatClampNeg = m := nI_clamp (by omega)
  have e1 : σ.1 82 m ||| 1 = 1 := by rcases h with t | t <;> rw [t] <;> decide
  have fin : ∀ s0 : Int32, (s0 = 0 ∨ s0 = 1) → ((σ.1 82 m = 1 ∧ σ.1 85 m ||| x = σ.1 85 m ∧ s0 = σ.1 55 39) ∨ ((σ.1 82 m = 0 ∨ ¬ σ.1 85 m ||| x = σ.1 85 m) ∧ s0 = 1)) → pz_WP 137 (39, [some (.ref 55), some (.int (nI m)), some (.int x)], [.int s0, .ref 55]) σ (pz_is none (gend σ m x)) := by
    intro s0 h01 hs
    refine pv_137_39 _ _ _ σ _ ⟨h01, ?_⟩
    rintro σ1 rfl
    rw [cm]
    refine ⟨vm, ?_⟩
    rintro σ2 rfl
    refine ⟨vm, vm, ?_⟩
    rintro σ3 rfl
    refine ⟨rfl, ?_⟩
    rw [show (pz_up (pz_up σ 55 39 s0) 82 m 1).1 85 m = σ.1 85 m from rfl]
    unfold gend
    rcases hs with ⟨k1, k2, k3⟩ | ⟨k1, k3⟩
    · have a1 : fadd 55 39 σ 82 m 1 = σ := fadd_y (by rw [k1]; decide)
      rw [a1, fadd_y k2, k2, k3, qz_id (σ := σ) (a := 55) rfl, qz_id (σ := σ) (a := 82) k1, qz_id rfl]
    · subst k3
      by_cases k2 : σ.1 82 m = 0
      · have a1 : fadd 55 39 σ 82 m 1 = pz_up (pz_up σ 82 m 1) 55 39 1 := by
          rw [fadd_n (by rw [k2]; decide), k2]
          rfl
        rw [a1, qz_cm (σ := σ) (a := 55) (b := 82) (by decide)]
        have a2 : (pz_up (pz_up σ 82 m 1) 55 39 1).1 85 m = σ.1 85 m := rfl
        by_cases k4 : σ.1 85 m ||| x = σ.1 85 m
        · rw [fadd_y (by rw [a2]; exact k4), k4, qz_id a2]
        · rw [fadd_n (by rw [a2]; exact k4), a2, qz_cm (σ := pz_up σ 82 m 1) (a := 55) (b := 85) (by decide)]
          rw [qz_id (σ := pz_up (pz_up (pz_up σ 82 m 1) 85 m (σ.1 85 m ||| x)) 55 39 1) (a := 55) (j := 39) (v := 1) (qz_rs _ _ _ _)]
      · have k5 : σ.1 82 m = 1 := h.resolve_left k2
        have k4 := k1.resolve_left k2
        have a1 : fadd 55 39 σ 82 m 1 = σ := fadd_y (by rw [k5]; decide)
        rw [a1, fadd_n k4, qz_id (σ := pz_up σ 55 39 1) (a := 82) (j := m) (v := 1) k5, qz_cm (σ := σ) (a := 55) (b := 85) (by decide)]
  refine pv_137 _ _ σ _ ?_
  rw [cm]
  refine ⟨fun z => ⟨vm, fun y => fin 1 (Or.inr rfl) (Or.inr ⟨Or.inl y, rfl⟩), fun y => ⟨vm, vm, fun u => fin 0 (Or.inl rfl) (Or.inl ⟨h.resolve_left y, u, z.symm⟩), fun u => fin 1 (Or.inr rfl) (Or.inr ⟨Or.inr u, rfl⟩)⟩⟩, fun z => fin 1 (Or.inr rfl) ?_⟩
  by_cases y : σ.1 82 m = 0
  · exact Or.inr ⟨Or.inl y, rfl⟩
  · by_cases u : σ.1 85 m ||| x = σ.1 85 m
    · exact Or.inl ⟨h.resolve_left y, u, (hf.resolve_left z).symm⟩
    · exact Or.inr ⟨Or.inr u, rfl⟩
/-- the reference's seen -/
theorem w_seen {F : iv_F} {σ : pz_Sg} {b c q : Nat} (hb : b < 10) (h61 : σ.1 61 b = nI q) (hq : q ≤ 3) (hc : c + q ≤ 8) (is : Int32) : pz_WP 138 (0, pz_en 6 [.ref 55, .int is, .int (nI b), .int (nI c)], []) σ (fun v σ' => σ' = σ ∧ ∃ x, v = some (.int x) ∧ ∀ i, bB x i ↔ ((i = 0 ∨ i = 1 ∨ i = 5) ∧ bB is i) ∨ ∃ k, k < q ∧ bB is (k + 2) ∧ bB (σ.1 88 (c + k)) i) := by
  have vb : vp_in (nI b) 10 := vp_in_nI hb (by decide)
  have cb : (nI b).toNatClampNeg = b := nI_clamp (by omega)
  have tk : ∀ k, k < 4 → ((is >>> ((nI k + nI 2) &&& 31)) &&& 1 = 1 ↔ bB is (k + 2)) := fun k hk => by
    rw [nI_add]
    exact b_is (by omega)
  have go : ∀ d k x, k + d = q → (∀ i, bB x i ↔ ((i = 0 ∨ i = 1 ∨ i = 5) ∧ bB is i) ∨ ∃ j, j < k ∧ bB is (j + 2) ∧ bB (σ.1 88 (c + j)) i) → pz_WP 138 (9, [some (.ref 55), some (.int is), some (.int (nI b)), some (.int (nI c)), some (.int x), some (.int (nI k))], []) σ (fun v σ' => σ' = σ ∧ ∃ x, v = some (.int x) ∧ ∀ i, bB x i ↔ ((i = 0 ∨ i = 1 ∨ i = 5) ∧ bB is i) ∨ ∃ k, k < q ∧ bB is (k + 2) ∧ bB (σ.1 88 (c + k)) i) := by
    intro d
    induction d with
    | zero =>
      intro k x hk hx
      have hk : k = q := by omega
      subst hk
      refine pv_138_9 _ _ _ _ _ σ _ ?_
      rw [cb, h61]
      exact ⟨vb, fun _ => ⟨rfl, x, rfl, hx⟩, fun z => absurd (Int32.le_refl _) z⟩
    | succ d ih =>
      intro k x hk hx
      have ck : (nI (c + k)).toNatClampNeg = c + k := nI_clamp (by omega)
      refine pv_138_9 _ _ _ _ _ σ _ ?_
      rw [cb, h61, nI_add c k, ck, nI_1]
      refine ⟨vb, fun z => absurd z (nI_ge (by omega) (by omega)), fun _ => ⟨fun z => ⟨vp_in_nI (by omega) (by decide), ih (k + 1) _ (by omega) (fun i => ?_)⟩, fun z => ih (k + 1) _ (by omega) (fun i => ?_)⟩⟩
      · have y := (tk k (by omega)).mp z
        rw [bB_o, hx]
        constructor
        · rintro ((h | ⟨j, h1, h2⟩) | h)
          · exact Or.inl h
          · exact Or.inr ⟨j, by omega, h2⟩
          · exact Or.inr ⟨k, by omega, y, h⟩
        · rintro (h | ⟨j, h1, h2, h3⟩)
          · exact Or.inl (Or.inl h)
          · by_cases e : j = k
            · subst e
              exact Or.inr h3
            · exact Or.inl (Or.inr ⟨j, by omega, h2, h3⟩)
      · have y : ¬ bB is (k + 2) := fun u => z ((tk k (by omega)).mpr u)
        rw [bB_o, hx]
        constructor
        · rintro ((h | ⟨j, h1, h2⟩) | h)
          · exact Or.inl h
          · exact Or.inr ⟨j, by omega, h2⟩
          · exact absurd h bB_n
        · rintro (h | ⟨j, h1, h2, h3⟩)
          · exact Or.inl (Or.inl h)
          · refine Or.inl (Or.inr ⟨j, ?_, h2, h3⟩)
            have : ¬ j = k := fun e => y (by rw [← e]; exact h2)
            omega
  refine pv_138 _ _ _ σ _ (go q 0 _ (by omega) (fun i => ?_))
  rw [bB_a, bB_35]
  exact ⟨fun h => Or.inl ⟨h.2, h.1⟩, fun h => h.elim (fun h => ⟨h.2, h.1⟩) (fun ⟨j, h1, _⟩ => absurd h1 (Nat.not_lt_zero _))⟩
