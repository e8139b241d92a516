/-- the first end, as a world -/
def w1 (F G : iv_F) : iv_F := fun a y => if a = 16 then F 26 y else if a = 17 then F 27 y else if a = 18 then F 28 y else if a = 19 then F 29 y else if a = 73 then G 96 (2 * y) else if a = 74 then G 96 (2 * y + 1) else if a = 75 then G 96 (120 + y) else if a = 76 then G 96 (1080 + y) else if a = 55 then G 96 1288 else F a y
/-- how METHOD m ended, alone and behind the other -/
def lE (n1 n2 m w : Nat) (F G : iv_F) : Prop := ∃ f1 f2, (f1 ≤ 9 ∧ f2 ≤ 9) ∧ (F 47 (2 * w) = nI f1 ∧ G 98 w = nI f1) ∧ (F 48 (2 * w) = nI f2 ∧ G 98 (2 + w) = nI f2) ∧ (F 47 (2 * w + 1) = G 99 w ∧ F 48 (2 * w + 1) = G 99 (2 + w)) ∧ ((f1 = 0 ∨ F 47 (2 * w + 1) = 0) ∧ (f2 = 0 ∨ F 48 (2 * w + 1) = 0)) ∧ (f1 = 0 → F 8 m = nI 2 → iv_rv n1 (F 47 (2 * w + 1))) ∧ (f2 = 0 → F 8 m = nI 2 → iv_rv n2 (F 48 (2 * w + 1)))
def lD (nt nf ns n1 n2 o pr1 pr2 ma mb : Nat) (F G : iv_F) : Prop :=
  ((nt ≤ 8 ∧ nf ≤ 16 ∧ ns ≤ 8) ∧ (n1 ≤ 60 ∧ n2 ≤ 60 ∧ o ≤ n1 ∧ o ≤ n2)) ∧
  (F 1 1 = nI nf ∧ F 1 2 = nI ns ∧ G 55 2 = nI nf ∧ G 55 5 = nI ns) ∧
  (iv_ty F nt ∧ iv_fl F nt nf ∧ iv_rf F nf) ∧
  (G 56 = F 56 ∧ G 57 = F 57 ∧ G 58 = F 58 ∧ G 59 = F 59) ∧
  (ma < 10 ∧ mb < 10 ∧ G 62 ma = F 8 ma ∧ G 62 mb = F 8 mb) ∧
  (iv_wd (w1 F G) nt ns n1 ∧ iv_wd (mxf F G) nt ns n2) ∧
  (∀ x, x < o → F 27 x = F 17 x) ∧
  (F 26 1 = nI pr1 ∧ G 96 1289 = nI pr1 ∧ F 16 1 = nI pr2 ∧ G 55 27 = nI pr2 ∧ (pr1 ≤ 1000000 ∧ pr2 ≤ 1000000) ∧ (∀ k, k < 200 → k < pr1 → F 30 k = G 96 (1088 + k)) ∧ (∀ k, k < 200 → k < pr2 → F 20 k = G 77 k)) ∧
  lE n1 n2 ma 0 F G ∧ lE n1 n2 mb 1 F G
def Rl (F0 : iv_F) (n1 n2 o c : Nat) (F G : iv_F) : Prop := gV n1 n2 c G ∧ lF F0 F ∧ (F 46 8 = nI c ∧ F 46 9 = nI o) ∧ (∀ x, x < 60 → F 49 x = G 100 x) ∧ (∀ y, y < 60 → (F 50 y = -1 ↔ G 101 y = 0)) ∧ (∀ k, k < c → F 51 k = G 102 k) ∧ (∀ k x y, k < c → x < n1 → y < n2 → G 102 k = nI x → G 100 x = nI y → F0 27 x = F0 17 y)
/-- a pair was met, at j or behind, that is not alike -/
def dm (F0 : iv_F) (n1 n2 c : Nat) (G : iv_F) (j : Nat) : Prop := ∃ k x y, (j ≤ k ∧ k < c) ∧ (x < n1 ∧ y < n2) ∧ (G 102 k = nI x ∧ G 100 x = nI y) ∧ ¬ F0 27 x = F0 17 y
theorem dm_m {F0 : iv_F} {n1 n2 c c' j : Nat} {G G' : iv_F} (h1 : n1 ≤ 60) (h2 : n2 ≤ 60) (M : gM c G c' G') (h : dm F0 n1 n2 c G j) : dm F0 n1 n2 c' G' j := by
  obtain ⟨k, x, y, ⟨k1, k2⟩, ⟨x1, y1⟩, ⟨e1, e2⟩, ne⟩ := h
  refine ⟨k, x, y, ⟨k1, by have := M.1; omega⟩, ⟨x1, y1⟩, ⟨(M.2.1 k k2).trans e1, ?_⟩, ne⟩
  rw [M.2.2 x (by omega) (by rw [e2]; exact nI_ne1 (by omega)), e2]
theorem dm_j {F0 : iv_F} {n1 n2 c j j' : Nat} {G : iv_F} (hj : j ≤ j') (h : dm F0 n1 n2 c G j') : dm F0 n1 n2 c G j := by
  obtain ⟨k, x, y, ⟨k1, k2⟩, r⟩ := h
  exact ⟨k, x, y, ⟨by omega, k2⟩, r⟩
def lO (F0 : iv_F) (n1 n2 o c : Nat) (G : iv_F) (r : Int32) (F' : iv_F) (Rc : Int32 → iv_F → Prop) : Prop :=
  (r = 1 ∧ ∃ c' G', Rc 1 G' ∧ Rl F0 n1 n2 o c' F' G' ∧ gM c G c' G' ∧ lG G G') ∨
  (r = 0 ∧ lF F0 F' ∧ ∃ rr c' G', Rc rr G' ∧ gV n1 n2 c' G' ∧ gM c G c' G' ∧ lG G G' ∧ (rr = 0 ∨ (rr = 1 ∧ dm F0 n1 n2 c' G' c)))
/-- likeRefs alone -/
theorem s_lr {n1 n2 o c : Nat} {G : iv_F} (h1 : n1 ≤ 60) (h2 : n2 ≤ 60) (ho : o ≤ 60) {x y : Int32} (hx : iv_rv n1 x) (hy : iv_rv n2 y) (V : gV n1 n2 c G) : ∃ r c' G', (∀ T, pz_WP 173 (0, pz_en 4 [.ref 55, .int x, .int y, .int (nI o)], []) (Ms T G) (pz_is (some (.int r)) (Ms T G'))) ∧ (r = 0 ∨ r = 1) ∧ gV n1 n2 c' G' ∧ gM c G c' G' ∧ lG G G' := by
  by_cases q : x < nI o ∨ y < nI o
  · exact ⟨_, c, G, fun T => w_lr1 q, pz_b_01 _, V, gM_r, lG_r⟩
  · have m1 : ¬ ¬ (-1 : Int32) < nI o := fun z => z (by
      rw [Int32.lt_iff_toInt_lt, nI_toInt (by omega)]
      exact Int.lt_of_lt_of_le (by decide) (Int.natCast_nonneg o))
    obtain ⟨a, ha, rfl⟩ := hx.resolve_left fun e => m1 (by rw [← e]; exact fun z => q (Or.inl z))
    obtain ⟨b, hb, rfl⟩ := hy.resolve_left fun e => m1 (by rw [← e]; exact fun z => q (Or.inr z))
    have hoa : o ≤ a := Nat.not_lt.mp fun z => q (Or.inl (nI_lt z (by omega)))
    have hob : o ≤ b := Nat.not_lt.mp fun z => q (Or.inr (nI_lt z (by omega)))
    have hv : G 100 a = -1 ∨ 0 ≤ G 100 a := (V.2.2.1 a (by omega)).imp id (fun ⟨y, hy, e⟩ => by rw [e]; exact nI_pos' (by omega))
    by_cases p : G 100 a = -1 ∧ G 101 b = 0
    · obtain ⟨c60, V', M'⟩ := ps_V (b := b) V h1 h2 ha hb p.1
      exact ⟨1, c + 1, _, fun T => w_lr3 (by omega) (by omega) hoa hob c60 V.1 p.1 p.2, Or.inr rfl, V', M', ps_l⟩
    · exact ⟨_, c, G, fun T => w_lr2 (by omega) (by omega) hoa hob hv p, pz_b_01 _, V, gM_r, lG_r⟩
/-- valuesAlike beside likeRefs -/
theorem p_lr {F0 : iv_F} {n1 n2 o c : Nat} {σ : pz_Sg} {G : iv_F} (h1 : n1 ≤ 60) (h2 : n2 ≤ 60) (ho : o ≤ 60) {x y rf : Int32} (hr : ¬ rf = 0) (hx : iv_rv n1 x) (hy : iv_rv n2 y) (R : Rl F0 n1 n2 o c σ.1 G) : pz_WP 33 (0, pz_en 4 [.ref 46, .int rf, .int x, .int y], []) σ (fun v σ' => ∃ r, v = some (.int r) ∧ (r = 0 ∨ r = 1) ∧ σ'.2 = σ.2 ∧ lO F0 n1 n2 o c G r σ'.1 (fun rr G' => ∀ T, pz_WP 173 (0, pz_en 4 [.ref 55, .int x, .int y, .int (nI o)], []) (Ms T G) (pz_is (some (.int rr)) (Ms T G')))) := by
  obtain ⟨V, hF, ⟨e8, e9⟩, e49, e50, e51, hK⟩ := id R
  have same : ∀ {Q : Prop}, (∀ T, pz_WP 173 (0, pz_en 4 [.ref 55, .int x, .int y, .int (nI o)], []) (Ms T G) (pz_is (some (.int (pz_b Q))) (Ms T G))) → pz_WP 33 (0, pz_en 4 [.ref 46, .int rf, .int x, .int y], []) σ (pz_is (some (.int (pz_b Q))) σ) → pz_WP 33 (0, pz_en 4 [.ref 46, .int rf, .int x, .int y], []) σ (fun v σ' => ∃ r, v = some (.int r) ∧ (r = 0 ∨ r = 1) ∧ σ'.2 = σ.2 ∧ lO F0 n1 n2 o c G r σ'.1 (fun rr G' => ∀ T, pz_WP 173 (0, pz_en 4 [.ref 55, .int x, .int y, .int (nI o)], []) (Ms T G) (pz_is (some (.int rr)) (Ms T G')))) := fun {Q} hG hC => by
    refine pz_conseq hC ?_
    rintro v σ' ⟨rfl, rfl⟩
    refine ⟨_, rfl, pz_b_01 _, rfl, ?_⟩
    by_cases z : Q
    · rw [pz_b_t z] at hG ⊢
      exact Or.inl ⟨rfl, c, G, hG, R, gM_r, lG_r⟩
    · rw [pz_b_f z] at hG ⊢
      exact Or.inr ⟨rfl, hF, 0, c, G, hG, V, gM_r, lG_r, Or.inl rfl⟩
  by_cases q : x < nI o ∨ y < nI o
  · exact same (fun T => w_lr1 q) (w_va1 (by rw [e9]; exact q))
  · have m1 : ¬ ¬ (-1 : Int32) < nI o := fun z => z (by
      rw [Int32.lt_iff_toInt_lt, nI_toInt (by omega)]
      exact Int.lt_of_lt_of_le (by decide) (Int.natCast_nonneg o))
    obtain ⟨a, ha, rfl⟩ := hx.resolve_left fun e => m1 (by rw [← e]; exact fun z => q (Or.inl z))
    obtain ⟨b, hb, rfl⟩ := hy.resolve_left fun e => m1 (by rw [← e]; exact fun z => q (Or.inr z))
    have hoa : o ≤ a := Nat.not_lt.mp fun z => q (Or.inl (nI_lt z (by omega)))
    have hob : o ≤ b := Nat.not_lt.mp fun z => q (Or.inr (nI_lt z (by omega)))
    have hv : G 100 a = -1 ∨ 0 ≤ G 100 a := (V.2.2.1 a (by omega)).imp id (fun ⟨y, hy, e⟩ => by rw [e]; exact nI_pos' (by omega))
    by_cases p : G 100 a = -1 ∧ G 101 b = 0
    · obtain ⟨c60, V', M'⟩ := ps_V (b := b) V h1 h2 ha hb p.1
      have na : ¬ nI a = -1 := nI_ne1 (by omega)
      refine pz_conseq (w_va3 hr e9 e8 c60 (by omega) (by omega) hoa hob ((e49 a (by omega)).trans p.1) ((e50 b (by omega)).mpr p.2)) ?_
      rintro v σ' ⟨rfl, rfl⟩
      refine ⟨_, rfl, pz_b_01 _, rfl, ?_⟩
      have ek : (σ.1 27 a = σ.1 17 b) = (F0 27 a = F0 17 b) := by rw [hF 27 (by decide) (by decide), hF 17 (by decide) (by decide)]
      rw [ek]
      have lr3 : ∀ T, pz_WP 173 (0, pz_en 4 [.ref 55, .int (nI a), .int (nI b), .int (nI o)], []) (Ms T G) (pz_is (some (.int 1)) (Ms T (psG G c a b))) := fun T => w_lr3 (by omega) (by omega) hoa hob c60 V.1 p.1 p.2
      by_cases z : F0 27 a = F0 17 b
      · rw [pz_b_t z]
        refine Or.inl ⟨rfl, c + 1, psG G c a b, lr3, ⟨V', lF_t hF ps_lF, ⟨rfl, e9⟩, fun x hx => ?_, fun y hy => ?_, fun k hk => ?_, fun k x y hk hx hy e1 e2 => ?_⟩, M', ps_l⟩
        · show fu (fu (fu (fu σ.1 49 a (nI b)) 50 b (nI a)) 51 c (nI a)) 46 8 (nI (c + 1)) 49 x = _
          rw [fu_o (by decide), fu_o (by decide), fu_o (by decide), fu_w, psG_1]
          split
          · rfl
          · exact e49 x hx
        · show fu (fu (fu (fu σ.1 49 a (nI b)) 50 b (nI a)) 51 c (nI a)) 46 8 (nI (c + 1)) 50 y = -1 ↔ fu (fu (fu (fu G 100 a (nI b)) 101 b 1) 102 c (nI a)) 55 70 (nI (c + 1)) 101 y = 0
          rw [fu_o (by decide), fu_o (by decide), fu_w, fu_o (by decide), fu_o (by decide), fu_o (by decide), fu_w, fu_o (by decide)]
          by_cases w : y = b
          · rw [if_pos w, if_pos w]
            exact ⟨fun z => absurd z na, fun z => absurd z (by decide)⟩
          · rw [if_neg w, if_neg w]
            exact e50 y hy
        · show fu (fu (fu (fu σ.1 49 a (nI b)) 50 b (nI a)) 51 c (nI a)) 46 8 (nI (c + 1)) 51 k = _
          rw [fu_o (by decide), fu_w, fu_o (by decide), fu_o (by decide), psG_102]
          split
          · rfl
          · exact e51 k (by omega)
        · rw [psG_102] at e1
          rw [psG_1] at e2
          by_cases w : k = c
          · rw [if_pos w] at e1
            have ex : a = x := (nI_eq (by omega) (by omega)).mp e1
            subst ex
            rw [if_pos rfl] at e2
            have ey : b = y := (nI_eq (by omega) (by omega)).mp e2
            subst ey
            exact z
          · rw [if_neg w] at e1
            obtain ⟨x', hx', ex', nx'⟩ := V.2.2.2 k (by omega)
            have : x' = x := (nI_eq (by omega) (by omega)).mp (ex'.symm.trans e1)
            subst this
            rw [if_neg (fun u => nx' (by rw [u]; exact p.1))] at e2
            exact hK k x' y (by omega) hx hy e1 e2
      · rw [pz_b_f z]
        refine Or.inr ⟨rfl, lF_t hF ps_lF, 1, c + 1, psG G c a b, lr3, V', M', ps_l, Or.inr ⟨rfl, c, a, b, ⟨Nat.le_refl _, by omega⟩, ⟨ha, hb⟩, ⟨?_, ?_⟩, z⟩⟩
        · rw [psG_102, if_pos rfl]
        · rw [psG_1, if_pos rfl]
    · refine same (fun T => w_lr2 (by omega) (by omega) hoa hob hv p) ?_
      have := w_va2 (σ := σ) hr e9 (by omega) (by omega) hoa hob (show ¬ (σ.1 49 a = -1 ∧ σ.1 50 b = -1) from fun z => p ⟨(e49 a (by omega)).symm.trans z.1, (e50 b (by omega)).mp z.2⟩)
      rw [e49 a (by omega)] at this
      exact this
