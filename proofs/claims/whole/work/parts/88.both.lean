/-! ===== both: two ends held against one another ===== -/
theorem w_isThing26 {σ : pz_Sg} {n : Nat} (h : σ.1 26 0 = nI n) (hn : n < 2 ^ 31) (v : Int32) : pz_WP 71 (0, pz_en 2 [.ref 26, .int v], []) σ (pz_is (some (.int (pz_b (vp_in v n)))) σ) := by
  have e := pz_ix (x := v) h hn
  exact pv_71r26 v σ _ ⟨fun z => pz_no (fun q => (e.mp q).1 z), fun z => ⟨fun z2 => pz_no (fun q => (e.mp q).2 z2), fun z2 => pz_yes (e.mpr ⟨z, z2⟩)⟩⟩
theorem w_isArray26 {σ : pz_Sg} {x : Nat} (hx : x < 60) : pz_WP 74 (0, pz_en 2 [.ref 26, .int (nI x)], []) σ (pz_is (some (.int (pz_b (¬ -(nI 10) < σ.1 27 x)))) σ) := by
  refine pv_74r26 _ σ _ ?_
  rw [nI_clamp (by omega)]
  exact ⟨vp_in_nI hx (by decide), fun z => pz_no (fun q => q z), fun z => pz_yes z⟩
theorem w_itemsOf26 {σ : pz_Sg} {x : Nat} (hx : x < 60) : pz_WP 73 (0, pz_en 2 [.ref 26, .int (nI x)], []) σ (pz_is (some (.int (-(nI 10) - σ.1 27 x))) σ) := by
  refine pv_73r26 _ σ _ ?_
  rw [nI_clamp (by omega)]
  exact ⟨vp_in_nI hx (by decide), rfl, rfl⟩
theorem w_hasField26 {σ : pz_Sg} {nt nf x : Nat} (hx : x < 60) {k i : Int32} (bt : nt ≤ 8) (hk : qz_kd nt (σ.1 27 x) k i) (H3 : iv_fl σ.1 nt nf) {p : Nat} (hp : p < 16) : pz_WP 76 (0, pz_en 4 [.ref 26, .ref 1, .int (nI x), .int (nI p)], []) σ (pz_is (some (.int (pz_b (-(nI 10) < σ.1 27 x ∧ qz_hs σ.1 nt nf (σ.1 27 x) p)))) σ) := by
  have cl : (nI x).toNatClampNeg = x := nI_clamp (by omega)
  refine pv_76r26_1 _ _ σ _ (pz_ki (w_isArray26 hx) ⟨fun z => ?_, fun z => pz_no (fun q => z (pz_b_0.mpr (fun y => y q.1)))⟩)
  have z' : -(nI 10) < σ.1 27 x := Classical.not_not.mp (pz_b_0.mp z)
  rw [cl]
  rcases hk with ⟨t, ht, e, -, -⟩ | ⟨n, hn, e, -, -⟩
  · rw [e] at z' ⊢
    have ct : (nI t).toNatClampNeg = t := nI_clamp (by omega)
    have hh := H3.2 t ht p hp
    rw [ct]
    exact ⟨vp_in_nI hx (by decide), vp_in_nI (by omega) (by decide), fun y => pz_yes ⟨z', (qz_hs_o bt ht).mpr (hh.mp y)⟩, fun y => pz_no (fun q => y (hh.mpr ((qz_hs_o bt ht).mp q.2)))⟩
  · rw [e] at z'
    exact absurd z' (qz_k10 n (by omega)).2.2.2
theorem w_holds26 {σ : pz_Sg} {nt nf nx : Nat} (bx : nx ≤ 60) (bt : nt ≤ 8) (bf : nf ≤ 16) (h16 : σ.1 26 0 = nI nx) (h11 : σ.1 1 1 = nI nf) (hw : ∀ x, x < nx → ∃ k i, qz_kd nt (σ.1 27 x) k i) (H3 : iv_fl σ.1 nt nf) (a b : Int32) : pz_WP 78 (0, pz_en 4 [.ref 26, .ref 1, .int a, .int b], []) σ (pz_is (some (.int (pz_b (∃ x p, x < nx ∧ a = nI x ∧ b = nI p ∧ p < 16 ∧ qz_hs σ.1 nt nf (σ.1 27 x) p)))) σ) := by
  refine pv_78r26_1 _ _ σ _ (pz_ki (w_isThing26 h16 (by omega) a) ⟨fun z => pz_no ?_, fun z => ?_⟩)
  · rintro ⟨x, p, hx, rfl, -⟩
    exact pz_b_0.mp z (vp_in_nI hx (by omega))
  · obtain ⟨x, hx, rfl⟩ := vp_in_of (Classical.not_not.mp fun q => z (pz_b_0.mpr q)) (by omega)
    refine ⟨fun y => ?_, fun y => pz_no ?_⟩
    · obtain ⟨p, hp, rfl⟩ := nI_of (Int32.not_lt.mpr y)
      have red : (∃ x' p', x' < nx ∧ nI x = nI x' ∧ nI p = nI p' ∧ p' < 16 ∧ qz_hs σ.1 nt nf (σ.1 27 x') p') ↔ p < 16 ∧ qz_hs σ.1 nt nf (σ.1 27 x) p := by
        constructor
        · rintro ⟨x', p', h1, e1, e2, h2, h3⟩
          have : x = x' := (nI_eq (by omega) (by omega)).mp e1
          have : p = p' := (nI_eq (by omega) (by omega)).mp e2
          subst x'
          subst p'
          exact ⟨h2, h3⟩
        · rintro ⟨h2, h3⟩
          exact ⟨x, p, hx, rfl, rfl, h2, h3⟩
      rw [pz_b_c red]
      obtain ⟨k, i, hk⟩ := hw x hx
      refine pz_ki (w_isArray26 (by omega)) ⟨fun u => ?_, fun u => ?_⟩
      · have u' : -(nI 10) < σ.1 27 x := Classical.not_not.mp (pz_b_0.mp u)
        rw [h11]
        refine ⟨fun q => pz_no (fun w => ?_), fun q => ?_⟩
        · rcases hk with ⟨t, ht, e, -, -⟩ | ⟨n, hn, e, -, -⟩
          · rw [e] at w
            exact absurd ((nI_leI (by omega) (by omega)).mp q) (Nat.not_le.mpr ((qz_hs_o bt ht).mp w.2).1)
          · rw [e] at u'
            exact absurd u' (qz_k10 n (by omega)).2.2.2
        · have p16 : p < 16 := Nat.lt_of_lt_of_le (Nat.not_le.mp fun w => q (nI_le w (by omega))) bf
          refine pz_ki (w_hasField26 (by omega) bt hk H3 p16) ⟨fun w => pz_no (fun v => pz_b_0.mp w ⟨u', v.2⟩), fun w => pz_yes ⟨p16, (Classical.not_not.mp fun v => w (pz_b_0.mpr v)).2⟩⟩
      · have u' : ¬ -(nI 10) < σ.1 27 x := Classical.not_not.mp fun q => u (pz_b_0.mpr q)
        rcases hk with ⟨t, ht, e, -, -⟩ | ⟨n, hn, e, -, -⟩
        · rw [e] at u'
          exact absurd (qz_nar t (by omega)) u'
        · refine pz_ki (w_itemsOf26 (by omega)) ?_
          rw [e, (qz_k10 n (by omega)).2.2.1, qz_hs_a bt hn]
          exact ⟨fun q => pz_no (fun v => absurd ((nI_leI (by omega) (by omega)).mp q) (by omega)), fun q => pz_yes ⟨Nat.lt_of_lt_of_le (Nat.not_le.mp fun w => q (nI_le w (by omega))) hn, Nat.not_le.mp fun w => q (nI_le w (by omega))⟩⟩
    · rintro ⟨x', p, hx', -, rfl, hp, -⟩
      exact y (Int32.not_lt.mp (nI_pos (by omega)))
theorem w_refersAt26 {σ : pz_Sg} {x p : Nat} (hx : x < 60) (hp : p < 16) : pz_WP 79 (0, pz_en 4 [.ref 26, .ref 1, .int (nI x), .int (nI p)], []) σ (pz_is (some (.int (pz_b (-(nI 10) < σ.1 27 x ∧ ¬ σ.1 4 p = 0)))) σ) := by
  refine pv_79r26_1 _ _ σ _ (pz_ki (w_isArray26 hx) ⟨fun z => ?_, fun z => pz_no (fun q => z (pz_b_0.mpr (fun y => y q.1)))⟩)
  have z' : -(nI 10) < σ.1 27 x := Classical.not_not.mp (pz_b_0.mp z)
  rw [nI_clamp (by omega)]
  exact ⟨vp_in_nI hp (by decide), fun y => pz_no (fun q => q.2 y), fun y => pz_yes ⟨z', y⟩⟩
/-- how many are told -/
def lcn (f : Nat → Int32) : Nat → Nat
  | 0 => 0
  | n + 1 => lcn f n + (if f n = -1 then 0 else 1)
theorem lcn_le {f : Nat → Int32} : ∀ n, lcn f n ≤ n
  | 0 => Nat.le_refl _
  | n + 1 => by
    have := lcn_le (f := f) n
    unfold lcn
    split <;> omega
theorem lcn_lt {f : Nat → Int32} {x : Nat} (hx : f x = -1) : ∀ n, x < n → lcn f n < n
  | 0, h => absurd h (Nat.not_lt_zero _)
  | n + 1, h => by
    have l := lcn_le (f := f) n
    unfold lcn
    by_cases e : x = n
    · subst e
      rw [if_pos hx]
      omega
    · have := lcn_lt hx n (by omega)
      split <;> omega
theorem lcn_c {f g : Nat → Int32} : ∀ n, (∀ y, y < n → f y = g y) → lcn f n = lcn g n
  | 0, _ => rfl
  | n + 1, h => by
    unfold lcn
    rw [lcn_c n (fun y hy => h y (by omega)), h n (by omega)]
theorem lcn_up {f : Nat → Int32} {x : Nat} {v : Int32} (hx : f x = -1) (hv : ¬ v = -1) : ∀ n, x < n → lcn (fun y => if y = x then v else f y) n = lcn f n + 1
  | 0, h => absurd h (Nat.not_lt_zero _)
  | n + 1, h => by
    show lcn (fun y => if y = x then v else f y) n + (if (if n = x then v else f n) = -1 then 0 else 1) = lcn f n + (if f n = -1 then 0 else 1) + 1
    by_cases e : x = n
    · subst e
      rw [if_pos rfl, if_neg hv, if_pos hx, lcn_c x (fun y hy => if_neg (by omega))]
    · rw [if_neg (c := n = x) (fun q => e q.symm), lcn_up hx hv n (by omega)]
      omega
/-- the reference's state: c pairs are met -/
def gV (n1 n2 c : Nat) (G : iv_F) : Prop := G 55 70 = nI c ∧ c = lcn (G 100) 60 ∧ (∀ x, x < 60 → G 100 x = -1 ∨ ∃ y, y < n2 ∧ G 100 x = nI y) ∧ (∀ k, k < c → ∃ x, x < n1 ∧ G 102 k = nI x ∧ ¬ G 100 x = -1)
def gM (c : Nat) (G : iv_F) (c' : Nat) (G' : iv_F) : Prop := c ≤ c' ∧ (∀ k, k < c → G' 102 k = G 102 k) ∧ (∀ x, x < 60 → ¬ G 100 x = -1 → G' 100 x = G 100 x)
/-- all else stays -/
def lG (G G' : iv_F) : Prop := (∀ a, a ≠ 55 → ¬ (100 ≤ a ∧ a ≤ 102) → G' a = G a) ∧ ∀ j, j ≠ 70 → G' 55 j = G 55 j
def lF (F F' : iv_F) : Prop := ∀ a, a ≠ 46 → ¬ (49 ≤ a ∧ a ≤ 51) → F' a = F a
theorem lG_r {G : iv_F} : lG G G := ⟨fun _ _ _ => rfl, fun _ _ => rfl⟩
theorem lG_t {G G' G'' : iv_F} (h : lG G G') (h' : lG G' G'') : lG G G'' := ⟨fun a h1 h2 => (h'.1 a h1 h2).trans (h.1 a h1 h2), fun j hj => (h'.2 j hj).trans (h.2 j hj)⟩
theorem lF_r {F : iv_F} : lF F F := fun _ _ _ => rfl
theorem lF_t {F F' F'' : iv_F} (h : lF F F') (h' : lF F' F'') : lF F F'' := fun a h1 h2 => (h' a h1 h2).trans (h a h1 h2)
theorem gM_r {c : Nat} {G : iv_F} : gM c G c G := ⟨Nat.le_refl _, fun _ _ => rfl, fun _ _ _ => rfl⟩
theorem gM_t {c c' c'' : Nat} {G G' G'' : iv_F} (h : gM c G c' G') (h' : gM c' G' c'' G'') : gM c G c'' G'' := ⟨by have := h.1; have := h'.1; omega, fun k hk => (h'.2.1 k (by have := h.1; omega)).trans (h.2.1 k hk), fun x hx hn => by
  have e := h.2.2 x hx hn
  rw [h'.2.2 x hx (by rw [e]; exact hn), e]⟩
/-- one pair more -/
def psG (G : iv_F) (c a b : Nat) : iv_F := fu (fu (fu (fu G 100 a (nI b)) 101 b 1) 102 c (nI a)) 55 70 (nI (c + 1))
def psF (F : iv_F) (c a b : Nat) : iv_F := fu (fu (fu (fu F 49 a (nI b)) 50 b (nI a)) 51 c (nI a)) 46 8 (nI (c + 1))
theorem psG_100 {G : iv_F} {c a b : Nat} : psG G c a b 100 = fun y => if y = a then nI b else G 100 y := by
  funext y
  unfold psG
  rw [fu_o (by decide), fu_o (by decide), fu_o (by decide), fu_w]
theorem psG_1 {G : iv_F} {c a b y : Nat} : psG G c a b 100 y = if y = a then nI b else G 100 y := by rw [psG_100]
theorem psG_102 {G : iv_F} {c a b k : Nat} : psG G c a b 102 k = if k = c then nI a else G 102 k := by
  unfold psG
  rw [fu_o (by decide), fu_w, fu_o (by decide), fu_o (by decide)]
theorem ps_l {G : iv_F} {c a b : Nat} : lG G (psG G c a b) := by
  refine ⟨fun x h1 h2 => ?_, fun j hj => ?_⟩
  · unfold psG
    rw [fu_o h1, fu_o (by omega), fu_o (by omega), fu_o (by omega)]
  · unfold psG
    rw [fu_j hj, fu_o (by decide), fu_o (by decide), fu_o (by decide)]
theorem ps_lF {F : iv_F} {c a b : Nat} : lF F (psF F c a b) := fun x h1 h2 => by
  unfold psF
  rw [fu_o h1, fu_o (by omega), fu_o (by omega), fu_o (by omega)]
theorem ps_V {n1 n2 c a b : Nat} {G : iv_F} (V : gV n1 n2 c G) (h1 : n1 ≤ 60) (h2 : n2 ≤ 60) (ha : a < n1) (hb : b < n2) (hn : G 100 a = -1) : c < 60 ∧ gV n1 n2 (c + 1) (psG G c a b) ∧ gM c G (c + 1) (psG G c a b) := by
  obtain ⟨v1, v2, v3, v4⟩ := V
  have c60 : c < 60 := by rw [v2]; exact lcn_lt hn 60 (by omega)
  have nb : ¬ nI b = -1 := nI_ne1 (by omega)
  refine ⟨c60, ⟨rfl, ?_, fun x hx => ?_, fun k hk => ?_⟩, by omega, fun k hk => ?_, fun x hx hx1 => ?_⟩
  · rw [psG_100, lcn_up hn nb 60 (by omega), ← v2]
  · rw [psG_1]
    by_cases e : x = a
    · rw [if_pos e]
      exact Or.inr ⟨b, hb, rfl⟩
    · rw [if_neg e]
      exact v3 x hx
  · rw [psG_102]
    by_cases e : k = c
    · rw [if_pos e]
      exact ⟨a, ha, rfl, by rw [psG_1, if_pos rfl]; exact nb⟩
    · rw [if_neg e]
      obtain ⟨x, hx, ex, nx⟩ := v4 k (by omega)
      refine ⟨x, hx, ex, ?_⟩
      rw [psG_1]
      split
      · exact nb
      · exact nx
  · rw [psG_102, if_neg (by omega)]
  · rw [psG_1]
    exact if_neg (fun q => hx1 (by rw [q]; exact hn))
/-! likeRefs, its three ways -/
theorem w_lr1 {G : iv_F} {T : pz_Sg} {x y o : Int32} (h : x < o ∨ y < o) : pz_WP 173 (0, pz_en 4 [.ref 55, .int x, .int y, .int o], []) (Ms T G) (pz_is (some (.int (pz_b (x = y)))) (Ms T G)) := by
  have e : (x = y → pz_is (some (.int (pz_b (x = y)))) (Ms T G) (some (.int 1)) (Ms T G)) ∧ (¬ x = y → pz_is (some (.int (pz_b (x = y)))) (Ms T G) (some (.int 0)) (Ms T G)) := ⟨fun q => pz_yes q, fun q => pz_no q⟩
  refine pv_173 _ _ _ _ _ ⟨fun _ => e, fun z => ⟨fun z2 => absurd (h.resolve_left z) (Int32.not_lt.mpr z2), fun _ => e⟩⟩
theorem w_lr2 {G : iv_F} {T : pz_Sg} {a b o : Nat} (ha : a < 60) (hb : b < 60) (hoa : o ≤ a) (hob : o ≤ b) (hv : G 100 a = -1 ∨ 0 ≤ G 100 a) (h : ¬ (G 100 a = -1 ∧ G 101 b = 0)) : pz_WP 173 (0, pz_en 4 [.ref 55, .int (nI a), .int (nI b), .int (nI o)], []) (Ms T G) (pz_is (some (.int (pz_b (G 100 a = nI b)))) (Ms T G)) := by
  have va : vp_in (nI a) 60 := vp_in_nI ha (by decide)
  have vb : vp_in (nI b) 60 := vp_in_nI hb (by decide)
  have e : (G 100 a = nI b → pz_is (some (.int (pz_b (G 100 a = nI b)))) (Ms T G) (some (.int 1)) (Ms T G)) ∧ (¬ G 100 a = nI b → pz_is (some (.int (pz_b (G 100 a = nI b)))) (Ms T G) (some (.int 0)) (Ms T G)) := ⟨fun q => pz_yes q, fun q => pz_no q⟩
  refine pv_173 _ _ _ _ _ ?_
  rw [nI_clamp (show a < 2 ^ 31 by omega), nI_clamp (show b < 2 ^ 31 by omega), Ms_r (a := 100) (by decide), Ms_r (a := 101) (by decide)]
  refine ⟨fun z => absurd z (nI_nlt hoa (by omega)), fun _ => ⟨fun _ => ⟨va, fun _ => ⟨va, e⟩, fun z => ⟨vb, fun z2 => absurd ⟨hv.resolve_right z, z2⟩ h, fun _ => ⟨va, e⟩⟩⟩, fun z => absurd (nI_le hob (by omega)) z⟩⟩
theorem w_lr3 {G : iv_F} {T : pz_Sg} {a b o c : Nat} (ha : a < 60) (hb : b < 60) (hoa : o ≤ a) (hob : o ≤ b) (hc : c < 60) (h70 : G 55 70 = nI c) (h1 : G 100 a = -1) (h2 : G 101 b = 0) : pz_WP 173 (0, pz_en 4 [.ref 55, .int (nI a), .int (nI b), .int (nI o)], []) (Ms T G) (pz_is (some (.int 1)) (Ms T (psG G c a b))) := by
  have va : vp_in (nI a) 60 := vp_in_nI ha (by decide)
  have vb : vp_in (nI b) 60 := vp_in_nI hb (by decide)
  refine pv_173 _ _ _ _ _ ?_
  rw [nI_clamp (show a < 2 ^ 31 by omega), nI_clamp (show b < 2 ^ 31 by omega), Ms_r (a := 100) (by decide), Ms_r (a := 101) (by decide), h1]
  refine ⟨fun z => absurd z (nI_nlt hoa (by omega)), fun _ => ⟨fun _ => ⟨va, fun z => absurd z (by decide), fun _ => ⟨vb, fun _ => ⟨va, ?_⟩, fun z => absurd h2 z⟩⟩, fun z => absurd (nI_le hob (by omega)) z⟩⟩
  rintro σ1 rfl
  refine ⟨vb, ?_⟩
  rintro σ2 rfl
  rw [Ms_u (by decide), Ms_u (by decide), Ms_r (a := 55) (by decide), show fu (fu G 100 a (nI b)) 101 b 1 55 70 = nI c from h70, nI_clamp (show c < 2 ^ 31 by omega)]
  refine ⟨vp_in_nI hc (by decide), ?_⟩
  rintro σ3 rfl σ4 rfl
  rw [Ms_u (by decide), Ms_r (a := 55) (by decide), show fu (fu (fu G 100 a (nI b)) 101 b 1) 102 c (nI a) 55 70 = nI c from h70, nI_1, Ms_u (by decide), Ms_r (a := 100) (by decide)]
  refine ⟨va, fun _ => ⟨rfl, rfl⟩, fun z => absurd ?_ z⟩
  rw [fu_o (by decide), fu_o (by decide), fu_o (by decide), fu_s]
/-! valuesAlike, its four ways -/
theorem w_va0 {σ : pz_Sg} {x y : Int32} : pz_WP 33 (0, pz_en 4 [.ref 46, .int 0, .int x, .int y], []) σ (pz_is (some (.int (pz_b (x = y)))) σ) := pv_33 _ _ _ σ _ ⟨fun _ => ⟨fun q => pz_yes q, fun q => pz_no q⟩, fun z => absurd rfl z⟩
theorem w_va1 {σ : pz_Sg} {x y rf : Int32} (h : x < σ.1 46 9 ∨ y < σ.1 46 9) : pz_WP 33 (0, pz_en 4 [.ref 46, .int rf, .int x, .int y], []) σ (pz_is (some (.int (pz_b (x = y)))) σ) := by
  have e : (x = y → pz_is (some (.int (pz_b (x = y)))) σ (some (.int 1)) σ) ∧ (¬ x = y → pz_is (some (.int (pz_b (x = y)))) σ (some (.int 0)) σ) := ⟨fun q => pz_yes q, fun q => pz_no q⟩
  exact pv_33 _ _ _ σ _ ⟨fun _ => e, fun _ => ⟨fun _ => e, fun z => ⟨fun z2 => absurd (h.resolve_left z) (Int32.not_lt.mpr z2), fun _ => e⟩⟩⟩
theorem w_va2 {σ : pz_Sg} {a b o : Nat} {rf : Int32} (hr : ¬ rf = 0) (h9 : σ.1 46 9 = nI o) (ha : a < 60) (hb : b < 60) (hoa : o ≤ a) (hob : o ≤ b) (h : ¬ (σ.1 49 a = -1 ∧ σ.1 50 b = -1)) : pz_WP 33 (0, pz_en 4 [.ref 46, .int rf, .int (nI a), .int (nI b)], []) σ (pz_is (some (.int (pz_b (σ.1 49 a = nI b)))) σ) := by
  have va : vp_in (nI a) 60 := vp_in_nI ha (by decide)
  have vb : vp_in (nI b) 60 := vp_in_nI hb (by decide)
  have e : (σ.1 49 a = nI b → pz_is (some (.int (pz_b (σ.1 49 a = nI b)))) σ (some (.int 1)) σ) ∧ (¬ σ.1 49 a = nI b → pz_is (some (.int (pz_b (σ.1 49 a = nI b)))) σ (some (.int 0)) σ) := ⟨fun q => pz_yes q, fun q => pz_no q⟩
  refine pv_33 _ _ _ σ _ ⟨fun z => absurd z hr, fun _ => ?_⟩
  rw [h9, nI_clamp (show a < 2 ^ 31 by omega), nI_clamp (show b < 2 ^ 31 by omega)]
  exact ⟨fun z => absurd z (nI_nlt hoa (by omega)), fun _ => ⟨fun _ => ⟨va, fun z1 => ⟨vb, fun z2 => absurd ⟨z1, z2⟩ h, fun _ => ⟨va, e⟩⟩, fun _ => ⟨va, e⟩⟩, fun z => absurd (nI_le hob (by omega)) z⟩⟩
theorem w_va3 {σ : pz_Sg} {a b o c : Nat} {rf : Int32} (hr : ¬ rf = 0) (h9 : σ.1 46 9 = nI o) (h8 : σ.1 46 8 = nI c) (hc : c < 60) (ha : a < 60) (hb : b < 60) (hoa : o ≤ a) (hob : o ≤ b) (h1 : σ.1 49 a = -1) (h2 : σ.1 50 b = -1) : pz_WP 33 (0, pz_en 4 [.ref 46, .int rf, .int (nI a), .int (nI b)], []) σ (pz_is (some (.int (pz_b (σ.1 27 a = σ.1 17 b)))) (psF σ.1 c a b, σ.2)) := by
  have va : vp_in (nI a) 60 := vp_in_nI ha (by decide)
  have vb : vp_in (nI b) 60 := vp_in_nI hb (by decide)
  refine pv_33 _ _ _ σ _ ⟨fun z => absurd z hr, fun _ => ?_⟩
  rw [h9, nI_clamp (show a < 2 ^ 31 by omega), nI_clamp (show b < 2 ^ 31 by omega)]
  refine ⟨fun z => absurd z (nI_nlt hoa (by omega)), fun _ => ⟨fun _ => ⟨va, fun _ => ⟨vb, fun _ => ⟨va, ?_⟩, fun z => absurd h2 z⟩, fun z => absurd h1 z⟩, fun z => absurd (nI_le hob (by omega)) z⟩⟩
  rintro σ1 rfl
  refine ⟨vb, ?_⟩
  rintro σ2 rfl
  rw [show (pz_up (pz_up σ 49 a (nI b)) 50 b (nI a)).1 46 8 = nI c from h8, nI_clamp (show c < 2 ^ 31 by omega)]
  refine ⟨vp_in_nI hc (by decide), ?_⟩
  rintro σ3 rfl σ4 rfl
  rw [show (pz_up (pz_up (pz_up σ 49 a (nI b)) 50 b (nI a)) 51 c (nI a)).1 46 8 = nI c from h8, nI_1]
  exact ⟨va, vb, fun z => pz_yes (p := σ.1 27 a = σ.1 17 b) z, fun z => pz_no (p := σ.1 27 a = σ.1 17 b) z⟩
