/-! ===== a RUN begins ===== -/
def fi (G : iv_F) (a n : Nat) (f : Nat → Int32) : iv_F := fun x y => if x = a ∧ y < n then f y else G x y
theorem fi_0 {G : iv_F} {a : Nat} {f : Nat → Int32} : fi G a 0 f = G := funext fun x => funext fun y => if_neg (fun z => absurd z.2 (Nat.not_lt_zero _))
theorem fi_o {G : iv_F} {a n x : Nat} {f : Nat → Int32} (h : x ≠ a) : fi G a n f x = G x := funext fun y => if_neg (fun z => h z.1)
theorem fi_i {G : iv_F} {a n y : Nat} {f : Nat → Int32} (h : y < n) : fi G a n f a y = f y := if_pos ⟨rfl, h⟩
theorem fi_n {G : iv_F} {a n y : Nat} {f : Nat → Int32} (h : ¬ y < n) : fi G a n f a y = G a y := if_neg (fun z => h z.2)
theorem fi_w {G : iv_F} {a n y : Nat} {f : Nat → Int32} : fi G a n f a y = if y < n then f y else G a y := by
  unfold fi
  simp
theorem fi_s {G : iv_F} {a k : Nat} {f : Nat → Int32} : fu (fi G a k f) a k (f k) = fi G a (k + 1) f := by
  funext x y
  show (if x = a ∧ y = k then f k else if x = a ∧ y < k then f y else G x y) = if x = a ∧ y < k + 1 then f y else G x y
  by_cases h : x = a
  · by_cases h2 : y = k
    · rw [if_pos ⟨h, h2⟩, if_pos ⟨h, by omega⟩, h2]
    · rw [if_neg (fun z => h2 z.2)]
      by_cases h3 : y < k
      · rw [if_pos ⟨h, h3⟩, if_pos ⟨h, by omega⟩]
      · rw [if_neg (fun z => h3 z.2), if_neg (fun z => h2 (by omega))]
  · rw [if_neg (fun z => h z.1), if_neg (fun z => h z.1), if_neg (fun z => h z.1)]
theorem fi_2 {G : iv_F} {a b k : Nat} {f g : Nat → Int32} (hab : a ≠ b) : fu (fu (fi (fi G a k f) b k g) a k (f k)) b k (g k) = fi (fi G a (k + 1) f) b (k + 1) g := by
  have e : fu (fi (fi G a k f) b k g) a k (f k) = fi (fu (fi G a k f) a k (f k)) b k g := by
    funext x y
    show (if x = a ∧ y = k then f k else if x = b ∧ y < k then g y else fi G a k f x y) = (if x = b ∧ y < k then g y else if x = a ∧ y = k then f k else fi G a k f x y)
    by_cases h : x = a
    · rw [if_neg (c := x = b ∧ y < k) (fun z => hab (h.symm.trans z.1)), if_neg (c := x = b ∧ y < k) (fun z => hab (h.symm.trans z.1))]
    · rw [if_neg (c := x = a ∧ y = k) (fun z => h z.1), if_neg (c := x = a ∧ y = k) (fun z => h z.1)]
  rw [e, fi_s, fi_s]
theorem w_clearD {σ : pz_Sg} : pz_WP 0 (0, pz_en 1 [.ref 40], []) σ (pz_is none (fi σ.1 40 8 (fun _ => 0), σ.2)) := by
  refine pv_0 σ _ ?_
  rintro σ1 rfl σ2 rfl σ3 rfl σ4 rfl σ5 rfl σ6 rfl σ7 rfl σ8 rfl
  refine ⟨rfl, Prod.ext ?_ rfl⟩
  show fu (fu (fu (fu (fu (fu (fu (fu σ.1 40 0 0) 40 1 0) 40 2 0) 40 3 0) 40 4 0) 40 5 0) 40 6 0) 40 7 0 = _
  have s : ∀ k, fu (fi σ.1 40 k (fun _ => 0)) 40 k 0 = fi σ.1 40 (k + 1) (fun _ => 0) := fun k => fi_s
  have s0 : fu σ.1 40 0 0 = fi σ.1 40 1 (fun _ => 0) := by rw [← s 0, fi_0]
  rw [s0, s 1, s 2, s 3, s 4, s 5, s 6, s 7]
def goF (F : iv_F) (m0 t1 p q : Nat) (wv : Int32) : iv_F := fi (fi (fi (enC (fu (fu (fu (fu (fi F 40 8 (fun _ => 0)) 39 8 0) 39 9 0) 39 10 (F 16 0)) 39 11 wv) 0 (nI m0)) 43 p (fun y => F 53 (t1 + y))) 44 q (fun y => F 54 (t1 + y))) 45 q (fun y => F 54 (t1 + y))
theorem w_goI {σ : pz_Sg} {m0 t1 p q : Nat} {wv : Int32} {Post : pz_Ps} (hm : m0 < 10) (ht : t1 + 3 ≤ 6) (h6 : σ.1 6 m0 = nI p) (hp : p ≤ 3) (h7 : σ.1 7 m0 = nI q) (hq : q ≤ 3) (hw : wv = 0 ∨ wv = 1) (h : pz_WP 34 (133, [some (.ref 39), some (.int (nI m0)), none, none, none, none, some (.int 0), some (.int (nI 0))], []) (goF σ.1 m0 t1 p q wv, σ.2) Post) : pz_WP 34 (0, pz_en 8 [.ref 39, .int (nI m0), .ref 53, .ref 54, .int (nI t1), .int wv], []) σ Post := by
  have vm : vp_in (nI m0) 10 := vp_in_nI hm (by decide)
  have cm : (nI m0).toNatClampNeg = m0 := nI_clamp (by omega)
  have L2 : ∀ d k, k + d = q → pz_WP 34 (79, [some (.ref 39), some (.int (nI m0)), none, some (.ref 54), some (.int (nI t1)), none, some (.int (nI k)), none], []) (fi (fi (fi (enC (fu (fu (fu (fu (fi σ.1 40 8 (fun _ => 0)) 39 8 0) 39 9 0) 39 10 (σ.1 16 0)) 39 11 wv) 0 (nI m0)) 43 p (fun y => σ.1 53 (t1 + y))) 44 k (fun y => σ.1 54 (t1 + y))) 45 k (fun y => σ.1 54 (t1 + y)), σ.2) Post := by
    intro d
    induction d with
    | zero =>
      intro k hk
      have : k = q := by omega
      subst this
      refine pv_34_79 _ _ _ _ _ ?_
      rw [cm]
      refine ⟨vm, fun _ => h, fun z => absurd (show _ ≤ _ from ?_) z⟩
      exact h7 ▸ (nI_le (Nat.le_refl _) (by omega) : nI k ≤ nI k)
    | succ d ih =>
      intro k hk
      refine pv_34_79 _ _ _ _ _ ?_
      rw [cm, nI_add, nI_clamp (show t1 + k < 2 ^ 31 by omega), nI_clamp (show k < 2 ^ 31 by omega), nI_1]
      refine ⟨vm, fun z => absurd (show nI q ≤ nI k by rw [← h7]; exact z) (nI_ge (by omega) (by omega)), fun _ => ⟨vp_in_nI (by omega) (by decide), vp_in_nI (by omega) (by decide), ?_⟩⟩
      rintro σ1 rfl
      refine ⟨vp_in_nI (by omega) (by decide), vp_in_nI (by omega) (by decide), ?_⟩
      rintro σ2 rfl
      have := ih (k + 1) (by omega)
      rw [← fi_2 (a := 44) (b := 45) (k := k) (by decide)] at this
      exact this
  have L1 : ∀ d k, k + d = p → pz_WP 34 (42, [some (.ref 39), some (.int (nI m0)), some (.ref 53), some (.ref 54), some (.int (nI t1)), none, some (.int (nI k)), none], []) (fi (enC (fu (fu (fu (fu (fi σ.1 40 8 (fun _ => 0)) 39 8 0) 39 9 0) 39 10 (σ.1 16 0)) 39 11 wv) 0 (nI m0)) 43 k (fun y => σ.1 53 (t1 + y)), σ.2) Post := by
    intro d
    induction d with
    | zero =>
      intro k hk
      have : k = p := by omega
      subst this
      refine pv_34_42 _ _ _ _ _ ?_
      rw [cm]
      refine ⟨vm, fun _ => ?_, fun z => absurd (show _ ≤ _ from ?_) z⟩
      · have := L2 q 0 (by omega)
        rw [fi_0, fi_0] at this
        exact this
      · exact h6 ▸ (nI_le (Nat.le_refl _) (by omega) : nI k ≤ nI k)
    | succ d ih =>
      intro k hk
      refine pv_34_42 _ _ _ _ _ ?_
      rw [cm, nI_add, nI_clamp (show t1 + k < 2 ^ 31 by omega), nI_clamp (show k < 2 ^ 31 by omega), nI_1]
      refine ⟨vm, fun z => absurd (show nI p ≤ nI k by rw [← h6]; exact z) (nI_ge (by omega) (by omega)), fun _ => ⟨vp_in_nI (by omega) (by decide), vp_in_nI (by omega) (by decide), ?_⟩⟩
      rintro σ1 rfl
      have := ih (k + 1) (by omega)
      rw [← fi_s (a := 43) (k := k)] at this
      exact this
  refine pv_34 _ _ _ σ _ (pz_kv w_clearD ?_)
  rintro σ2 rfl σ3 rfl σ4 rfl
  refine ⟨hw, ?_⟩
  rintro σ5 rfl
  refine pz_kv (w_enter (d := 0) rfl (by decide) (nI m0)) ?_
  have := L1 p 0 (by omega)
  rw [fi_0] at this
  exact this
/-! the reference's -/
def g13 (G : iv_F) : iv_F := fu (fu (fu (fu (fu (fu (fu (fu (fu (fu (fu (fu (fu G 55 41 0) 55 46 0) 55 47 0) 55 48 0) 55 49 (G 55 22)) 55 50 (G 55 27)) 55 51 0) 55 52 0) 55 53 0) 55 54 0) 55 55 0) 55 58 0) 55 59 0
def goG (G : iv_F) (m0 t1 p q : Nat) : iv_F := fi (fi (enM (fi (fi (g13 G) 93 60 (fun _ => 0)) 94 60 (fun _ => 0)) 0 (nI m0)) 91 p (fun y => G 78 (t1 + y))) 92 q (fun y => G 79 (t1 + y) - 1)
theorem w_goIM {G : iv_F} {T : pz_Sg} {m0 t1 p q wh : Nat} {P : pz_Ps} (hm : m0 < 10) (ht : t1 = 3 * wh) (hw : wh ≤ 1) (h6 : G 60 m0 = nI p) (hp : p ≤ 3) (h7 : G 61 m0 = nI q) (hq : q ≤ 3) (h : pz_WP 166 (183, [some (.ref 55), none, none, some (.int 1), none], []) (Ms T (goG G m0 t1 p q)) P) : pz_WP 166 (0, pz_en 5 [.ref 55, .int (nI m0), .int (nI wh)], []) (Ms T G) P := by
  have vm : vp_in (nI m0) 10 := vp_in_nI hm (by decide)
  have cm : (nI m0).toNatClampNeg = m0 := nI_clamp (by omega)
  have L2 : ∀ d k, k + d = q → pz_WP 166 (146, [some (.ref 55), some (.int (nI m0)), some (.int (nI wh)), some (.int 1), some (.int (nI k))], []) (Ms T (fi (fi (enM (fi (fi (g13 G) 93 60 (fun _ => 0)) 94 60 (fun _ => 0)) 0 (nI m0)) 91 p (fun y => G 78 (t1 + y))) 92 k (fun y => G 79 (t1 + y) - 1))) P := by
    intro d
    induction d with
    | zero =>
      intro k hk
      have : k = q := by omega
      subst this
      refine pv_166_146 _ _ _ _ _ _ ?_
      rw [cm]
      refine ⟨vm, fun _ => h, fun z => absurd (show _ ≤ _ from ?_) z⟩
      exact h7 ▸ (nI_le (Nat.le_refl _) (by omega) : nI k ≤ nI k)
    | succ d ih =>
      intro k hk
      refine pv_166_146 _ _ _ _ _ _ ?_
      rw [cm, pk_mul, ← ht, nI_add, nI_clamp (show t1 + k < 2 ^ 31 by omega), nI_clamp (show k < 2 ^ 31 by omega), nI_1]
      refine ⟨vm, fun z => absurd (show nI q ≤ nI k by rw [← h7]; exact z) (nI_ge (by omega) (by omega)), fun _ => ⟨vp_in_nI (by omega) (by decide), vp_in_nI (by omega) (by decide), ?_⟩⟩
      rintro σ1 rfl
      have := ih (k + 1) (by omega)
      rw [← fi_s (a := 92) (k := k)] at this
      rw [Ms_u (by decide)]
      exact this
  have L1 : ∀ d k, k + d = p → pz_WP 166 (108, [some (.ref 55), some (.int (nI m0)), some (.int (nI wh)), some (.int 1), some (.int (nI k))], []) (Ms T (fi (enM (fi (fi (g13 G) 93 60 (fun _ => 0)) 94 60 (fun _ => 0)) 0 (nI m0)) 91 k (fun y => G 78 (t1 + y)))) P := by
    intro d
    induction d with
    | zero =>
      intro k hk
      have : k = p := by omega
      subst this
      refine pv_166_108 _ _ _ _ _ _ ?_
      rw [cm]
      refine ⟨vm, fun _ => ?_, fun z => absurd (show _ ≤ _ from ?_) z⟩
      · have := L2 q 0 (by omega)
        rw [fi_0] at this
        exact this
      · exact h6 ▸ (nI_le (Nat.le_refl _) (by omega) : nI k ≤ nI k)
    | succ d ih =>
      intro k hk
      refine pv_166_108 _ _ _ _ _ _ ?_
      rw [cm, pk_mul, ← ht, nI_add, nI_clamp (show t1 + k < 2 ^ 31 by omega), nI_clamp (show k < 2 ^ 31 by omega), nI_1]
      refine ⟨vm, fun z => absurd (show nI p ≤ nI k by rw [← h6]; exact z) (nI_ge (by omega) (by omega)), fun _ => ⟨vp_in_nI (by omega) (by decide), vp_in_nI (by omega) (by decide), ?_⟩⟩
      rintro σ1 rfl
      have := ih (k + 1) (by omega)
      rw [← fi_s (a := 91) (k := k)] at this
      rw [Ms_u (by decide)]
      exact this
  have L0 : ∀ d k, k + d = 60 → pz_WP 166 (73, [some (.ref 55), some (.int (nI m0)), some (.int (nI wh)), some (.int (nI k)), none], []) (Ms T (fi (fi (g13 G) 93 k (fun _ => 0)) 94 k (fun _ => 0))) P := by
    intro d
    induction d with
    | zero =>
      intro k hk
      have : k = 60 := by omega
      subst this
      refine pv_166_73 _ _ _ _ _ ⟨fun _ => pz_ki (w_openM (d := 0) rfl (by decide) (nI m0)) ?_, fun z => absurd (Int32.le_refl _) z⟩
      have := L1 p 0 (by omega)
      rw [fi_0] at this
      exact this
    | succ d ih =>
      intro k hk
      refine pv_166_73 _ _ _ _ _ ?_
      rw [nI_clamp (show k < 2 ^ 31 by omega), nI_1]
      refine ⟨fun z => absurd z (nI_ge (by omega) (by decide)), fun _ => ⟨vp_in_nI (by omega) (by decide), ?_⟩⟩
      rintro σ2 rfl
      refine ⟨vp_in_nI (by omega) (by decide), ?_⟩
      rintro σ3 rfl
      have := ih (k + 1) (by omega)
      rw [← fi_2 (a := 93) (b := 94) (k := k) (by decide)] at this
      rw [Ms_u (by decide), Ms_u (by decide)]
      exact this
  refine pv_166 _ _ _ _ ?_
  rintro σ1 rfl σ2 rfl σ3 rfl σ4 rfl σ5 rfl σ6 rfl σ7 rfl σ8 rfl σ9 rfl σ10 rfl σ11 rfl σ12 rfl σ13 rfl
  have := L0 60 0 (by omega)
  rw [fi_0, fi_0] at this
  rw [Ms_u (by decide), Ms_u (by decide), Ms_u (by decide), Ms_u (by decide), Ms_u (by decide), Ms_u (by decide), Ms_u (by decide), Ms_u (by decide), Ms_u (by decide), Ms_u (by decide), Ms_u (by decide), Ms_u (by decide), Ms_u (by decide)]
  exact this
/-! both beside one another -/
theorem goF_o {F : iv_F} {m0 t1 p q : Nat} {wv : Int32} {a : Nat} (h : ¬ (39 ≤ a ∧ a ≤ 45)) : goF F m0 t1 p q wv a = F a := by
  unfold goF
  rw [fi_o (by omega), fi_o (by omega), fi_o (by omega), enC_o (by omega) (by omega) (by omega) (by omega) (by omega), fu_o (by omega), fu_o (by omega), fu_o (by omega), fu_o (by omega), fi_o (by omega)]
theorem goG_o {G : iv_F} {m0 t1 p q : Nat} {a : Nat} (h : ¬ (89 ≤ a ∧ a ≤ 94)) (h5 : a ≠ 55) : goG G m0 t1 p q a = G a := by
  unfold goG g13
  rw [fi_o (by omega), fi_o (by omega), enM_o (by omega) (by omega) (by omega) (by omega) (by omega), fi_o (by omega), fi_o (by omega), fu_o h5, fu_o h5, fu_o h5, fu_o h5, fu_o h5, fu_o h5, fu_o h5, fu_o h5, fu_o h5, fu_o h5, fu_o h5, fu_o h5, fu_o h5]
theorem goG_j {G : iv_F} {m0 t1 p q : Nat} {j : Nat} (h : j ≠ 41 ∧ ¬ (46 ≤ j ∧ j ≤ 55) ∧ j ≠ 58 ∧ j ≠ 59) : goG G m0 t1 p q 55 j = G 55 j := by
  unfold goG g13
  rw [fi_o (by decide), fi_o (by decide), enM_55 (by omega), fi_o (by decide), fi_o (by decide), fu_j (by omega), fu_j (by omega), fu_j (by omega), fu_j (by omega), fu_j (by omega), fu_j (by omega), fu_j (by omega), fu_j (by omega), fu_j (by omega), fu_j (by omega), fu_j (by omega), fu_j (by omega), fu_j (by omega)]
theorem rr_go {B : iv_F} {nt nf ns nm m0 t1 nx pr p q : Nat} {wv : Int32} {F G : iv_F} (hQ : rQ B nt nf ns nm m0 t1) (a1 : rFr B F G) (hw : iv_wd (mxf F G) nt ns nx) (hpr : rPr F G pr) (har : ∀ j, j < 6 → F 53 j = G 78 j ∧ G 79 j = F 54 j + 1 ∧ iv_rv nx (F 54 j)) (h17 : ∀ x, x < nx → F 17 x = B 17 x) (ep : B 6 m0 = nI p) (hp : p ≤ 3) (eq : B 7 m0 = nI q) (hq : q ≤ 3) (hwv : wv = 0 ∨ wv = 1) : RR B nt ns nm m0 t1 nx pr wv 1 nx 0 0 pr (goF F m0 t1 p q wv) (goG G m0 t1 p q) := by
  have ht1 := hQ.2.2.2.2.2.2
  have e54 : F 54 = B 54 := rKn a1 54 (by decide) rfl
  have f43 : ∀ y, y < 8 → goF F m0 t1 p q wv 43 y = if y < p then F 53 (t1 + y) else 0 := fun y hy => by
    show fi (fi (fi _ 43 p _) 44 q _) 45 q _ 43 y = _
    rw [fi_o (by decide), fi_o (by decide), fi_w]
    split
    · rfl
    · unfold enC
      rw [if_neg (fun z => absurd z.1 (by decide)), if_neg (fun z => absurd z.1 (by decide)), if_pos ⟨rfl, by omega, by omega⟩]
  have f44 : ∀ y, y < 8 → goF F m0 t1 p q wv 44 y = if y < q then F 54 (t1 + y) else -1 := fun y hy => by
    show fi (fi (fi _ 43 p _) 44 q _) 45 q _ 44 y = _
    rw [fi_o (by decide), fi_w]
    split
    · rfl
    · rw [fi_o (by decide)]
      unfold enC
      rw [if_neg (fun z => absurd z.1 (by decide)), if_pos ⟨rfl, by omega, by omega⟩]
  have g91 : ∀ y, y < 8 → goG G m0 t1 p q 91 y = if y < p then G 78 (t1 + y) else 0 := fun y hy => by
    show fi (fi _ 91 p _) 92 q _ 91 y = _
    rw [fi_o (by decide), fi_w]
    split
    · rfl
    · unfold enM
      rw [if_neg (fun z => absurd z.1 (by decide)), if_neg (fun z => absurd z.1 (by decide)), if_pos ⟨rfl, by omega, by omega⟩]
  have g92 : ∀ y, y < 8 → goG G m0 t1 p q 92 y = if y < q then G 79 (t1 + y) - 1 else -1 := fun y hy => by
    show fi (fi _ 91 p _) 92 q _ 92 y = _
    rw [fi_w]
    split
    · rfl
    · rw [fi_o (by decide)]
      unfold enM
      rw [if_neg (fun z => absurd z.1 (by decide)), if_pos ⟨rfl, by omega, by omega⟩]
  have g93 : ∀ x, x < 60 → goG G m0 t1 p q 93 x = 0 := fun x hx => by
    show fi (fi (enM (fi (fi (g13 G) 93 60 _) 94 60 _) 0 (nI m0)) 91 p _) 92 q _ 93 x = _
    rw [fi_o (by decide), fi_o (by decide), enM_o (by decide) (by decide) (by decide) (by decide) (by decide), fi_o (by decide), fi_i hx]
  have g94 : ∀ x, x < 60 → goG G m0 t1 p q 94 x = 0 := fun x hx => by
    show fi (fi (enM (fi (fi (g13 G) 93 60 _) 94 60 _) 0 (nI m0)) 91 p _) 92 q _ 94 x = _
    rw [fi_o (by decide), fi_o (by decide), enM_o (by decide) (by decide) (by decide) (by decide) (by decide), fi_i hx]
  have n60 : nx ≤ 60 := hw.1.2.2
  refine ⟨⟨fun a h1 h2 => ?_, fun a h1 h2 => ?_, fun j hj => ?_⟩, rWd_c (F := F) (G := G) (fun a h _ => goF_o (fun z => ?_)) (fun a h _ => goG_o (fun z => ?_) (fun z => ?_)) ?_ ?_ hw, ?_, ⟨⟨rfl, rfl, by decide⟩, fun i hi => ?_, fun j hj => ?_⟩, ⟨⟨rfl, rfl, by decide⟩, rfl, rfl, by decide⟩, ⟨⟨hw.1.1, hw.1.2.1, Nat.le_refl _⟩, hpr.2.1, ?_, Nat.le_refl _⟩, ⟨by show (0 : Int32) = 0 ||| 0; decide, by show (0 : Int32) = 0 ||| 0; decide⟩, ⟨rfl, rfl, fun _ => ⟨rfl, rfl⟩, 0, by decide, rfl, Or.inl rfl⟩, ⟨rfl, hwv, rfl, fun k hk => ?_, fun _ => rfl, fun _ => ⟨Or.inl rfl, fun z => absurd (show (0 : Int32) = 1 from z) (by decide), fun z => ?_⟩⟩, rfl, fun x hx => ?_⟩
  · rw [goF_o (fun z => by unfold rcN at h2; simp at h2; omega)]
    exact a1.1 a h1 h2
  · rw [goG_o (fun z => by unfold rgN at h2; simp at h2; omega) (fun e => by rw [e] at h2; cases h2)]
    exact a1.2.1 a h1 h2
  · rw [goG_j (j := j) ⟨fun e => (by rw [e] at hj; cases hj), fun z => (by unfold rjN at hj; simp at hj; omega), fun e => (by rw [e] at hj; cases hj), fun e => (by rw [e] at hj; cases hj)⟩]
    exact a1.2.2 j hj
  · unfold iv_wdN at h; simp at h; omega
  · unfold iv_wdN at h; simp at h; omega
  · rw [z] at h; cases h
  · rw [goF_o (by decide)]
  · exact goG_j (by decide)
  · unfold rPr
    rw [goF_o (by decide), goF_o (by decide), goG_j (by decide), goG_o (by decide) (by decide)]
    exact hpr
  · have hi8 : i < 8 := by omega
    rw [f43 i hi8, g91 i hi8, f44 i hi8, g92 i hi8]
    refine ⟨?_, ?_, ?_⟩
    · split
      · exact (har (t1 + i) (by omega)).1
      · rfl
    · split
      · rw [(har (t1 + i) (by omega)).2.1, qz_sub1]
      · rfl
    · split
      · exact (har (t1 + i) (by omega)).2.2
      · exact Or.inl rfl
  · have : j = 0 := by omega
    subst this
    exact ⟨m0, 0, 0, ⟨hQ.2.2.2.2.2.1, ⟨rfl, rfl⟩, ⟨rfl, rfl⟩, ⟨by decide, by decide⟩, Or.inl rfl⟩, fun z => absurd z (by omega)⟩
  · show (0 : Int32) = nI (pr - pr)
    rw [Nat.sub_self]
    rfl
  · rw [eq, nI_clamp (by omega)] at hk
    show fi _ 45 q _ 45 k = _
    rw [fi_i hk, e54]
  · rcases z with ⟨i, h1, -⟩ | ⟨i, h1, -⟩ | ⟨x, i, hx, ⟨h1, -⟩ | ⟨h1, -⟩⟩
    · exact absurd (show bB 0 i from h1) bB_n
    · exact absurd (show bB 0 i from h1) bB_n
    · rw [g93 x (by omega)] at h1
      exact absurd h1 bB_n
    · rw [g94 x (by omega)] at h1
      exact absurd h1 bB_n
  · rw [goF_o (by decide)]
    exact h17 x hx
