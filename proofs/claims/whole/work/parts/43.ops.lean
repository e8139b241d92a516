/-! ===== field ===== -/
theorem qz_fix (σ : pz_Sg) (a b n : Nat) (f : Nat → Int32) (h : f n = σ.1 a (b + n)) : qz_fi σ a b n f = qz_fi σ a b (n + 1) f := by
  refine Prod.ext (funext fun x => funext fun y => ?_) rfl
  show (if x = a ∧ b ≤ y ∧ y < b + n then f (y - b) else σ.1 x y) = (if x = a ∧ b ≤ y ∧ y < b + (n + 1) then f (y - b) else σ.1 x y)
  by_cases h1 : x = a
  · by_cases h2 : b ≤ y ∧ y < b + n
    · rw [if_pos ⟨h1, h2⟩, if_pos ⟨h1, by omega, by omega⟩]
    · by_cases h3 : y = b + n
      · rw [if_neg (fun z => h2 z.2), if_pos ⟨h1, by omega, by omega⟩, h1, h3, show b + n - b = n by omega, h]
      · rw [if_neg (fun z => h2 z.2), if_neg (by omega)]
  · rw [if_neg (fun z => h1 z.1), if_neg (fun z => h1 z.1)]
theorem qz_ge {x : Int32} {n k : Nat} (e : x = nI n) (h : k < n) (hn : n < 2 ^ 31) : ¬ x ≤ nI k := by
  rw [e]
  exact nI_ge h hn
/-- Program.isBelow -/
theorem w_isBelowC {σ : pz_Sg} {nt : Nat} (bt : nt ≤ 8) (H : iv_ty σ.1 nt) {t u : Nat} (ht : t < nt) (hu : u < 8) : pz_WP 58 (0, pz_en 3 [.ref 1, .int (nI t), .int (nI u)], []) σ (pz_is (some (.int (pz_b (iv_bl σ.1 t t u)))) σ) := by
  have e := (H t ht).2 u hu
  refine pv_58 _ _ σ _ ?_
  rw [nI_clamp (by omega)]
  exact ⟨vp_in_nI (by omega) (by decide), fun z => pz_yes (e.mp z), fun z => pz_no (fun q => z (e.mpr q))⟩
/-- THING x is an object of CLASS u, or of one below it -/
def qz_ob (F : iv_F) (nt : Nat) (x u : Nat) : Prop := ∃ t, t < nt ∧ F 17 x = nI t ∧ iv_bl F t t u
theorem qz_ob_o {F : iv_F} {nt x u t : Nat} (bt : nt ≤ 8) (ht : t < nt) (e : F 17 x = nI t) : qz_ob F nt x u ↔ iv_bl F t t u := by
  constructor
  · rintro ⟨t', ht', e', h⟩
    have : t = t' := (nI_eq (by omega) (by omega)).mp (e.symm.trans e')
    subst this
    exact h
  · intro h
    exact ⟨t, ht, e, h⟩
theorem qz_ob_a {F : iv_F} {nt x u n : Nat} (bt : nt ≤ 8) (hn : n ≤ 16) (e : F 17 x = -(nI 10) - nI n) : ¬ qz_ob F nt x u := by
  rintro ⟨t', ht', e', h⟩
  exact absurd (by rw [← e', e]; exact (qz_k10 n (by omega)).2.1) (nI_pos (n := t') (by omega))
/-- World.isObjectBelow -/
theorem w_isObjectBelow {σ : pz_Sg} {nt x u : Nat} {k i : Int32} (bt : nt ≤ 8) (H : iv_ty σ.1 nt) (hx : x < 60) (hk : qz_kd nt (σ.1 17 x) k i) (hu : u < 8) : pz_WP 75 (0, pz_en 4 [.ref 16, .ref 1, .int (nI x), .int (nI u)], []) σ (pz_is (some (.int (pz_b (qz_ob σ.1 nt x u)))) σ) := by
  refine pv_75 _ _ σ _ ⟨fun z => absurd z (nI_ne1 (by omega)), fun _ => pz_ki (w_isArray hx) ?_⟩
  rw [nI_clamp (by omega)]
  rcases hk with ⟨t, ht, e, -, -⟩ | ⟨n, hn, e, -, -⟩
  · rw [e, pz_b_c (qz_ob_o bt ht e)]
    exact ⟨fun _ => ⟨vp_in_nI hx (by decide), pz_ki (w_isBelowC bt H ht hu) pz_re⟩, fun z => absurd (pz_b_0.mpr (fun y => y (qz_nar t (by omega)))) z⟩
  · rw [e]
    exact ⟨fun z => absurd (Classical.not_not.mp (pz_b_0.mp z)) (qz_k10 n (by omega)).2.2.2, fun _ => pz_no (qz_ob_a bt hn e)⟩
theorem qz_ex {P : Nat → Prop} {k n : Nat} (hk : k < n) (h : ∀ x, x < k → ¬ P x) (hn : ¬ P k) : (∀ x, x < k + 1 → ¬ P x) := fun x hx => by
  by_cases e : x = k
  · subst e; exact hn
  · exact h x (by omega)
/-- World.hasObjectBelow -/
theorem w_hasObject {σ : pz_Sg} {nt nx u : Nat} (bt : nt ≤ 8) (bx : nx ≤ 60) (h16 : σ.1 16 0 = nI nx) (H : iv_ty σ.1 nt) (hw : ∀ x, x < nx → ∃ k i, qz_kd nt (σ.1 17 x) k i) (hu : u < 8) : pz_WP 77 (0, pz_en 4 [.ref 16, .ref 1, .int (nI u)], []) σ (pz_is (some (.int (pz_b (∃ x, x < nx ∧ qz_ob σ.1 nt x u)))) σ) := by
  have go : ∀ d k, k + d = nx → (∀ x, x < k → ¬ qz_ob σ.1 nt x u) → pz_WP 77 (2, [some (.ref 16), some (.ref 1), some (.int (nI u)), some (.int (nI k))], []) σ (pz_is (some (.int (pz_b (∃ x, x < nx ∧ qz_ob σ.1 nt x u)))) σ) := by
    intro d
    induction d with
    | zero =>
      intro k hk hP
      have hk : k = nx := by omega
      subst hk
      refine pv_77_2 _ _ σ _ ⟨fun _ => pz_no (fun ⟨x, hx, q⟩ => hP x hx q), fun z => absurd (by rw [h16]; exact Int32.le_refl _) z⟩
    | succ d ih =>
      intro k hk hP
      refine pv_77_2 _ _ σ _ ⟨fun z => absurd z (qz_ge h16 (by omega) (by omega)), fun _ => ?_⟩
      obtain ⟨k', i', hk'⟩ := hw k (by omega)
      refine pz_ki (w_isObjectBelow bt H (by omega) hk' hu) ⟨fun z => ?_, fun z => pz_yes ⟨k, by omega, Classical.not_not.mp fun q => z (pz_b_0.mpr q)⟩⟩
      rw [nI_1]
      exact ih (k + 1) (by omega) (qz_ex (n := nx) (by omega) hP (pz_b_0.mp z))
  exact pv_77 _ σ _ (go nx 0 (by omega) (fun x hx => absurd hx (Nat.not_lt_zero _)))
/-- Program.addField -/
noncomputable def qz_af (F : iv_F) (nf u : Nat) (t : Nat) : Int32 := @ite _ (iv_bl F t t u) (Classical.propDecidable _) (F 3 t ||| ((1 : Int32) <<< (nI nf &&& 31))) (F 3 t)
theorem qz_af_c {F F' : iv_F} {nf u : Nat} (h3 : ∀ t, F' 3 t = F 3 t) (h56 : ∀ t, F' 56 t = F 56 t) : qz_af F' nf u = qz_af F nf u := funext fun t => by
  by_cases h : iv_bl F t t u
  · have h' := (iv_bl_c h56 t t u).mpr h
    rw [show qz_af F' nf u t = F' 3 t ||| ((1 : Int32) <<< (nI nf &&& 31)) from if_pos h', show qz_af F nf u t = F 3 t ||| ((1 : Int32) <<< (nI nf &&& 31)) from if_pos h, h3]
  · have h' : ¬ iv_bl F' t t u := fun z => h ((iv_bl_c h56 t t u).mp z)
    rw [show qz_af F' nf u t = F' 3 t from if_neg h', show qz_af F nf u t = F 3 t from if_neg h, h3]
theorem w_addField {σ : pz_Sg} {nt nf u : Nat} (bt : nt ≤ 8) (hn : nf < 16) (h10 : σ.1 1 0 = nI nt) (h11 : σ.1 1 1 = nI nf) (H : iv_ty σ.1 nt) (hu : u < 8) {v : Int32} (hv : v = 0 ∨ v = 1) : pz_WP 60 (0, pz_en 4 [.ref 1, .int (nI u), .int v], []) σ (pz_is (some (.int (nI nf))) (pz_up (qz_fi (pz_up σ 4 nf v) 3 0 nt (qz_af σ.1 nf u)) 1 1 (nI (nf + 1)))) := by
  have cl : (nI nf).toNatClampNeg = nf := nI_clamp (by omega)
  have H' : iv_ty (pz_up σ 4 nf v).1 nt := iv_ty_d (F := σ.1) (fun _ => rfl) (fun _ => rfl) H
  have go : ∀ d k, k + d = nt → pz_WP 60 (12, [some (.ref 1), some (.int (nI u)), none, some (.int (nI k))], []) (qz_fi (pz_up σ 4 nf v) 3 0 k (qz_af σ.1 nf u)) (pz_is (some (.int (nI nf))) (pz_up (qz_fi (pz_up σ 4 nf v) 3 0 nt (qz_af σ.1 nf u)) 1 1 (nI (nf + 1)))) := by
    intro d
    induction d with
    | zero =>
      intro k hk
      have hk : k = nt := by omega
      subst hk
      refine pv_60_12 _ _ _ _ ⟨fun _ => ?_, fun z => absurd (by rw [show (qz_fi (pz_up σ 4 nf v) 3 0 k (qz_af σ.1 nf u)).1 1 0 = nI k from h10]; exact Int32.le_refl _) z⟩
      rintro σ1 rfl
      rw [show (qz_fi (pz_up σ 4 nf v) 3 0 k (qz_af σ.1 nf u)).1 1 1 = nI nf from h11, nI_1]
      exact ⟨rfl, rfl⟩
    | succ d ih =>
      intro k hk
      have ck : (nI k).toNatClampNeg = k := nI_clamp (by omega)
      refine pv_60_12 _ _ _ _ ⟨fun z => absurd z (qz_ge (n := nt) h10 (by omega) (by omega)), fun _ => pz_ki (w_isBelowC (σ := qz_fi (pz_up σ 4 nf v) 3 0 k (qz_af σ.1 nf u)) (nt := nt) (t := k) bt (iv_ty_d (F := σ.1) (fun _ => rfl) (fun _ => rfl) H) (by omega) hu) ?_⟩
      rw [pz_b_c (iv_bl_c (F := σ.1) (F' := (qz_fi (pz_up σ 4 nf v) 3 0 k (qz_af σ.1 nf u)).1) (fun _ => rfl) k k u), nI_1, ck, show (qz_fi (pz_up σ 4 nf v) 3 0 k (qz_af σ.1 nf u)).1 1 1 = nI nf from h11]
      refine ⟨fun z => ?_, fun z => ⟨vp_in_nI (by omega) (by decide), vp_in_nI (by omega) (by decide), ?_⟩⟩
      · have e : qz_af σ.1 nf u k = (pz_up σ 4 nf v).1 3 (0 + k) := by
          rw [Nat.zero_add]
          exact if_neg (pz_b_0.mp z)
        rw [qz_fix _ _ _ _ _ e]
        exact ih (k + 1) (by omega)
      · rintro σ3 rfl
        have e : (qz_fi (pz_up σ 4 nf v) 3 0 k (qz_af σ.1 nf u)).1 3 k = σ.1 3 k := qz_fio _ _ _ _ _ (by omega)
        rw [e]
        have e2 : qz_af σ.1 nf u k = σ.1 3 k ||| ((1 : Int32) <<< (nI nf &&& 31)) := if_pos (Classical.not_not.mp fun q => z (pz_b_0.mpr q))
        have e3 := qz_fis (pz_up σ 4 nf v) 3 0 k (qz_af σ.1 nf u)
        rw [Nat.zero_add, e2] at e3
        rw [e3]
        exact ih (k + 1) (by omega)
  refine pv_60 _ _ σ _ ?_
  rw [h11, cl]
  refine ⟨vp_in_nI hn (by decide), hv, ?_⟩
  rintro σ1 rfl
  have := go nt 0 (by omega)
  rw [qz_fi0] at this
  exact this
/-- the reference's walk over the THINGS -/
theorem w_fieldM {σ s2 : pz_Sg} {nt nx u : Nat} {r v : Int32} (bt : nt ≤ 8) (bx : nx ≤ 60) (h22 : σ.1 55 22 = nI nx) (H0 : iv_up0 σ.1 nt) (hw : ∀ x, x < nx → qz_kd nt (σ.1 17 x) (σ.1 73 x) (σ.1 74 x)) (hu : u < 8) {P : pz_Ps} (hyes : (∃ x, x < nx ∧ qz_ob σ.1 nt x u) → P (some (.int (-(nI 2)))) σ) (hno : (∀ x, x < nx → ¬ qz_ob σ.1 nt x u) → pz_WP 112 (32, [some (.ref 55), some (.int (nI u)), some (.int v), some (.int (nI nx))], []) σ P) : pz_WP 112 (32, [some (.ref 55), some (.int (nI u)), some (.int v), some (.int 0)], []) σ P := by
  have go : ∀ d k, k + d = nx → (∀ x, x < k → ¬ qz_ob σ.1 nt x u) → pz_WP 112 (32, [some (.ref 55), some (.int (nI u)), some (.int v), some (.int (nI k))], []) σ P := by
    intro d
    induction d with
    | zero =>
      intro k hk hP
      have hk : k = nx := by omega
      subst hk
      exact hno hP
    | succ d ih =>
      intro k hk hP
      have ck : (nI k).toNatClampNeg = k := nI_clamp (by omega)
      have vk : vp_in (nI k) 60 := vp_in_nI (by omega) (by decide)
      refine pv_112_32 _ _ _ _ _ ⟨fun z => absurd z (qz_ge h22 (by omega) (by omega)), fun _ => ⟨vk, ?_⟩⟩
      rw [ck, nI_1]
      rcases hw k (by omega) with ⟨t, ht, e, e2, -⟩ | ⟨n, hn, e, e2, -⟩
      · rw [e2]
        refine ⟨fun z => absurd z (nI_pos (by omega)), fun _ => ⟨vk, pz_ki (w_isBelowM bt H0 ht (by omega)) ⟨fun z => ?_, fun z => hyes ⟨k, by omega, (qz_ob_o bt ht e).mpr (Classical.not_not.mp fun q => z (pz_b_0.mpr q))⟩⟩⟩⟩
        exact ih (k + 1) (by omega) (qz_ex (n := nx) (by omega) hP (fun q => pz_b_0.mp z ((qz_ob_o bt ht e).mp q)))
      · rw [e2]
        exact ⟨fun _ => ih (k + 1) (by omega) (qz_ex (n := nx) (by omega) hP (qz_ob_a bt hn e)), fun z => absurd (by decide) z⟩
  exact go nx 0 (by omega) (fun x hx => absurd hx (Nat.not_lt_zero _))
theorem op_field (L : Nat) (ys : Nat → Int32) : pz_O1 (iv L ys) := by
  intro a v hv
  refine op_known fun σ n hn H => ?_
  have H' := iv_up H
  obtain ⟨h0, nt, nf, ns, nm, nx, h1, h2, h3, h4, h5, h6⟩ := H
  obtain ⟨⟨⟨c1, d1, b1⟩, ⟨c2, d2, b2⟩, t3, t4⟩, p2, p3, ⟨rf1, rf2, rs⟩, p5, p6, p7⟩ := id h1
  obtain ⟨⟨w1, w1', wb⟩, w2, w3, w4, w5, w6⟩ := id h2
  have hy := pz_byn (x := a) d1 (by omega)
  have cl : (nI nf).toNatClampNeg = nf := nI_clamp (by omega)
  by_cases g : vp_in a nt
  · obtain ⟨u, hu, rfl⟩ := vp_in_of g (by omega)
    by_cases h : nf < 16
    · have hC := w_hasObject (u := u) b1 wb w1 p2 (fun x hx => ⟨_, _, w2 x hx⟩) (by omega)
      by_cases q : ∃ x, x < nx ∧ qz_ob σ.1 nt x u
      · rw [pz_b_t q] at hC
        refine ⟨-(nI 2), σ, σ, pv_83 _ _ σ _ (pz_ki (w_isClass c1 (by omega) _) ⟨fun z => absurd g (pz_b_0.mp z), fun _ => ⟨fun _ => pz_ki hC ⟨fun z => absurd z (by decide), fun _ => ⟨rfl, rfl⟩⟩, fun z => absurd ((pz_lt8 c2 (by omega) (by decide)).mpr h) z⟩⟩), ⟨rfl, rfl⟩, pv_112 _ _ σ _ (pz_ki (w_beyond _ _ _ _) ⟨fun _ => ⟨fun z => absurd ((pz_eq8 d2 (by omega) (by decide)).mp z) (by omega), fun _ => ?_⟩, fun z => absurd (pz_b_0.mpr (fun y => hy.mp y g)) z⟩), H'⟩
        exact w_fieldM (s2 := σ) (r := 0) b1 wb w1' (iv_up0_of p2) w2 (by omega) (fun _ => ⟨rfl, rfl⟩) (fun z => absurd q (fun ⟨x, hx, y⟩ => z x hx y))
      · rw [pz_b_f q] at hC
        have q' : ∀ x, x < nx → ¬ qz_ob σ.1 nt x u := fun x hx y => q ⟨x, hx, y⟩
        have vi : vp_in (nI nf) 16 := vp_in_nI h (by decide)
        refine ⟨nI nf, pz_up (qz_fi (pz_up (pz_up σ 0 10 0) 4 nf v) 3 0 nt (qz_af σ.1 nf u)) 1 1 (nI (nf + 1)), pz_up (pz_up (pz_up (pz_up (pz_up (qz_fi (pz_up (pz_up σ 0 10 0) 4 nf v) 3 0 nt (qz_af σ.1 nf u)) 1 1 (nI (nf + 1))) 55 21 0) 57 nf (nI u)) 58 nf v) 55 2 (nI (nf + 1)), pv_83 _ _ σ _ (pz_ki (w_isClass c1 (by omega) _) ⟨fun z => absurd g (pz_b_0.mp z), fun _ => ⟨fun _ => pz_ki hC ⟨fun _ => ?_, fun z => absurd rfl z⟩, fun z => absurd ((pz_lt8 c2 (by omega) (by decide)).mpr h) z⟩⟩), ⟨rfl, rfl⟩, pv_112 _ _ _ _ (pz_ki (w_beyond _ _ _ _) ⟨fun _ => ⟨fun z => absurd ((pz_eq8 (x := σ.1 55 2) d2 (by omega) (by decide)).mp z) (by omega), fun _ => ?_⟩, fun z => absurd (pz_b_0.mpr (fun y => hy.mp y g)) z⟩), ?_⟩
        · rintro σ3 rfl
          have hA := w_addField (σ := pz_up σ 0 10 0) (u := u) b1 h c1 c2 (iv_ty_d (F := σ.1) (fun _ => rfl) (fun _ => rfl) p2) (by omega) hv
          rw [qz_af_c (F := σ.1) (F' := (pz_up σ 0 10 0).1) (fun _ => rfl) (fun _ => rfl)] at hA
          exact pz_ki hA ⟨rfl, rfl⟩
        · refine w_fieldM (σ := pz_up (qz_fi (pz_up (pz_up σ 0 10 0) 4 nf v) 3 0 nt (qz_af σ.1 nf u)) 1 1 (nI (nf + 1))) (s2 := σ) (r := 0) (nx := nx) (nt := nt) (u := u) b1 wb w1' (fun t ht => iv_up0_of p2 t ht) w2 (by omega) (fun ⟨x, hx, t, ht, e, y⟩ => absurd ⟨t, ht, e, (iv_bl_c (F := σ.1) (F' := (pz_up (qz_fi (pz_up (pz_up σ 0 10 0) 4 nf v) 3 0 nt (qz_af σ.1 nf u)) 1 1 (nI (nf + 1))).1) (fun _ => rfl) t t u).mp y⟩ (q' x hx)) (fun _ => ?_)
          refine pv_112_32 _ _ _ _ _ ⟨fun _ => ?_, fun z => absurd (by rw [show (pz_up (qz_fi (pz_up (pz_up σ 0 10 0) 4 nf v) 3 0 nt (qz_af σ.1 nf u)) 1 1 (nI (nf + 1))).1 55 22 = nI nx from w1']; exact Int32.le_refl _) z⟩
          rintro σ1 rfl
          rw [show (pz_up (pz_up (qz_fi (pz_up (pz_up σ 0 10 0) 4 nf v) 3 0 nt (qz_af σ.1 nf u)) 1 1 (nI (nf + 1))) 55 21 0).1 55 2 = nI nf from d2, cl]
          refine ⟨vi, ?_⟩
          rintro σ2 rfl
          rw [show (pz_up (pz_up (pz_up (qz_fi (pz_up (pz_up σ 0 10 0) 4 nf v) 3 0 nt (qz_af σ.1 nf u)) 1 1 (nI (nf + 1))) 55 21 0) 57 nf (nI u)).1 55 2 = nI nf from d2, cl]
          refine ⟨vi, hv, ?_⟩
          rintro σ3 rfl σ4 rfl
          rw [show (pz_up (pz_up (pz_up (pz_up (qz_fi (pz_up (pz_up σ 0 10 0) 4 nf v) 3 0 nt (qz_af σ.1 nf u)) 1 1 (nI (nf + 1))) 55 21 0) 57 nf (nI u)) 58 nf v).1 55 2 = nI nf from d2, nI_1]
          refine pz_ans ?_ rfl
          rw [qz_rs, qz_m1]
        · have g3 : ∀ t, t < nt → (pz_up (pz_up (pz_up (pz_up (pz_up (qz_fi (pz_up (pz_up σ 0 10 0) 4 nf v) 3 0 nt (qz_af σ.1 nf u)) 1 1 (nI (nf + 1))) 55 21 0) 57 nf (nI u)) 58 nf v) 55 2 (nI (nf + 1))).1 3 t = qz_af σ.1 nf u t := fun t ht => qz_fii (pz_up (pz_up σ 0 10 0) 4 nf v) 3 0 nt (qz_af σ.1 nf u) (Nat.zero_le _) (by omega)
          -- the bits of a CLASS's row of FIELDS
          have gb : ∀ t, t < nt → ∀ f, f < 16 → (iv_bt (qz_af σ.1 nf u t) f ↔ iv_bt (σ.1 3 t) f ∨ (f = nf ∧ iv_bl σ.1 t t u)) := by
            intro t ht f hf
            rw [iv_bt_i (by omega), iv_bt_i (by omega)]
            by_cases y : iv_bl σ.1 t t u
            · rw [show qz_af σ.1 nf u t = σ.1 3 t ||| ((1 : Int32) <<< (nI nf &&& 31)) from if_pos y, b_or, b_bit (by omega), Bool.or_eq_true, decide_eq_true_iff]
              exact or_congr Iff.rfl ⟨fun z => ⟨z, y⟩, fun z => z.1⟩
            · rw [show qz_af σ.1 nf u t = σ.1 3 t from if_neg y]
              exact ⟨fun z => Or.inl z, fun z => z.elim id (fun z => absurd z.2 y)⟩
          refine ⟨pz_ti_u (pz_ti_u (pz_ti_u (pz_ti_u (pz_ti_u (pz_ti_f (pz_ti_u (pz_ti_u h0 (by omega)) (by omega)) (by omega)) (by omega)) (by omega)) (by omega)) (by omega)) (by omega), nt, nf + 1, ns, nm, nx, ⟨⟨⟨c1, d1, b1⟩, ⟨rfl, rfl, by omega⟩, t3, t4⟩, iv_ty_d (F := σ.1) (fun _ => rfl) (fun _ => rfl) p2, ⟨fun f hf => ?_, fun t ht f hf => ?_⟩, ⟨fun f hf => ?_, fun f f1 f2 => ?_, rs⟩, p5, iv_ln_g (F := σ.1) (Nat.le_refl _) (Nat.le_succ _) (Nat.le_refl _) (Nat.le_refl _) (by omega) (by omega) (by omega) (fun m hm => rfl) (fun m a b => absurd a (by omega)) (fun _ => rfl) (fun _ => rfl) (fun _ => rfl) (fun _ => rfl) (fun _ => rfl) (fun _ => rfl) (fun _ => rfl) (fun _ => rfl) (fun x hx => ?_) (fun _ _ => rfl) (fun _ _ => rfl) (fun _ _ => rfl) (fun _ _ => rfl) p6, iv_ca_g (F := σ.1) (fun m hm => rfl) (fun m a b => absurd a (by omega)) (fun _ => rfl) (fun _ => rfl) (fun _ => rfl) (fun _ => rfl) (fun _ => rfl) p7⟩, ⟨⟨w1, w1', wb⟩, w2, w3, w4, fun x hx t ht e f hf hr hb => ?_, w6⟩, iv_pr_c (F := σ.1) (Nat.le_succ n) rfl rfl (fun _ => rfl) (fun _ => rfl) h3, iv_ar_c (F := σ.1) (fun _ => rfl) (fun _ => rfl) (fun _ => rfl) (fun _ => rfl) h4, iv_an_0 rfl rfl, iv_la_c (F := σ.1) (fun _ => rfl) (fun _ => rfl) rfl rfl h6⟩
          · by_cases e : f = nf
            · subst e
              exact ⟨u, hu, by simp [qz_rd]⟩
            · obtain ⟨t, ht, y⟩ := p3.1 f (by omega)
              exact ⟨t, ht, by simpa [qz_rd, e, qz_fi] using y⟩
          · rw [g3 t ht, gb t ht f hf, p3.2 t ht f hf, iv_bl_c (F := σ.1) (F' := (pz_up (pz_up (pz_up (pz_up (pz_up (qz_fi (pz_up (pz_up σ 0 10 0) 4 nf v) 3 0 nt (qz_af σ.1 nf u)) 1 1 (nI (nf + 1))) 55 21 0) 57 nf (nI u)) 58 nf v) 55 2 (nI (nf + 1))).1) (fun _ => rfl)]
            by_cases e : f = nf
            · subst e
              have e57 : (pz_up (pz_up (pz_up (pz_up (pz_up (qz_fi (pz_up (pz_up σ 0 10 0) 4 f v) 3 0 nt (qz_af σ.1 f u)) 1 1 (nI (f + 1))) 55 21 0) 57 f (nI u)) 58 f v) 55 2 (nI (f + 1))).1 57 f = nI u := by simp [qz_rd]
              rw [e57, nI_clamp (by omega)]
              exact ⟨fun z => z.elim (fun z => absurd z.1 (by omega)) (fun z => ⟨by omega, z.2⟩), fun z => Or.inr ⟨rfl, z.2⟩⟩
            · have e57 : (pz_up (pz_up (pz_up (pz_up (pz_up (qz_fi (pz_up (pz_up σ 0 10 0) 4 nf v) 3 0 nt (qz_af σ.1 nf u)) 1 1 (nI (nf + 1))) 55 21 0) 57 nf (nI u)) 58 nf v) 55 2 (nI (nf + 1))).1 57 f = σ.1 57 f := by simp [qz_rd, e, qz_fi]
              rw [e57]
              exact ⟨fun z => z.elim (fun z => ⟨by omega, z.2⟩) (fun z => absurd z.1 e), fun z => Or.inl ⟨by omega, z.2⟩⟩
          · by_cases e : f = nf
            · subst e
              simp [qz_rd, qz_fi]
              exact hv
            · simpa [qz_rd, e, qz_fi] using rf1 f hf
          · have e : ¬ f = nf := by omega
            simpa [qz_rd, e, qz_fi] using rf2 f (by omega) f2
          · have e : ¬ x = nf := by omega
            simp [qz_rd, e, qz_fi]
          · rw [g3 t ht] at hb
            have e' : σ.1 17 x = nI t := e
            rcases (gb t ht f hf).mp hb with hb | ⟨z1, z2⟩
            · have fn : f < nf := ((p3.2 t ht f hf).mp hb).1
              have e2 : ¬ f = nf := by omega
              have hr' : σ.1 4 f = 1 := by simpa [qz_rd, e2, qz_fi] using hr
              exact w5 x hx t ht e' f hf hr' hb
            · exact absurd ⟨t, ht, e', z2⟩ (q' x hx)
    · exact ⟨-(nI 3), σ, σ, pv_83 _ _ σ _ (pz_ki (w_isClass c1 (by omega) _) ⟨fun z => absurd g (pz_b_0.mp z), fun _ => ⟨fun z => absurd ((pz_lt8 c2 (by omega) (by decide)).mp z) h, fun _ => ⟨rfl, rfl⟩⟩⟩), ⟨rfl, rfl⟩, pv_112 _ _ σ _ (pz_ki (w_beyond _ _ _ _) ⟨fun _ => ⟨fun _ => ⟨rfl, rfl⟩, fun z => absurd ((pz_eq8 d2 (by omega) (by decide)).mpr (by omega)) z⟩, fun z => absurd (pz_b_0.mpr (fun y => hy.mp y g)) z⟩), H'⟩
  · exact ⟨-1, σ, σ, pv_83 _ _ σ _ (pz_ki (w_isClass c1 (by omega) _) ⟨fun _ => ⟨rfl, rfl⟩, fun z => absurd (pz_b_0.mpr g) z⟩), ⟨rfl, rfl⟩, pv_112 _ _ σ _ (pz_ki (w_beyond _ _ _ _) ⟨fun z => absurd (hy.mpr g) (pz_b_0.mp z), fun _ => ⟨rfl, rfl⟩⟩), H'⟩
