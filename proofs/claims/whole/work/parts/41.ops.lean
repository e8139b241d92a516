/-! ===== thing, array ===== -/
/-- a row of n numbers laid over a cell's, from b on -/
def qz_fi (σ : pz_Sg) (a b n : Nat) (f : Nat → Int32) : pz_Sg := (fun x y => if x = a ∧ b ≤ y ∧ y < b + n then f (y - b) else σ.1 x y, σ.2)
theorem qz_fi0 (σ : pz_Sg) (a b : Nat) (f : Nat → Int32) : qz_fi σ a b 0 f = σ := by
  refine Prod.ext (funext fun x => funext fun y => ?_) rfl
  show (if x = a ∧ b ≤ y ∧ y < b + 0 then _ else _) = _
  rw [if_neg (by omega)]
theorem qz_fis (σ : pz_Sg) (a b n : Nat) (f : Nat → Int32) : pz_up (qz_fi σ a b n f) a (b + n) (f n) = qz_fi σ a b (n + 1) f := by
  refine Prod.ext (funext fun x => funext fun y => ?_) rfl
  show (if x = a ∧ y = b + n then f n else (if x = a ∧ b ≤ y ∧ y < b + n then f (y - b) else σ.1 x y)) = (if x = a ∧ b ≤ y ∧ y < b + (n + 1) then f (y - b) else σ.1 x y)
  by_cases h1 : x = a
  · by_cases h2 : y = b + n
    · rw [if_pos ⟨h1, h2⟩, if_pos ⟨h1, by omega, by omega⟩, h2]
      congr 1
      omega
    · rw [if_neg (fun z => h2 z.2)]
      by_cases h3 : b ≤ y ∧ y < b + n
      · rw [if_pos ⟨h1, h3⟩, if_pos ⟨h1, by omega, by omega⟩]
      · rw [if_neg (fun z => h3 z.2), if_neg (by omega)]
  · rw [if_neg (fun z => h1 z.1), if_neg (fun z => h1 z.1), if_neg (fun z => h1 z.1)]
theorem qz_fin (σ : pz_Sg) (a b n : Nat) (f : Nat → Int32) {x : Nat} (h : x ≠ a) : (qz_fi σ a b n f).1 x = σ.1 x := funext fun y => if_neg (fun z => h z.1)
theorem qz_fii (σ : pz_Sg) (a b n : Nat) (f : Nat → Int32) {y : Nat} (h1 : b ≤ y) (h2 : y < b + n) : (qz_fi σ a b n f).1 a y = f (y - b) := if_pos ⟨rfl, h1, h2⟩
theorem qz_fio (σ : pz_Sg) (a b n : Nat) (f : Nat → Int32) {y : Nat} (h : ¬ (b ≤ y ∧ y < b + n)) : (qz_fi σ a b n f).1 a y = σ.1 a y := if_neg (fun z => h z.2)
theorem qz_fr2 {N : Nat → Bool} {σ σ' : pz_Sg} (h : qz_fr N σ σ') {a : Nat} (ha : N a = false) {b n : Nat} {f : Nat → Int32} : qz_fr N σ (qz_fi σ' a b n f) := fun x hx i => by
  rw [qz_fin _ _ _ _ _ (fun e => by rw [e, ha] at hx; cases hx)]
  exact h x hx i
theorem pz_ti_f {L : Nat} {ys : Nat → Int32} {σ : pz_Sg} (h : pz_ti L ys σ) {a b n : Nat} {f : Nat → Int32} (ha : a < 103) : pz_ti L ys (qz_fi σ a b n f) := pz_ti_k h ha (fun x hx => ⟨qz_fin _ _ _ _ _ hx, rfl⟩)
/-- what place k of a new THING holds -/
noncomputable def qz_in0 (F : iv_F) (ob : Prop) (k : Nat) : Int32 := @ite _ (ob ∧ ¬ F 4 k = 0) (Classical.propDecidable _) (-1) 0
theorem qz_in0_t {F : iv_F} {ob : Prop} {k : Nat} (h : ob) (h2 : ¬ F 4 k = 0) : qz_in0 F ob k = -1 := if_pos ⟨h, h2⟩
theorem qz_in0_f {F : iv_F} {ob : Prop} {k : Nat} (h : ¬ (ob ∧ ¬ F 4 k = 0)) : qz_in0 F ob k = 0 := if_neg h
theorem w_make1 {F : iv_F} {nx : Nat} (hn : nx < 60) {ob : Prop} {s : Int32} (hs : s = 0 ↔ ¬ ob) (f : Nat → Int32) (hf : f = qz_in0 F ob) {σ : pz_Sg} (h : σ.1 16 0 = nI nx) (h4 : σ.1 4 = F 4) : ∀ d k, k + d = 16 → pz_WP 80 (25, [some (.ref 16), some (.ref 1), none, some (.int s), some (.int (nI k))], []) (qz_fi σ 18 (16 * nx) k f) (pz_is (some (.int (nI nx))) (pz_up (qz_fi σ 18 (16 * nx) 16 f) 16 0 (nI (nx + 1)))) := by
  intro d
  induction d with
  | zero =>
    intro k hk
    have hk : k = 16 := by omega
    subst hk
    refine pv_80_25 _ _ _ _ ⟨fun _ => ?_, fun z => absurd (by decide) z⟩
    rintro σ1 rfl
    rw [show (qz_fi σ 18 (16 * nx) 16 f).1 16 0 = nI nx from h, nI_1]
    exact ⟨rfl, rfl⟩
  | succ d ih =>
    intro k hk
    have k16 : k < 16 := by omega
    have cl : (nI k).toNatClampNeg = k := nI_clamp (by omega)
    have ix : nI nx * nI 16 + nI k = nI (16 * nx + k) := by rw [pk_mul, nI_add, Nat.mul_comm]
    have cx : (nI (16 * nx + k)).toNatClampNeg = 16 * nx + k := nI_clamp (by omega)
    have vi : vp_in (nI (16 * nx + k)) 960 := vp_in_nI (by omega) (by decide)
    refine pv_80_25 _ _ _ _ ⟨fun z => absurd z (nI_ge k16 (by decide)), fun _ => ?_⟩
    rw [show (qz_fi σ 18 (16 * nx) k f).1 16 0 = nI nx from h, ix, cx, cl, show (qz_fi σ 18 (16 * nx) k f).1 4 k = F 4 k from congrFun h4 k, nI_1]
    have go : ∀ v : Int32, f k = v → ∀ σ2 : pz_Sg, σ2 = pz_up (qz_fi σ 18 (16 * nx) k f) 18 (16 * nx + k) v → pz_WP 80 (25, [some (.ref 16), some (.ref 1), none, some (.int s), some (.int (nI (k + 1)))], []) σ2 (pz_is (some (.int (nI nx))) (pz_up (qz_fi σ 18 (16 * nx) 16 f) 16 0 (nI (nx + 1)))) := by
      rintro v hv σ2 rfl
      rw [← hv, qz_fis]
      exact ih (k + 1) (by omega)
    refine ⟨fun z => ⟨vi, go 0 ?_⟩, fun z => ⟨vp_in_nI k16 (by decide), fun y => ⟨vi, go 0 ?_⟩, fun y => ⟨vi, go (-1) ?_⟩⟩⟩
    · rw [hf]; exact qz_in0_f (fun q => hs.mp z q.1)
    · rw [hf]; exact qz_in0_f (fun q => q.2 y)
    · rw [hf]; exact qz_in0_t (Classical.not_not.mp fun q => z (hs.mpr q)) y
/-- World.make -/
theorem w_make {σ : pz_Sg} {nx : Nat} (hn : nx < 60) (h : σ.1 16 0 = nI nx) (v : Int32) : pz_WP 80 (0, pz_en 5 [.ref 16, .ref 1, .int v], []) σ (pz_is (some (.int (nI nx))) (pz_up (qz_fi (pz_up σ 17 nx v) 18 (16 * nx) 16 (qz_in0 σ.1 (¬ v ≤ -(nI 10)))) 16 0 (nI (nx + 1)))) := by
  have cl : (nI nx).toNatClampNeg = nx := nI_clamp (by omega)
  have go : ∀ s : Int32, (s = 0 ↔ ¬ ¬ v ≤ -(nI 10)) → pz_WP 80 (11, [some (.ref 16), some (.ref 1), some (.int v), none, none], [.int s]) σ (pz_is (some (.int (nI nx))) (pz_up (qz_fi (pz_up σ 17 nx v) 18 (16 * nx) 16 (qz_in0 σ.1 (¬ v ≤ -(nI 10)))) 16 0 (nI (nx + 1)))) := by
    intro s hs
    refine pv_80_11 _ _ σ _ ?_
    rw [h, cl]
    refine ⟨vp_in_nI hn (by decide), ?_⟩
    rintro σ1 rfl
    have := w_make1 (F := σ.1) hn hs _ rfl (σ := pz_up σ 17 nx v) h rfl 16 0 rfl
    rw [qz_fi0] at this
    exact this
  exact pv_80 v σ _ ⟨fun z => go 0 ⟨fun _ q => q z, fun _ => rfl⟩, fun z => go 1 ⟨fun q => absurd q (by decide), fun q => absurd z q⟩⟩
theorem w_clear1 {F : iv_F} {nx nf : Nat} (hn : nx < 60) {ob : Prop} (f : Nat → Int32) (hf : f = qz_in0 F ob) {σ : pz_Sg} (h : σ.1 73 nx < 0 ↔ ¬ ob) (h2 : σ.1 55 2 = nI nf) (bf : nf ≤ 16) (h58 : ∀ k, k < 16 → σ.1 58 k = F 4 k) (hz : ∀ k, nf ≤ k → k < 16 → F 4 k = 0) : ∀ d k, k + d = 16 → pz_WP 122 (2, [some (.ref 55), some (.int (nI nx)), some (.int (nI k))], []) (qz_fi σ 75 (16 * nx) k f) (pz_is none (qz_fi σ 75 (16 * nx) 16 f)) := by
  intro d
  induction d with
  | zero =>
    intro k hk
    have hk : k = 16 := by omega
    subst hk
    exact pv_122_2 _ _ _ _ ⟨fun _ => ⟨rfl, rfl⟩, fun z => absurd (by decide) z⟩
  | succ d ih =>
    intro k hk
    have k16 : k < 16 := by omega
    have cl : (nI k).toNatClampNeg = k := nI_clamp (by omega)
    have cn : (nI nx).toNatClampNeg = nx := nI_clamp (by omega)
    have ix : nI 16 * nI nx + nI k = nI (16 * nx + k) := by rw [pk_mul, nI_add]
    have cx : (nI (16 * nx + k)).toNatClampNeg = 16 * nx + k := nI_clamp (by omega)
    have vi : vp_in (nI (16 * nx + k)) 960 := vp_in_nI (by omega) (by decide)
    refine pv_122_2 _ _ _ _ ⟨fun z => absurd z (nI_ge k16 (by decide)), fun _ => ?_⟩
    rw [cn, show (qz_fi σ 75 (16 * nx) k f).1 73 nx = σ.1 73 nx from rfl, ix, cx, cl, show (qz_fi σ 75 (16 * nx) k f).1 58 k = F 4 k from h58 k k16, nI_1, show (qz_fi σ 75 (16 * nx) k f).1 55 2 = nI nf from h2]
    have go : ∀ v : Int32, f k = v → ∀ σ2 : pz_Sg, σ2 = pz_up (qz_fi σ 75 (16 * nx) k f) 75 (16 * nx + k) v → pz_WP 122 (2, [some (.ref 55), some (.int (nI nx)), some (.int (nI (k + 1)))], []) σ2 (pz_is none (qz_fi σ 75 (16 * nx) 16 f)) := by
      rintro v hv σ2 rfl
      rw [← hv, qz_fis]
      exact ih (k + 1) (by omega)
    refine ⟨vp_in_nI hn (by decide), fun z => ⟨vi, go 0 ?_⟩, fun z => ⟨fun y => ⟨vi, go 0 ?_⟩, fun y => ⟨vp_in_nI k16 (by decide), fun u => ⟨vi, go 0 ?_⟩, fun u => ⟨vi, go (-1) ?_⟩⟩⟩⟩
    · rw [hf]; exact qz_in0_f (fun q => h.mp z q.1)
    · rw [hf]; exact qz_in0_f (fun q => q.2 (hz k ((nI_leI (by omega) (by omega)).mp y) k16))
    · rw [hf]; exact qz_in0_f (fun q => q.2 u)
    · rw [hf]; exact qz_in0_t (Classical.not_not.mp fun q => z (h.mpr q)) u
/-- the reference's clearThing -/
theorem w_clear {σ : pz_Sg} {F : iv_F} {nx nf : Nat} (hn : nx < 60) {ob : Prop} (h : σ.1 73 nx < 0 ↔ ¬ ob) (h2 : σ.1 55 2 = nI nf) (bf : nf ≤ 16) (h58 : ∀ k, k < 16 → σ.1 58 k = F 4 k) (hz : ∀ k, nf ≤ k → k < 16 → F 4 k = 0) : pz_WP 122 (0, pz_en 3 [.ref 55, .int (nI nx)], []) σ (pz_is none (qz_fi σ 75 (16 * nx) 16 (qz_in0 F ob))) := by
  have := w_clear1 (F := F) hn _ rfl h h2 bf h58 hz 16 0 rfl
  rw [qz_fi0] at this
  exact pv_122 _ σ _ this
/-- a new THING's kind, as both tell it: an object of a CLASS, or an array -/
def qz_kd (nt : Nat) (c k i : Int32) : Prop := (∃ t, t < nt ∧ c = nI t ∧ k = nI t ∧ i = 0) ∨ (∃ n, n ≤ 16 ∧ c = -(nI 10) - nI n ∧ k = -1 ∧ i = nI n)
theorem qz_k10 : ∀ n, n < 17 → -(nI 10) - nI n ≤ -(nI 10) ∧ (-(nI 10) - nI n < 0) ∧ -(nI 10) - (-(nI 10) - nI n) = nI n ∧ ¬ -(nI 10) < -(nI 10) - nI n := by decide +kernel
theorem qz_kd_o {nt : Nat} {c k i : Int32} (bt : nt ≤ 8) (h : qz_kd nt c k i) : (¬ c ≤ -(nI 10)) ↔ ¬ k < 0 := by
  rcases h with ⟨t, ht, rfl, rfl, rfl⟩ | ⟨n, hn, rfl, rfl, rfl⟩
  · exact ⟨fun _ => nI_pos (by omega), fun _ => (by decide +kernel : ∀ t, t < 8 → ¬ nI t ≤ -(nI 10)) t (by omega)⟩
  · exact ⟨fun z => absurd (qz_k10 n (by omega)).1 z, fun z => absurd (by decide) z⟩
/-- the world with one THING more, class's part and reference's -/
noncomputable def qz_mkC (σ : pz_Sg) (nx : Nat) (c : Int32) : pz_Sg := pz_up (qz_fi (pz_up σ 17 nx c) 18 (16 * nx) 16 (qz_in0 σ.1 (¬ c ≤ -(nI 10)))) 16 0 (nI (nx + 1))
noncomputable def qz_mkM (F : iv_F) (σ : pz_Sg) (nx : Nat) (c k i : Int32) : pz_Sg := pz_up (qz_fi (pz_up (pz_up σ 73 nx k) 74 nx i) 75 (16 * nx) 16 (qz_in0 F (¬ c ≤ -(nI 10)))) 55 22 (nI (nx + 1))
theorem iv_wd_mk {σ : pz_Sg} {nt nf ns nx : Nat} (bt : nt ≤ 8) (hn : nx < 60) {c k i : Int32} (hk : qz_kd nt c k i) (H : iv_wd σ.1 nt ns nx) (hr : iv_rf σ.1 nf) : iv_wd (qz_mkM σ.1 (qz_mkC σ nx c) nx c k i).1 nt ns (nx + 1) := by
  obtain ⟨w1, w2, w3, w4, w5, w6⟩ := H
  have g17 : ∀ x, (qz_mkM σ.1 (qz_mkC σ nx c) nx c k i).1 17 x = (pz_up σ 17 nx c).1 17 x := fun _ => rfl
  have g73 : ∀ x, (qz_mkM σ.1 (qz_mkC σ nx c) nx c k i).1 73 x = (pz_up σ 73 nx k).1 73 x := fun _ => rfl
  have g74 : ∀ x, (qz_mkM σ.1 (qz_mkC σ nx c) nx c k i).1 74 x = (pz_up σ 74 nx i).1 74 x := fun _ => rfl
  have g18 : ∀ j, (qz_mkM σ.1 (qz_mkC σ nx c) nx c k i).1 18 j = (qz_fi σ 18 (16 * nx) 16 (qz_in0 σ.1 (¬ c ≤ -(nI 10)))).1 18 j := fun _ => rfl
  have g75 : ∀ j, (qz_mkM σ.1 (qz_mkC σ nx c) nx c k i).1 75 j = (qz_fi σ 75 (16 * nx) 16 (qz_in0 σ.1 (¬ c ≤ -(nI 10)))).1 75 j := fun _ => rfl
  refine ⟨⟨rfl, rfl, by omega⟩, fun x hx => ?_, fun j hj => ?_, w4, fun x hx t ht h0 f hf hr1 hb => ?_, fun s hs hr1 => iv_rv_le (w6 s hs hr1) (Nat.le_succ _)⟩
  · rw [g17, g73, g74]
    by_cases q : x = nx
    · subst q
      rw [qz_rs, qz_rs, qz_rs]
      exact hk
    · simp only [qz_rd, q, and_false, if_false]
      exact w2 x (by omega)
  · rw [g18, g75]
    by_cases q : 16 * nx ≤ j
    · rw [qz_fii _ _ _ _ _ q (by omega), qz_fii _ _ _ _ _ q (by omega)]
    · rw [qz_fio _ _ _ _ _ (fun z => q z.1), qz_fio _ _ _ _ _ (fun z => q z.1)]
      exact w3 j (by omega)
  · rw [g18]
    rw [g17] at h0
    have hr2 : σ.1 4 f = 1 := hr1
    by_cases q : x = nx
    · subst q
      rw [qz_rs] at h0
      rw [qz_fii _ _ _ _ _ (by omega) (by omega), show 16 * x + f - 16 * x = f by omega, qz_in0_t (by rw [h0]; exact (by decide +kernel : ∀ t, t < 8 → ¬ nI t ≤ -(nI 10)) t (by omega)) (by rw [hr2]; decide)]
      exact Or.inl rfl
    · rw [qz_fio _ _ _ _ _ (by omega)]
      simp only [qz_rd, q, and_false, if_false] at h0
      exact iv_rv_le (w5 x (by omega) t ht h0 f hf hr2 hb) (Nat.le_succ _)
theorem iv_mk {L : Nat} {ys : Nat → Int32} {n : Nat} {σ : pz_Sg} {nt nf ns nm nx : Nat} (h0 : pz_ti L ys σ) (h1 : iv_pg σ.1 nt nf ns nm) (h2 : iv_wd σ.1 nt ns nx) (h3 : iv_pr σ.1 n) (h4 : iv_ar σ.1 nx) (h5 : iv_an σ nm) (h6 : iv_la σ.1) (hn : nx < 60) {c k i : Int32} (hk : qz_kd nt c k i) : iv L ys (n + 1) (qz_mkM σ.1 (qz_mkC σ nx c) nx c k i) := by
  refine ⟨?_, nt, nf, ns, nm, nx + 1, iv_pg_c (F := σ.1) (qz_fr1 (qz_fr2 (qz_fr1 (qz_fr1 (qz_fr1 (qz_fr2 (qz_fr1 qz_fr0 rfl) rfl) rfl) rfl) rfl) rfl) rfl) (fun _ _ => rfl) rfl rfl rfl rfl h1, iv_wd_mk h1.1.1.2.2 hn hk h2 h1.2.2.2.1, iv_pr_c (F := σ.1) (Nat.le_succ n) rfl rfl (fun _ => rfl) (fun _ => rfl) h3, fun j hj => ?_, iv_an_c (σ := σ) (qz_fr1 (qz_fr2 (qz_fr1 (qz_fr1 (qz_fr1 (qz_fr2 (qz_fr1 qz_fr0 rfl) rfl) rfl) rfl) rfl) rfl) rfl) rfl rfl (fun _ => rfl) h5, iv_la_c (F := σ.1) (fun _ => rfl) (fun _ => rfl) rfl rfl h6⟩
  · exact pz_ti_u (pz_ti_f (pz_ti_u (pz_ti_u (pz_ti_u (pz_ti_f (pz_ti_u h0 (by omega)) (by omega)) (by omega)) (by omega)) (by omega)) (by omega)) (by omega)
  · obtain ⟨a1, a2, a3⟩ := h4 j hj
    exact ⟨a1, a2, iv_rv_le a3 (Nat.le_succ _)⟩
/-- the reference's part of both: kind, items, cleared, counted -/
theorem w_mkM {σ : pz_Sg} {F : iv_F} {nt nf nx : Nat} (bt : nt ≤ 8) (hn : nx < 60) {c k i : Int32} (hk : qz_kd nt c k i) (h2 : σ.1 55 2 = nI nf) (bf : nf ≤ 16) (h58 : ∀ k, k < 16 → σ.1 58 k = F 4 k) (hz : ∀ k, nf ≤ k → k < 16 → F 4 k = 0) : pz_WP 122 (0, pz_en 3 [.ref 55, .int (nI nx)], []) (pz_up (pz_up σ 73 nx k) 74 nx i) (pz_is none (qz_fi (pz_up (pz_up σ 73 nx k) 74 nx i) 75 (16 * nx) 16 (qz_in0 F (¬ c ≤ -(nI 10))))) := by
  refine w_clear hn ?_ h2 bf h58 hz
  have e : (pz_up (pz_up σ 73 nx k) 74 nx i).1 73 nx = k := qz_rs _ _ _ _
  rw [e, qz_kd_o bt hk, Classical.not_not]
theorem op_thing (L : Nat) (ys : Nat → Int32) : pz_O6 (iv L ys) := by
  intro v
  refine op_known fun σ n hn H => ?_
  have H' := iv_up H
  obtain ⟨h0, nt, nf, ns, nm, nx, h1, h2, h3, h4, h5, h6⟩ := H
  obtain ⟨⟨⟨c1, d1, b1⟩, ⟨c2, d2, b2⟩, -⟩, -, -, ⟨rf1, rf2, -⟩, -⟩ := id h1
  obtain ⟨⟨w1, w1', wb⟩, -⟩ := id h2
  have hy := pz_byn (x := v) d1 (by omega)
  have cl : (nI nx).toNatClampNeg = nx := nI_clamp (by omega)
  by_cases g : vp_in v nt
  · by_cases h : nx < 60
    · obtain ⟨t, ht, rfl⟩ := vp_in_of g (by omega)
      have hk : qz_kd nt (nI t) (nI t) 0 := Or.inl ⟨t, ht, rfl, rfl, rfl⟩
      have vi : vp_in (nI nx) 60 := vp_in_nI h (by decide)
      refine ⟨nI nx, qz_mkC σ nx (nI t), qz_mkM σ.1 (qz_mkC σ nx (nI t)) nx (nI t) (nI t) 0, pv_88 _ σ _ (pz_ki (w_isClass c1 (by omega) _) ⟨fun z => absurd g (pz_b_0.mp z), fun _ => ⟨fun _ => pz_ki (w_make h w1 _) ⟨rfl, rfl⟩, fun z => absurd ((pz_lt8 w1 (by omega) (by decide)).mpr h) z⟩⟩), ⟨rfl, rfl⟩, pv_123 _ _ _ (pz_ki (w_beyond _ _ _ _) ⟨fun _ => ⟨fun z => absurd ((pz_eq8 (x := σ.1 55 22) w1' (by omega) (by decide)).mp z) (by omega), fun _ => ?_⟩, fun z => absurd (pz_b_0.mpr (fun q => hy.mp q g)) z⟩), iv_mk h0 h1 h2 h3 h4 h5 h6 h hk⟩
      rw [show (qz_mkC σ nx (nI t)).1 55 22 = nI nx from w1', cl]
      refine ⟨vi, ?_⟩
      rintro σ2 rfl
      rw [show (pz_up (qz_mkC σ nx (nI t)) 73 nx (nI t)).1 55 22 = nI nx from w1', cl]
      refine ⟨vi, ?_⟩
      rintro σ3 rfl
      rw [show (pz_up (pz_up (qz_mkC σ nx (nI t)) 73 nx (nI t)) 74 nx 0).1 55 22 = nI nx from w1']
      refine pz_kv (w_mkM (σ := qz_mkC σ nx (nI t)) (F := σ.1) b1 h hk d2 b2 (fun k hk => (rf1 k hk).1.symm) rf2) ?_
      rintro σ5 rfl
      rw [show (qz_fi (pz_up (pz_up (qz_mkC σ nx (nI t)) 73 nx (nI t)) 74 nx 0) 75 (16 * nx) 16 (qz_in0 σ.1 (¬ nI t ≤ -(nI 10)))).1 55 22 = nI nx from w1', nI_1]
      refine pz_ans ?_ rfl
      rw [qz_rs, qz_m1]
    · exact ⟨-(nI 3), σ, σ, pv_88 _ σ _ (pz_ki (w_isClass c1 (by omega) _) ⟨fun z => absurd g (pz_b_0.mp z), fun _ => ⟨fun z => absurd ((pz_lt8 w1 (by omega) (by decide)).mp z) h, fun _ => ⟨rfl, rfl⟩⟩⟩), ⟨rfl, rfl⟩, pv_123 _ σ _ (pz_ki (w_beyond _ _ _ _) ⟨fun _ => ⟨fun _ => ⟨rfl, rfl⟩, fun z => absurd ((pz_eq8 (x := σ.1 55 22) w1' (by omega) (by decide)).mpr (by omega)) z⟩, fun z => absurd (pz_b_0.mpr (fun q => hy.mp q g)) z⟩), H'⟩
  · exact ⟨-1, σ, σ, pv_88 _ σ _ (pz_ki (w_isClass c1 (by omega) _) ⟨fun _ => ⟨rfl, rfl⟩, fun z => absurd (pz_b_0.mpr g) z⟩), ⟨rfl, rfl⟩, pv_123 _ σ _ (pz_ki (w_beyond _ _ _ _) ⟨fun z => absurd (hy.mpr g) (pz_b_0.mp z), fun _ => ⟨rfl, rfl⟩⟩), H'⟩
theorem op_array (L : Nat) (ys : Nat → Int32) : pz_O7 (iv L ys) := by
  intro v
  refine op_known fun σ n hn H => ?_
  have H' := iv_up H
  obtain ⟨h0, nt, nf, ns, nm, nx, h1, h2, h3, h4, h5, h6⟩ := H
  obtain ⟨⟨⟨c1, d1, b1⟩, ⟨c2, d2, b2⟩, -⟩, -, -, ⟨rf1, rf2, -⟩, -⟩ := id h1
  obtain ⟨⟨w1, w1', wb⟩, -⟩ := id h2
  have e1 : vp_in v (16 + 1) ↔ ¬ v < 0 ∧ ¬ nI 16 < v := pz_to (by decide)
  have e1' : v ≤ nI 16 ↔ ¬ nI 16 < v := Int32.not_lt.symm
  have hy : (v.toInt64 < (0 : Int64) ∨ lN 16 < v.toInt64) ↔ ¬ vp_in v (16 + 1) := pz_byc (by decide)
  have cl : (nI nx).toNatClampNeg = nx := nI_clamp (by omega)
  by_cases g : vp_in v 17
  · have g1 := e1.mp g
    by_cases h : nx < 60
    · obtain ⟨t, ht, rfl⟩ := vp_in_of g (by omega)
      have hk : qz_kd nt (-(nI 10) - nI t) (-1) (nI t) := Or.inr ⟨t, by omega, rfl, rfl, rfl⟩
      have vi : vp_in (nI nx) 60 := vp_in_nI h (by decide)
      refine ⟨nI nx, qz_mkC σ nx (-(nI 10) - nI t), qz_mkM σ.1 (qz_mkC σ nx (-(nI 10) - nI t)) nx (-(nI 10) - nI t) (-1) (nI t), pv_89 _ σ _ ⟨fun z => absurd z g1.1, fun _ => ⟨fun _ => ⟨fun _ => pz_ki (w_make h w1 _) ⟨rfl, rfl⟩, fun z => absurd ((pz_lt8 w1 (by omega) (by decide)).mpr h) z⟩, fun z => absurd (e1'.mpr g1.2) z⟩⟩, ⟨rfl, rfl⟩, pv_124 _ _ _ (pz_ki (w_beyond _ _ _ _) ⟨fun _ => ⟨fun z => absurd ((pz_eq8 (x := σ.1 55 22) w1' (by omega) (by decide)).mp z) (by omega), fun _ => ?_⟩, fun z => absurd (pz_b_0.mpr (fun q => hy.mp q g)) z⟩), iv_mk h0 h1 h2 h3 h4 h5 h6 h hk⟩
      rw [show (qz_mkC σ nx (-(nI 10) - nI t)).1 55 22 = nI nx from w1', cl]
      refine ⟨vi, ?_⟩
      rintro σ2 rfl
      rw [show (pz_up (qz_mkC σ nx (-(nI 10) - nI t)) 73 nx (-1)).1 55 22 = nI nx from w1', cl]
      refine ⟨vi, ?_⟩
      rintro σ3 rfl
      rw [show (pz_up (pz_up (qz_mkC σ nx (-(nI 10) - nI t)) 73 nx (-1)) 74 nx (nI t)).1 55 22 = nI nx from w1']
      refine pz_kv (w_mkM (σ := qz_mkC σ nx (-(nI 10) - nI t)) (F := σ.1) b1 h hk d2 b2 (fun k hk => (rf1 k hk).1.symm) rf2) ?_
      rintro σ5 rfl
      rw [show (qz_fi (pz_up (pz_up (qz_mkC σ nx (-(nI 10) - nI t)) 73 nx (-1)) 74 nx (nI t)) 75 (16 * nx) 16 (qz_in0 σ.1 (¬ -(nI 10) - nI t ≤ -(nI 10)))).1 55 22 = nI nx from w1', nI_1]
      refine pz_ans ?_ rfl
      rw [qz_rs, qz_m1]
    · exact ⟨-(nI 3), σ, σ, pv_89 _ σ _ ⟨fun z => absurd z g1.1, fun _ => ⟨fun _ => ⟨fun z => absurd ((pz_lt8 w1 (by omega) (by decide)).mp z) h, fun _ => ⟨rfl, rfl⟩⟩, fun z => absurd (e1'.mpr g1.2) z⟩⟩, ⟨rfl, rfl⟩, pv_124 _ σ _ (pz_ki (w_beyond _ _ _ _) ⟨fun _ => ⟨fun _ => ⟨rfl, rfl⟩, fun z => absurd ((pz_eq8 (x := σ.1 55 22) w1' (by omega) (by decide)).mpr (by omega)) z⟩, fun z => absurd (pz_b_0.mpr (fun q => hy.mp q g)) z⟩), H'⟩
  · exact ⟨-(nI 2), σ, σ, pv_89 _ σ _ ⟨fun _ => ⟨rfl, rfl⟩, fun z => ⟨fun y => absurd (e1.mpr ⟨z, e1'.mp y⟩) g, fun _ => ⟨rfl, rfl⟩⟩⟩, ⟨rfl, rfl⟩, pv_124 _ σ _ (pz_ki (w_beyond _ _ _ _) ⟨fun z => absurd (hy.mpr g) (pz_b_0.mp z), fun _ => ⟨rfl, rfl⟩⟩), H'⟩
