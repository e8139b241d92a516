/-! ===== WHAT STANDS BETWEEN TWO CALLS: the class's cells (0 to 54) and the reference's (55 to 102) tell the same ===== -/
abbrev iv_F : Type := Nat → Nat → Int32
/-- bit u of a word, as the programs ask for it -/
def iv_bt (x : Int32) (u : Nat) : Prop := (x >>> (nI u &&& 31)) &&& 1 = 1
/-- CLASS t is u or below it (by the reference's row 'above', in k steps) -/
def iv_bl (F : iv_F) : Nat → Nat → Nat → Prop
  | 0, t, u => t = u
  | k + 1, t, u => t = u ∨ (¬ F 56 t = -1 ∧ iv_bl F k (F 56 t).toNatClampNeg u)
/-- how many there are: CLASSES, FIELDS, STATICS, METHODS -/
def iv_ct (F : iv_F) (nt nf ns nm : Nat) : Prop := (F 1 0 = nI nt ∧ F 55 0 = nI nt ∧ nt ≤ 8) ∧ (F 1 1 = nI nf ∧ F 55 2 = nI nf ∧ nf ≤ 16) ∧ (F 1 2 = nI ns ∧ F 55 5 = nI ns ∧ ns ≤ 8) ∧ (F 1 3 = nI nm ∧ F 55 7 = nI nm ∧ nm ≤ 10)
def iv_ty (F : iv_F) (nt : Nat) : Prop := ∀ t, t < nt → (F 56 t = -1 ∨ ∃ p, p < t ∧ F 56 t = nI p) ∧ ∀ u, u < 8 → (iv_bt (F 2 t) u ↔ iv_bl F t t u)
def iv_fl (F : iv_F) (nt nf : Nat) : Prop := (∀ f, f < nf → ∃ t, t < nt ∧ F 57 f = nI t) ∧ (∀ t, t < nt → ∀ f, f < 16 → (iv_bt (F 3 t) f ↔ (f < nf ∧ iv_bl F t t (F 57 f).toNatClampNeg)))
def iv_rf (F : iv_F) (nf : Nat) : Prop := (∀ f, f < 16 → F 4 f = F 58 f ∧ (F 4 f = 0 ∨ F 4 f = 1)) ∧ (∀ f, nf ≤ f → f < 16 → F 4 f = 0) ∧ ∀ s, s < 8 → F 5 s = F 59 s ∧ (F 5 s = 0 ∨ F 5 s = 1)
def iv_mt (F : iv_F) (nm : Nat) : Prop := (∀ m, m < nm → (F 6 m = F 60 m ∧ ∃ p, p ≤ 3 ∧ F 6 m = nI p) ∧ (F 7 m = F 61 m ∧ ∃ p, p ≤ 3 ∧ F 7 m = nI p) ∧ (F 8 m = F 62 m ∧ ∃ p, p ≤ 2 ∧ F 8 m = nI p) ∧ (F 9 m = F 63 m ∧ ∃ p, p ≤ 24 ∧ F 9 m = nI p) ∧ (F 14 m = F 68 m ∧ ∃ p, p ≤ 4 ∧ F 14 m = nI p)) ∧ ∀ m, nm ≤ m → m < 10 → F 9 m = 0 ∧ F 14 m = 0
/-- what an operand has to be, by its kind (WANTED) -/
def iv_su (F : iv_F) (nt nf ns nm : Nat) (m : Nat) (k : Int32) (x : Int32) : Prop :=
  (k = 1 → vp_in x 8) ∧ (k = nI 2 → vp_in x nt) ∧ (k = nI 3 → vp_in x nf ∧ F 4 x.toNatClampNeg = 0) ∧ (k = nI 4 → vp_in x nf ∧ F 4 x.toNatClampNeg = 1) ∧ (k = nI 5 → vp_in x ns ∧ F 5 x.toNatClampNeg = 0) ∧ (k = nI 6 → vp_in x ns ∧ F 5 x.toNatClampNeg = 1) ∧ (k = nI 7 → vp_in x nm) ∧ (k = nI 8 → vp_in x 25) ∧ (k = nI 9 → vp_in x 4) ∧ (k = nI 10 → F 8 m = 0 ∨ vp_in x 8)
/-- a LINE of METHOD m that may be told -/
def iv_ft (F : iv_F) (nt nf ns nm : Nat) (m : Nat) (o a b c : Int32) : Prop :=
  vp_in o 32 ∧ iv_su F nt nf ns nm m (pz_wn (3 * o.toNatClampNeg)) a ∧ iv_su F nt nf ns nm m (pz_wn (3 * o.toNatClampNeg + 1)) b ∧ iv_su F nt nf ns nm m (pz_wn (3 * o.toNatClampNeg + 2)) c ∧ (o = nI 21 → a + F 6 b.toNatClampNeg ≤ nI 8 ∧ c + F 7 b.toNatClampNeg ≤ nI 8)
def iv_ln (F : iv_F) (nt nf ns nm : Nat) : Prop := ∀ m, m < nm → ∀ l, l < (F 9 m).toNatClampNeg → (F 10 (24 * m + l) = F 64 (24 * m + l) ∧ F 11 (24 * m + l) = F 65 (24 * m + l) ∧ F 12 (24 * m + l) = F 66 (24 * m + l) ∧ F 13 (24 * m + l) = F 67 (24 * m + l)) ∧ iv_ft F nt nf ns nm m (F 10 (24 * m + l)) (F 11 (24 * m + l)) (F 12 (24 * m + l)) (F 13 (24 * m + l))
def iv_ca (F : iv_F) (nm : Nat) : Prop := ∀ m, m < nm → ∀ k, k < (F 14 m).toNatClampNeg → (F 15 (16 * m + 4 * k) = F 69 (4 * m + k) ∧ F 15 (16 * m + 4 * k + 1) = F 70 (4 * m + k) ∧ F 15 (16 * m + 4 * k + 2) = F 71 (4 * m + k) ∧ F 15 (16 * m + 4 * k + 3) = F 72 (4 * m + k)) ∧ vp_in (F 69 (4 * m + k)) 25 ∧ vp_in (F 70 (4 * m + k)) 25 ∧ vp_in (F 71 (4 * m + k)) 10 ∧ vp_in (F 72 (4 * m + k)) 25
/-- the program -/
def iv_pg (F : iv_F) (nt nf ns nm : Nat) : Prop := iv_ct F nt nf ns nm ∧ iv_ty F nt ∧ iv_fl F nt nf ∧ iv_rf F nf ∧ iv_mt F nm ∧ iv_ln F nt nf ns nm ∧ iv_ca F nm
/-- null, or a THING that there is -/
def iv_rv (nx : Nat) (v : Int32) : Prop := v = -1 ∨ ∃ y, y < nx ∧ v = nI y
/-- the world: THINGS, their kinds, what they hold, STATICS -/
def iv_wd (F : iv_F) (nt ns nx : Nat) : Prop := (F 16 0 = nI nx ∧ F 55 22 = nI nx ∧ nx ≤ 60) ∧ (∀ x, x < nx → (∃ t, t < nt ∧ F 17 x = nI t ∧ F 73 x = nI t ∧ F 74 x = 0) ∨ (∃ k, k ≤ 16 ∧ F 17 x = -(nI 10) - nI k ∧ F 73 x = -1 ∧ F 74 x = nI k)) ∧ (∀ j, j < 16 * nx → F 18 j = F 75 j) ∧ (∀ s, s < 8 → F 19 s = F 76 s) ∧ (∀ x, x < nx → ∀ t, t < nt → F 17 x = nI t → ∀ f, f < 16 → F 4 f = 1 → iv_bt (F 3 t) f → iv_rv nx (F 18 (16 * x + f))) ∧ (∀ s, s < ns → F 5 s = 1 → iv_rv nx (F 19 s))
/-- what was printed, at most 500 numbers a call -/
def iv_pr (F : iv_F) (n : Nat) : Prop := ∃ pr, pr ≤ 500 * n ∧ F 16 1 = nI pr ∧ F 55 27 = nI pr ∧ ∀ k, k < 200 → k < pr → F 20 k = F 77 k
def iv_ar (F : iv_F) (nx : Nat) : Prop := ∀ j, j < 6 → F 53 j = F 78 j ∧ F 79 j = F 54 j + 1 ∧ iv_rv nx (F 54 j)
/-- what a local may be, out of a word -/
def iv_my (w : Int64) (r : Nat) : Int32 := (w.toUInt64 >>> ((nI r * nI 6).toInt64.toUInt64 &&& Int64.toUInt64 63)).toInt64.toInt32 &&& nI 63
/-- what was ANALYSED -/
def iv_an (σ : pz_Sg) (nm : Nat) : Prop := σ.1 0 10 = σ.1 55 21 ∧ (σ.1 0 10 = 0 ∨ σ.1 0 10 = 1) ∧ (σ.1 0 10 = 1 → ∀ m, m < nm → (∀ w, w < 4 → σ.1 33 (4 * m + w) = σ.1 86 (4 * m + w) ∧ σ.1 34 (4 * m + w) = σ.1 87 (4 * m + w)) ∧ σ.1 35 m = σ.1 84 m ∧ σ.1 36 m = σ.1 85 m ∧ (¬ σ.1 8 m = nI 2 → σ.1 85 m = 0) ∧ (σ.1 37 m = σ.1 83 m ∧ (σ.1 37 m = 0 ∨ σ.1 37 m = 1)) ∧ (σ.1 38 m = σ.1 82 m ∧ (σ.1 38 m = 0 ∨ σ.1 38 m = 1)) ∧ ∀ l, l < (σ.1 9 m).toNatClampNeg → ∀ r, r < 8 → iv_my (σ.2 32 (24 * m + l)) r = σ.1 80 (8 * (25 * m + l) + r))
/-- the latest RUN -/
def iv_la (F : iv_F) : Prop := ((F 55 62 = 0 ∧ ∀ k, k < 6 → F 52 k = 0) ∨ (F 55 62 = 1 ∧ ∀ k, k < 6 → F 52 k = F 97 k)) ∧ ((F 52 7 = 0 ∧ F 55 64 = 1) ∨ (F 52 7 = 1 ∧ F 55 64 = 0)) ∧ F 55 39 = 0
/-- after n calls -/
def iv (L : Nat) (ys : Nat → Int32) (n : Nat) (σ : pz_Sg) : Prop := pz_ti L ys σ ∧ ∃ nt nf ns nm nx, iv_pg σ.1 nt nf ns nm ∧ iv_wd σ.1 nt ns nx ∧ iv_pr σ.1 n ∧ iv_ar σ.1 nx ∧ iv_an σ nm ∧ iv_la σ.1
/-! which cells each of these speaks of -/
theorem iv_bl_c {F F' : iv_F} (h : ∀ t, F' 56 t = F 56 t) : ∀ k t u, iv_bl F' k t u ↔ iv_bl F k t u
  | 0, t, u => Iff.rfl
  | k + 1, t, u => by
    unfold iv_bl
    rw [h t, iv_bl_c h k]
theorem iv_ct_c {F F' : iv_F} {nt nf ns nm : Nat} (h1 : ∀ j, j < 4 → F' 1 j = F 1 j) (h0 : F' 55 0 = F 55 0) (h2 : F' 55 2 = F 55 2) (h5 : F' 55 5 = F 55 5) (h7 : F' 55 7 = F 55 7) (H : iv_ct F nt nf ns nm) : iv_ct F' nt nf ns nm := by
  unfold iv_ct at H ⊢
  rw [h1 0 (by omega), h1 1 (by omega), h1 2 (by omega), h1 3 (by omega), h0, h2, h5, h7]
  exact H
/-- the program's rows, class's and reference's -/
def iv_pgN (a : Nat) : Bool := (decide (2 ≤ a) && decide (a ≤ 15)) || (decide (56 ≤ a) && decide (a ≤ 72))
theorem iv_ty_c {F F' : iv_F} {nt : Nat} (h : ∀ a, iv_pgN a = true → ∀ j, F' a j = F a j) (H : iv_ty F nt) : iv_ty F' nt := by
  intro t ht
  obtain ⟨h1, h2⟩ := H t ht
  rw [h 56 rfl t, h 2 rfl t]
  refine ⟨h1, fun u hu => ?_⟩
  rw [h2 u hu, iv_bl_c (fun t => h 56 rfl t)]
theorem iv_fl_c {F F' : iv_F} {nt nf : Nat} (h : ∀ a, iv_pgN a = true → ∀ j, F' a j = F a j) (H : iv_fl F nt nf) : iv_fl F' nt nf := by
  refine ⟨fun f hf => by rw [h 57 rfl f]; exact H.1 f hf, fun t ht f hf => ?_⟩
  rw [h 3 rfl t, h 57 rfl f, H.2 t ht f hf, iv_bl_c (fun t => h 56 rfl t)]
theorem iv_rf_c {F F' : iv_F} {nf : Nat} (h : ∀ a, iv_pgN a = true → ∀ j, F' a j = F a j) (H : iv_rf F nf) : iv_rf F' nf := by
  refine ⟨fun f hf => by rw [h 4 rfl f, h 58 rfl f]; exact H.1 f hf, fun f h1 h2 => by rw [h 4 rfl f]; exact H.2.1 f h1 h2, fun s hs => by rw [h 5 rfl s, h 59 rfl s]; exact H.2.2 s hs⟩
theorem iv_mt_c {F F' : iv_F} {nm : Nat} (h : ∀ a, iv_pgN a = true → ∀ j, F' a j = F a j) (H : iv_mt F nm) : iv_mt F' nm := by
  refine ⟨fun m hm => ?_, fun m h1 h2 => by rw [h 9 rfl m, h 14 rfl m]; exact H.2 m h1 h2⟩
  rw [h 6 rfl m, h 60 rfl m, h 7 rfl m, h 61 rfl m, h 8 rfl m, h 62 rfl m, h 9 rfl m, h 63 rfl m, h 14 rfl m, h 68 rfl m]
  exact H.1 m hm
theorem iv_su_c {F F' : iv_F} {nt nf ns nm m : Nat} {k x : Int32} (h : ∀ a, iv_pgN a = true → ∀ j, F' a j = F a j) (H : iv_su F nt nf ns nm m k x) : iv_su F' nt nf ns nm m k x := by
  unfold iv_su at H ⊢
  rw [h 4 rfl, h 5 rfl, h 8 rfl]
  exact H
theorem iv_ft_c {F F' : iv_F} {nt nf ns nm m : Nat} {o a b c : Int32} (h : ∀ a, iv_pgN a = true → ∀ j, F' a j = F a j) (H : iv_ft F nt nf ns nm m o a b c) : iv_ft F' nt nf ns nm m o a b c := by
  refine ⟨H.1, iv_su_c h H.2.1, iv_su_c h H.2.2.1, iv_su_c h H.2.2.2.1, ?_⟩
  rw [h 6 rfl, h 7 rfl]
  exact H.2.2.2.2
theorem iv_ln_c {F F' : iv_F} {nt nf ns nm : Nat} (h : ∀ a, iv_pgN a = true → ∀ j, F' a j = F a j) (H : iv_ln F nt nf ns nm) : iv_ln F' nt nf ns nm := by
  intro m hm l hl
  rw [h 9 rfl m] at hl
  obtain ⟨h1, h2⟩ := H m hm l hl
  rw [h 10 rfl, h 11 rfl, h 12 rfl, h 13 rfl, h 64 rfl, h 65 rfl, h 66 rfl, h 67 rfl]
  exact ⟨h1, iv_ft_c h h2⟩
theorem iv_ca_c {F F' : iv_F} {nm : Nat} (h : ∀ a, iv_pgN a = true → ∀ j, F' a j = F a j) (H : iv_ca F nm) : iv_ca F' nm := by
  intro m hm k hk
  rw [h 14 rfl m] at hk
  rw [h 15 rfl, h 15 rfl, h 15 rfl, h 15 rfl, h 69 rfl, h 70 rfl, h 71 rfl, h 72 rfl]
  exact H m hm k hk
theorem iv_pg_c {F F' : iv_F} {nt nf ns nm : Nat} (h : ∀ a, iv_pgN a = true → ∀ j, F' a j = F a j) (h1 : ∀ j, j < 4 → F' 1 j = F 1 j) (h0 : F' 55 0 = F 55 0) (h2 : F' 55 2 = F 55 2) (h5 : F' 55 5 = F 55 5) (h7 : F' 55 7 = F 55 7) (H : iv_pg F nt nf ns nm) : iv_pg F' nt nf ns nm :=
  ⟨iv_ct_c h1 h0 h2 h5 h7 H.1, iv_ty_c h H.2.1, iv_fl_c h H.2.2.1, iv_rf_c h H.2.2.2.1, iv_mt_c h H.2.2.2.2.1, iv_ln_c h H.2.2.2.2.2.1, iv_ca_c h H.2.2.2.2.2.2⟩
def iv_wdN (a : Nat) : Bool := (decide (17 ≤ a) && decide (a ≤ 19)) || (decide (73 ≤ a) && decide (a ≤ 76)) || a == 4 || a == 5 || a == 3
theorem iv_wd_c {F F' : iv_F} {nt ns nx : Nat} (h : ∀ a, iv_wdN a = true → ∀ j, F' a j = F a j) (h1 : F' 16 0 = F 16 0) (h2 : F' 55 22 = F 55 22) (H : iv_wd F nt ns nx) : iv_wd F' nt ns nx := by
  obtain ⟨a1, a2, a3, a4, a5, a6⟩ := H
  refine ⟨by rw [h1, h2]; exact a1, fun x hx => by rw [h 17 rfl x, h 73 rfl x, h 74 rfl x]; exact a2 x hx, fun j hj => by rw [h 18 rfl j, h 75 rfl j]; exact a3 j hj, fun s hs => by rw [h 19 rfl s, h 76 rfl s]; exact a4 s hs, fun x hx t ht hk f hf hr hb => ?_, fun s hs hr => ?_⟩
  · rw [h 17 rfl x] at hk
    rw [h 4 rfl f] at hr
    rw [h 3 rfl t] at hb
    rw [h 18 rfl]
    exact a5 x hx t ht hk f hf hr hb
  · rw [h 5 rfl s] at hr
    rw [h 19 rfl]
    exact a6 s hs hr
theorem iv_pr_c {F F' : iv_F} {n n' : Nat} (hn : n ≤ n') (h1 : F' 16 1 = F 16 1) (h2 : F' 55 27 = F 55 27) (h3 : ∀ k, F' 20 k = F 20 k) (h4 : ∀ k, F' 77 k = F 77 k) (H : iv_pr F n) : iv_pr F' n' := by
  obtain ⟨pr, a1, a2, a3, a4⟩ := H
  exact ⟨pr, by omega, by rw [h1]; exact a2, by rw [h2]; exact a3, fun k hk hp => by rw [h3, h4]; exact a4 k hk hp⟩
theorem iv_ar_c {F F' : iv_F} {nx : Nat} (h1 : ∀ j, F' 53 j = F 53 j) (h2 : ∀ j, F' 54 j = F 54 j) (h3 : ∀ j, F' 78 j = F 78 j) (h4 : ∀ j, F' 79 j = F 79 j) (H : iv_ar F nx) : iv_ar F' nx := fun j hj => by
  rw [h1, h2, h3, h4]
  exact H j hj
def iv_anN (a : Nat) : Bool := (decide (33 ≤ a) && decide (a ≤ 38)) || (decide (82 ≤ a) && decide (a ≤ 87)) || a == 80 || a == 8 || a == 9
theorem iv_an_c {σ σ' : pz_Sg} {nm : Nat} (h : ∀ a, iv_anN a = true → ∀ j, σ'.1 a j = σ.1 a j) (h0 : σ'.1 0 10 = σ.1 0 10) (h1 : σ'.1 55 21 = σ.1 55 21) (h2 : ∀ j, σ'.2 32 j = σ.2 32 j) (H : iv_an σ nm) : iv_an σ' nm := by
  obtain ⟨a1, a2, a3⟩ := H
  refine ⟨by rw [h0, h1]; exact a1, by rw [h0]; exact a2, fun q m hm => ?_⟩
  rw [h0] at q
  obtain ⟨b1, b2, b3, b4, b5, b6, b7⟩ := a3 q m hm
  refine ⟨fun w hw => by rw [h 33 rfl, h 34 rfl, h 86 rfl, h 87 rfl]; exact b1 w hw, by rw [h 35 rfl, h 84 rfl]; exact b2, by rw [h 36 rfl, h 85 rfl]; exact b3, by rw [h 8 rfl, h 85 rfl]; exact b4, by rw [h 37 rfl, h 83 rfl]; exact b5, by rw [h 38 rfl, h 82 rfl]; exact b6, fun l hl r hr => ?_⟩
  rw [h 9 rfl] at hl
  rw [h2, h 80 rfl]
  exact b7 l hl r hr
/-- nothing is ANALYSED any more -/
theorem iv_an_0 {σ : pz_Sg} {nm : Nat} (h0 : σ.1 0 10 = 0) (h1 : σ.1 55 21 = 0) : iv_an σ nm := ⟨by rw [h0, h1], Or.inl h0, fun q => absurd (h0.symm.trans q) (by decide)⟩
theorem iv_la_c {F F' : iv_F} (h1 : ∀ j, F' 52 j = F 52 j) (h2 : ∀ j, F' 97 j = F 97 j) (h3 : F' 55 62 = F 55 62) (h4 : F' 55 64 = F 55 64) (H : iv_la F) (h5 : F' 55 39 = F 55 39 := by exact rfl) : iv_la F' := by
  unfold iv_la at H ⊢
  rw [h3, h4, h5, h1 7]
  refine ⟨H.1.imp (fun z => ⟨z.1, fun k hk => by rw [h1]; exact z.2 k hk⟩) (fun z => ⟨z.1, fun k hk => by rw [h1, h2]; exact z.2 k hk⟩), H.2⟩
theorem iv_up {L : Nat} {ys : Nat → Int32} {n : Nat} {σ : pz_Sg} (H : iv L ys n σ) : iv L ys (n + 1) σ := by
  obtain ⟨h0, nt, nf, ns, nm, nx, h1, h2, h3, h4, h5, h6⟩ := H
  exact ⟨h0, nt, nf, ns, nm, nx, h1, h2, iv_pr_c (Nat.le_succ n) rfl rfl (fun _ => rfl) (fun _ => rfl) h3, h4, h5, h6⟩
/-- a call that changes nothing -/
theorem op_read {L : Nat} {ys : Nat → Int32} {c m nc nm : Nat} {as : List Value} (h : ∀ σ n, iv L ys n σ → ∃ r, pz_WP c (0, pz_en nc (.ref 0 :: as), []) σ (pz_is (some (.int r)) σ) ∧ pz_WP m (0, pz_en nm (.ref 55 :: as), []) σ (pz_is (some (.int r)) σ)) : pz_Op (iv L ys) c m nc nm as := by
  intro n _ σ hI
  obtain ⟨r, h1, h2⟩ := h σ n hI
  refine pz_conseq h1 ?_
  rintro v σ' ⟨rfl, rfl⟩
  refine ⟨r, rfl, ⟨rfl, rfl⟩, pz_conseq h2 ?_⟩
  rintro v σ' ⟨rfl, rfl⟩
  exact ⟨rfl, iv_up hI⟩
/-- a call whose ends are known -/
theorem op_known {L : Nat} {ys : Nat → Int32} {c m nc nm : Nat} {as : List Value} (h : ∀ σ n, n < 512 → iv L ys n σ → ∃ r σ1 σ2, pz_WP c (0, pz_en nc (.ref 0 :: as), []) σ (pz_is (some (.int r)) σ1) ∧ (σ1.1 1000 = σ.1 1000 ∧ σ1.1 1001 = σ.1 1001) ∧ pz_WP m (0, pz_en nm (.ref 55 :: as), []) σ1 (pz_is (some (.int r)) σ2) ∧ iv L ys (n + 1) σ2) : pz_Op (iv L ys) c m nc nm as := by
  intro n hn σ hI
  obtain ⟨r, σ1, σ2, h1, h2, h3, h4⟩ := h σ n hn hI
  refine pz_conseq h1 ?_
  rintro v σ' ⟨rfl, rfl⟩
  refine ⟨r, rfl, h2, pz_conseq h3 ?_⟩
  rintro v σ' ⟨rfl, rfl⟩
  exact ⟨rfl, h4⟩
