theorem fu_cm {F : iv_F} {a b i j : Nat} {v w : Int32} (h : a ≠ b) : fu (fu F a i v) b j w = fu (fu F b j w) a i v := by
  funext x y
  unfold fu
  by_cases h1 : x = a ∧ y = i
  · rw [if_neg (fun z => h (h1.1.symm.trans z.1)), if_pos h1, if_pos h1]
  · rw [if_neg h1, if_neg h1]
theorem rKn {B F G : iv_F} (h : rFr B F G) (a : Nat) (h1 : a ≤ 94) (h2 : rcN a = false) : F a = B a := (h.1 a (Or.inl (by omega)) h2).trans (by rw [show rBi a = a from if_neg (by omega)])
theorem rKg {B F G : iv_F} (h : rFr B F G) (a : Nat) (h1 : 55 ≤ a ∧ a ≤ 102) (h2 : rgN a = false) : G a = B a := h.2.1 a h1 h2
/-- a place of a THING told -/
theorem rr_slot {B : iv_F} {nt ns nm m0 t1 t0 pb : Nat} {wv : Int32} {d nx dn fl pr : Nat} {F G : iv_F} (H : RR B nt ns nm m0 t1 t0 pb wv d nx dn fl pr F G) {x p : Nat} (hx : x < nx) (hp : p < 16) {v : Int32} (hv : ∀ t, t < nt → F 17 x = nI t → B 4 p = 1 → iv_rv nx v) : RR B nt ns nm m0 t1 t0 pb wv d nx dn fl pr (fu F 18 (16 * x + p) v) (fu G 75 (16 * x + p) v) := by
  obtain ⟨a1, a2, a3, a4, a5, a6, a7, a8, a9, a10⟩ := H
  refine ⟨rFr_g (rFr_f a1 rfl) rfl (by decide), iv_wd_put (F := mxf F G) hx hp (fun j => fu_w) (fun j => fu_w) (fun a h1 h2 => ?_) (fun t ht h1 h2 => hv t ht h1 (by rw [← rKn a1 4 (by decide) rfl]; exact h2)) a2, a3, rSt_c rfl rfl rfl rfl rfl rfl rfl rfl rfl rfl a4, a5, a6, a7, a8, rSu_c rfl rfl rfl rfl rfl rfl rfl rfl a9, a10⟩
  by_cases h : a ≤ 54
  · rw [mx_c h, mx_c h, fu_o h1]
  · rw [mx_g (by omega), mx_g (by omega), fu_o h2]
/-- a STATIC told -/
theorem rr_stat {B : iv_F} {nt ns nm m0 t1 t0 pb : Nat} {wv : Int32} {d nx dn fl pr : Nat} {F G : iv_F} (H : RR B nt ns nm m0 t1 t0 pb wv d nx dn fl pr F G) {s : Nat} {v : Int32} (hv : B 5 s = 1 → iv_rv nx v) : RR B nt ns nm m0 t1 t0 pb wv d nx dn fl pr (fu F 19 s v) (fu G 76 s v) := by
  obtain ⟨a1, ⟨w1, w2, w3, w4, w5, w6⟩, a3, a4, a5, a6, a7, a8, a9, a10⟩ := H
  refine ⟨rFr_g (rFr_f a1 rfl) rfl (by decide), ⟨w1, w2, w3, fun t ht => ?_, w5, fun t ht hr => ?_⟩, a3, rSt_c rfl rfl rfl rfl rfl rfl rfl rfl rfl rfl a4, a5, a6, a7, a8, rSu_c rfl rfl rfl rfl rfl rfl rfl rfl a9, a10⟩
  · show fu F 19 s v 19 t = fu G 76 s v 76 t
    rw [fu_w, fu_w]
    split
    · rfl
    · exact w4 t ht
  · show iv_rv nx (fu F 19 s v 19 t)
    rw [fu_w]
    split
    · rename_i e
      refine hv ?_
      rw [← e, ← rKn a1 5 (by decide) rfl]
      exact hr
    · exact w6 t ht hr
/-- a new THING, class's cells and the reference's -/
noncomputable def mkF (B F : iv_F) (nx : Nat) (c : Int32) : iv_F := fun x y => if x = 16 ∧ y = 0 then nI (nx + 1) else if x = 18 ∧ 16 * nx ≤ y ∧ y < 16 * nx + 16 then qz_in0 B (¬ c ≤ -(nI 10)) (y - 16 * nx) else if x = 17 ∧ y = nx then c else F x y
noncomputable def mkG (B G : iv_F) (nx : Nat) (c k i : Int32) : iv_F := fun x y => if x = 55 ∧ y = 22 then nI (nx + 1) else if x = 75 ∧ 16 * nx ≤ y ∧ y < 16 * nx + 16 then qz_in0 B (¬ c ≤ -(nI 10)) (y - 16 * nx) else if x = 74 ∧ y = nx then i else if x = 73 ∧ y = nx then k else G x y
theorem mkF_o {B F : iv_F} {nx : Nat} {c : Int32} {x : Nat} (h1 : x ≠ 16) (h2 : x ≠ 17) (h3 : x ≠ 18) : mkF B F nx c x = F x := funext fun y => by
  unfold mkF
  rw [if_neg (fun z => h1 z.1), if_neg (fun z => h3 z.1), if_neg (fun z => h2 z.1)]
theorem mkG_o {B G : iv_F} {nx : Nat} {c k i : Int32} {x : Nat} (h1 : x ≠ 55) (h2 : x ≠ 73) (h3 : x ≠ 74) (h4 : x ≠ 75) : mkG B G nx c k i x = G x := funext fun y => by
  unfold mkG
  rw [if_neg (fun z => h1 z.1), if_neg (fun z => h4 z.1), if_neg (fun z => h3 z.1), if_neg (fun z => h2 z.1)]
theorem rr_new {B : iv_F} {nt ns nm m0 t1 t0 pb : Nat} {wv : Int32} {d nx dn fl pr : Nat} {F G : iv_F} {nf : Nat} (bt : nt ≤ 8) (hrf : iv_rf B nf) (H : RR B nt ns nm m0 t1 t0 pb wv d nx dn fl pr F G) (hn : nx < 60) {c k i : Int32} (hk : qz_kd nt c k i) : RR B nt ns nm m0 t1 t0 pb wv d (nx + 1) dn fl pr (mkF B F nx c) (mkG B G nx c k i) := by
  obtain ⟨a1, ⟨w1, w2, w3, w4, w5, w6⟩, a3, ⟨s1, s2, s3⟩, a5, ⟨t1', t2, t3, t4⟩, a7, a8, a9, a10⟩ := H
  have f17 : ∀ x, mkF B F nx c 17 x = if x = nx then c else F 17 x := fun x => by unfold mkF; simp
  have f18 : ∀ y, mkF B F nx c 18 y = if 16 * nx ≤ y ∧ y < 16 * nx + 16 then qz_in0 B (¬ c ≤ -(nI 10)) (y - 16 * nx) else F 18 y := fun y => by unfold mkF; simp
  have g73 : ∀ x, mkG B G nx c k i 73 x = if x = nx then k else G 73 x := fun x => by unfold mkG; simp
  have g74 : ∀ x, mkG B G nx c k i 74 x = if x = nx then i else G 74 x := fun x => by unfold mkG; simp
  have g75 : ∀ y, mkG B G nx c k i 75 y = if 16 * nx ≤ y ∧ y < 16 * nx + 16 then qz_in0 B (¬ c ≤ -(nI 10)) (y - 16 * nx) else G 75 y := fun y => by unfold mkG; simp
  have g55 : ∀ y, y ≠ 22 → mkG B G nx c k i 55 y = G 55 y := fun y hy => by unfold mkG; simp [hy]
  have f16 : ∀ y, y ≠ 0 → mkF B F nx c 16 y = F 16 y := fun y hy => by unfold mkF; simp [hy]
  refine ⟨⟨fun a h1 h2 => ?_, fun a h1 h2 => ?_, fun j hj => ?_⟩, ⟨⟨?_, ?_, by omega⟩, fun x hx => ?_, fun j hj => ?_, fun s hs => ?_, fun x hx t ht h1 f hf hr hb => ?_, fun s hs hr => ?_⟩, ?_, ⟨?_, fun j hj => ?_, fun j hj => ?_⟩, ?_, ⟨?_, ?_, ?_, t4⟩, ?_, ?_, ?_, ?_⟩
  · rw [mkF_o (fun e => by rw [e] at h2; cases h2) (fun e => by rw [e] at h2; cases h2) (fun e => by rw [e] at h2; cases h2)]
    exact a1.1 a h1 h2
  · rw [mkG_o (fun e => by rw [e] at h2; cases h2) (fun e => by rw [e] at h2; cases h2) (fun e => by rw [e] at h2; cases h2) (fun e => by rw [e] at h2; cases h2)]
    exact a1.2.1 a h1 h2
  · rw [g55 j (fun e => by rw [e] at hj; cases hj)]
    exact a1.2.2 j hj
  · show mkF B F nx c 16 0 = nI (nx + 1)
    unfold mkF; simp
  · show mkG B G nx c k i 55 22 = nI (nx + 1)
    unfold mkG; simp
  · show (∃ t, t < nt ∧ mkF B F nx c 17 x = nI t ∧ mkG B G nx c k i 73 x = nI t ∧ mkG B G nx c k i 74 x = 0) ∨ (∃ n, n ≤ 16 ∧ mkF B F nx c 17 x = -(nI 10) - nI n ∧ mkG B G nx c k i 73 x = -1 ∧ mkG B G nx c k i 74 x = nI n)
    rw [f17, g73, g74]
    by_cases q : x = nx
    · rw [if_pos q, if_pos q, if_pos q]
      exact hk
    · rw [if_neg q, if_neg q, if_neg q]
      exact w2 x (by omega)
  · show mkF B F nx c 18 j = mkG B G nx c k i 75 j
    rw [f18, g75]
    by_cases q : 16 * nx ≤ j ∧ j < 16 * nx + 16
    · rw [if_pos q, if_pos q]
    · rw [if_neg q, if_neg q]
      exact w3 j (by omega)
  · show mkF B F nx c 19 s = mkG B G nx c k i 76 s
    rw [mkF_o (by decide) (by decide) (by decide), mkG_o (by decide) (by decide) (by decide) (by decide)]
    exact w4 s hs
  · have h1' : mkF B F nx c 17 x = nI t := h1
    have hr' : B 4 f = 1 := by
      have : mkF B F nx c 4 f = 1 := hr
      rw [mkF_o (by decide) (by decide) (by decide), rKn a1 4 (by decide) rfl] at this
      exact this
    have hb' : iv_bt (F 3 t) f := by
      have : iv_bt (mkF B F nx c 3 t) f := hb
      rw [mkF_o (by decide) (by decide) (by decide)] at this
      exact this
    show iv_rv (nx + 1) (mkF B F nx c 18 (16 * x + f))
    rw [f18]
    rw [f17] at h1'
    by_cases q : x = nx
    · subst q
      rw [if_pos rfl] at h1'
      rw [if_pos ⟨by omega, by omega⟩, show 16 * x + f - 16 * x = f by omega, qz_in0_t (by rw [h1']; exact (by decide +kernel : ∀ t, t < 8 → ¬ nI t ≤ -(nI 10)) t (by omega)) (by rw [hr']; decide)]
      exact Or.inl rfl
    · rw [if_neg q] at h1'
      rw [if_neg (by omega)]
      exact iv_rv_le (w5 x (by omega) t ht h1' f hf (by show F 4 f = 1; rw [rKn a1 4 (by decide) rfl]; exact hr') hb') (Nat.le_succ _)
  · show iv_rv (nx + 1) (mkF B F nx c 19 s)
    have hr' : F 5 s = 1 := by
      have : mkF B F nx c 5 s = 1 := hr
      rw [mkF_o (by decide) (by decide) (by decide)] at this
      exact this
    rw [mkF_o (by decide) (by decide) (by decide)]
    exact iv_rv_le (w6 s hs hr') (Nat.le_succ _)
  · obtain ⟨p1, p2, p3, p4⟩ := a3
    refine ⟨(f16 1 (by decide)).trans p1, (g55 27 (by decide)).trans p2, fun k' h1 h2 => ?_, p4⟩
    rw [mkF_o (by decide) (by decide) (by decide), mkG_o (by decide) (by decide) (by decide) (by decide)]
    exact p3 k' h1 h2
  · rw [mkF_o (by decide) (by decide) (by decide), g55 41 (by decide)]
    exact s1
  · rw [mkF_o (by decide) (by decide) (by decide), mkF_o (by decide) (by decide) (by decide), mkG_o (by decide) (by decide) (by decide) (by decide), mkG_o (by decide) (by decide) (by decide) (by decide)]
    exact ⟨(s2 j hj).1, (s2 j hj).2.1, iv_rv_le (s2 j hj).2.2 (Nat.le_succ _)⟩
  · have := s3 j hj
    unfold rFm rCa at *
    rw [mkF_o (by decide) (by decide) (by decide), mkF_o (by decide) (by decide) (by decide), mkG_o (by decide) (by decide) (by decide) (by decide), mkG_o (by decide) (by decide) (by decide) (by decide)]
    exact this
  · unfold rCt at *
    rw [mkF_o (by decide) (by decide) (by decide), mkF_o (by decide) (by decide) (by decide), g55 47 (by decide), g55 48 (by decide)]
    exact a5
  · rw [mkF_o (by decide) (by decide) (by decide), g55 49 (by decide)]
    exact ⟨t1'.1, t1'.2.1, by have := t1'.2.2; omega⟩
  · rw [g55 50 (by decide)]; exact t2
  · rw [mkF_o (by decide) (by decide) (by decide)]; exact t3
  · unfold rEf at *
    rw [mkF_o (by decide) (by decide) (by decide), g55 54 (by decide), g55 55 (by decide), g55 58 (by decide), g55 59 (by decide)]
    exact a7
  · unfold rEn at *
    rw [mkF_o (by decide) (by decide) (by decide), g55 51 (by decide), g55 52 (by decide)]
    exact a8
  · refine rSu_c ?_ ?_ ?_ ?_ ?_ ?_ ?_ ?_ a9
    · rw [mkF_o (by decide) (by decide) (by decide)]
    · rw [mkF_o (by decide) (by decide) (by decide)]
    · exact mkF_o (by decide) (by decide) (by decide)
    · rw [mkF_o (by decide) (by decide) (by decide)]
    · exact g55 58 (by decide)
    · exact g55 59 (by decide)
    · exact mkG_o (by decide) (by decide) (by decide) (by decide)
    · exact mkG_o (by decide) (by decide) (by decide) (by decide)
  · exact ⟨by rw [g55 46 (by decide)]; exact a10.1, fun x hx => by have := t1'.2.2; rw [f17, if_neg (by omega)]; exact a10.2 x hx⟩
/-- printed -/
def prF (F : iv_F) (pr : Nat) (v : Int32) : iv_F := if pr < 200 then fu (fu F 20 pr v) 16 1 (nI (pr + 1)) else fu F 16 1 (nI (pr + 1))
def prG (G : iv_F) (pr : Nat) (v : Int32) : iv_F := if pr < 200 then fu (fu G 77 pr v) 55 27 (nI (pr + 1)) else fu G 55 27 (nI (pr + 1))
theorem prF_o {F : iv_F} {pr : Nat} {v : Int32} {x : Nat} (h1 : x ≠ 16) (h2 : x ≠ 20) : prF F pr v x = F x := by
  unfold prF
  split
  · rw [fu_o h1, fu_o h2]
  · rw [fu_o h1]
theorem prG_o {G : iv_F} {pr : Nat} {v : Int32} {x : Nat} (h1 : x ≠ 55) (h2 : x ≠ 77) : prG G pr v x = G x := by
  unfold prG
  split
  · rw [fu_o h1, fu_o h2]
  · rw [fu_o h1]
theorem rr_print {B : iv_F} {nt ns nm m0 t1 t0 pb : Nat} {wv : Int32} {d nx dn fl pr : Nat} {F G : iv_F} (H : RR B nt ns nm m0 t1 t0 pb wv d nx dn fl pr F G) (hpr : pr < 1000000) (v : Int32) : RR B nt ns nm m0 t1 t0 pb wv d nx dn fl (pr + 1) (fu (prF F pr v) 40 2 (nI (pr - pb + 1))) (prG G pr v) := by
  obtain ⟨a1, a2, ⟨p1, p2, p3, p4⟩, a4, a5, ⟨t1', t2, t3, t4⟩, a7, a8, a9, a10⟩ := H
  have f0 : prF F pr v 16 0 = F 16 0 := by unfold prF; split <;> rfl
  have f1 : prF F pr v 16 1 = nI (pr + 1) := by unfold prF; split <;> rfl
  have f20 : ∀ k, prF F pr v 20 k = if k = pr ∧ pr < 200 then v else F 20 k := fun k => by
    unfold prF
    by_cases h : pr < 200
    · rw [if_pos h, fu_o (by decide), fu_w]
      simp [h]
    · rw [if_neg h, fu_o (by decide)]
      simp [h]
  have g77 : ∀ k, prG G pr v 77 k = if k = pr ∧ pr < 200 then v else G 77 k := fun k => by
    unfold prG
    by_cases h : pr < 200
    · rw [if_pos h, fu_o (by decide), fu_w]
      simp [h]
    · rw [if_neg h, fu_o (by decide)]
      simp [h]
  have g27 : prG G pr v 55 27 = nI (pr + 1) := by unfold prG; split <;> rfl
  have g55 : ∀ j, j ≠ 27 → prG G pr v 55 j = G 55 j := fun j hj => by
    unfold prG
    split
    · rw [fu_j hj, fu_o (by decide)]
    · rw [fu_j hj]
  have o40 : ∀ j, j ≠ 2 → fu (prF F pr v) 40 2 (nI (pr - pb + 1)) 40 j = F 40 j := fun j hj => by rw [fu_j hj, prF_o (by decide) (by decide)]
  have oF : ∀ x, x ≠ 40 → x ≠ 16 → x ≠ 20 → fu (prF F pr v) 40 2 (nI (pr - pb + 1)) x = F x := fun x h1 h2 h3 => by rw [fu_o h1, prF_o h2 h3]
  refine ⟨⟨fun a h1 h2 => ?_, fun a h1 h2 => ?_, fun j hj => ?_⟩, rWd_c (fun a h _ => ?_) (fun a h _ => ?_) f0 (g55 22 (by decide)) a2, ⟨f1, g27, fun k h1 h2 => ?_, by omega⟩, rSt_c (by rw [oF 39 (by decide) (by decide) (by decide)]) (oF 41 (by decide) (by decide) (by decide)) (oF 42 (by decide) (by decide) (by decide)) (oF 43 (by decide) (by decide) (by decide)) (oF 44 (by decide) (by decide) (by decide)) (g55 41 (by decide)) (prG_o (by decide) (by decide)) (prG_o (by decide) (by decide)) (prG_o (by decide) (by decide)) (prG_o (by decide) (by decide)) a4, ?_, ⟨?_, ?_, ?_, by omega⟩, ?_, ?_, rSu_c (by rw [oF 39 (by decide) (by decide) (by decide)]) (by rw [oF 41 (by decide) (by decide) (by decide)]) (oF 45 (by decide) (by decide) (by decide)) (o40 7 (by decide)) (g55 58 (by decide)) (g55 59 (by decide)) (prG_o (by decide) (by decide)) (prG_o (by decide) (by decide)) a9, ?_⟩
  · rw [oF a (fun e => by rw [e] at h2; cases h2) (fun e => by rw [e] at h2; cases h2) (fun e => by rw [e] at h2; cases h2)]
    exact a1.1 a h1 h2
  · rw [prG_o (fun e => by rw [e] at h2; cases h2) (fun e => by rw [e] at h2; cases h2)]
    exact a1.2.1 a h1 h2
  · rw [g55 j (fun e => by rw [e] at hj; cases hj)]
    exact a1.2.2 j hj
  · exact oF a (fun e => by rw [e] at h; cases h) (fun e => by rw [e] at h; cases h) (fun e => by rw [e] at h; cases h)
  · exact prG_o (fun e => by rw [e] at h; cases h) (fun e => by rw [e] at h; cases h)
  · rw [show fu (prF F pr v) 40 2 (nI (pr - pb + 1)) 20 k = prF F pr v 20 k from rfl, f20, g77]
    by_cases e : k = pr ∧ pr < 200
    · rw [if_pos e, if_pos e]
    · rw [if_neg e, if_neg e]
      exact p3 k h1 (by omega)
  · unfold rCt at *
    rw [o40 3 (by decide), oF 39 (by decide) (by decide) (by decide), g55 47 (by decide), g55 48 (by decide)]
    exact a5
  · rw [oF 39 (by decide) (by decide) (by decide), g55 49 (by decide)]
    exact t1'
  · rw [g55 50 (by decide)]; exact t2
  · rw [fu_s]
    congr 1
    omega
  · unfold rEf at *
    rw [o40 0 (by decide), o40 1 (by decide), g55 54 (by decide), g55 55 (by decide), g55 58 (by decide), g55 59 (by decide)]
    exact a7
  · unfold rEn at *
    rw [o40 6 (by decide), o40 5 (by decide), g55 51 (by decide), g55 52 (by decide)]
    exact a8
  · exact ⟨by rw [g55 46 (by decide)]; exact a10.1, fun x hx => by rw [fu_o (by decide), prF_o (by decide) (by decide)]; exact a10.2 x hx⟩
