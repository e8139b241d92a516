/-! ===== RUN: the class's machine (cells of F) beside the reference's (cells of G); B is what both began with ===== -/
def fu (F : iv_F) (a j : Nat) (v : Int32) : iv_F := fun x y => if x = a ∧ y = j then v else F x y
theorem fu_s {F : iv_F} {a j : Nat} {v : Int32} : fu F a j v a j = v := if_pos ⟨rfl, rfl⟩
theorem fu_o {F : iv_F} {a j x : Nat} {v : Int32} (h : x ≠ a) : fu F a j v x = F x := funext fun y => if_neg (fun z => h z.1)
theorem fu_j {F : iv_F} {a j y : Nat} {v : Int32} (h : y ≠ j) : fu F a j v a y = F a y := if_neg (fun z => h z.2)
theorem fu_w {F : iv_F} {a j y : Nat} {v : Int32} : fu F a j v a y = if y = j then v else F a y := by
  unfold fu
  simp
theorem fu_up {σ : pz_Sg} {a j : Nat} {v : Int32} : (pz_up σ a j v).1 = fu σ.1 a j v := rfl
/-- class's cells of T, the reference's of G -/
def Ms (T : pz_Sg) (G : iv_F) : pz_Sg := (fun a => if a ≤ 54 ∨ 103 ≤ a then T.1 a else G a, T.2)
theorem Ms_r {T : pz_Sg} {G : iv_F} {a : Nat} (h : 55 ≤ a ∧ a ≤ 102) : (Ms T G).1 a = G a := if_neg (by omega)
theorem Ms_u {T : pz_Sg} {G : iv_F} {a j : Nat} {v : Int32} (h : 55 ≤ a ∧ a ≤ 102) : pz_up (Ms T G) a j v = Ms T (fu G a j v) := by
  refine Prod.ext (funext fun x => funext fun y => ?_) rfl
  show (if x = a ∧ y = j then v else (if x ≤ 54 ∨ 103 ≤ x then T.1 x else G x) y) = (if x ≤ 54 ∨ 103 ≤ x then T.1 x else fu G a j v x) y
  by_cases hx : x ≤ 54 ∨ 103 ≤ x
  · rw [if_neg (by omega), if_pos hx, if_pos hx]
  · rw [if_neg hx, if_neg hx]
    rfl
def mxf (F G : iv_F) : iv_F := fun a => if a ≤ 54 then F a else G a
theorem mx_c {F G : iv_F} {a : Nat} (h : a ≤ 54) : mxf F G a = F a := if_pos h
theorem mx_g {F G : iv_F} {a : Nat} (h : 55 ≤ a) : mxf F G a = G a := if_neg (by omega)
/-- cells that a RUN may change -/
def rcN (a : Nat) : Bool := (decide (16 ≤ a) && decide (a ≤ 20)) || (decide (39 ≤ a) && decide (a ≤ 45))
def rgN (a : Nat) : Bool := (decide (73 ≤ a) && decide (a ≤ 77)) || (decide (89 ≤ a) && decide (a ≤ 94)) || a == 55
def rjN (j : Nat) : Bool := j == 22 || j == 27 || j == 41 || (decide (46 ≤ j) && decide (j ≤ 55)) || j == 58 || j == 59
/-- B keeps the class's own cells 95 to 102 beyond -/
def rBi (a : Nat) : Nat := if 95 ≤ a ∧ a ≤ 102 then a + 2000 else a
def rFr (B F G : iv_F) : Prop := (∀ a, (a ≤ 102 ∨ a = 1000 ∨ a = 1001) → rcN a = false → F a = B (rBi a)) ∧ (∀ a, (55 ≤ a ∧ a ≤ 102) → rgN a = false → G a = B a) ∧ ∀ j, rjN j = false → G 55 j = B 55 j
/-- what was printed -/
def rPr (F G : iv_F) (pr : Nat) : Prop := F 16 1 = nI pr ∧ G 55 27 = nI pr ∧ (∀ k, k < 200 → k < pr → F 20 k = G 77 k) ∧ pr ≤ 1000000
/-- a frame: METHOD, line -/
def rFm (B : iv_F) (nm : Nat) (F G : iv_F) (j : Nat) (m l l' : Nat) : Prop := m < nm ∧ (F 41 j = nI m ∧ G 89 j = nI m) ∧ (F 42 j = nI l ∧ G 90 j = nI l') ∧ (l ≤ 25 ∧ l' ≤ 25) ∧ (l = l' ∨ ((B 9 m).toNatClampNeg ≤ l ∧ (B 9 m).toNatClampNeg ≤ l'))
/-- a frame that calls the next -/
def rCa (B : iv_F) (F : iv_F) (j m l : Nat) : Prop := l < (B 9 m).toNatClampNeg ∧ B 10 (24 * m + l) = nI 21 ∧ F 41 (j + 1) = B 12 (24 * m + l)
def rSt (B : iv_F) (nm nx d : Nat) (F G : iv_F) : Prop := (F 39 8 = nI d ∧ G 55 41 = nI d ∧ d ≤ 12) ∧ (∀ i, i < 8 * d → F 43 i = G 91 i ∧ F 44 i = G 92 i ∧ iv_rv nx (F 44 i)) ∧ ∀ j, j < d → ∃ m l l', rFm B nm F G j m l l' ∧ (j + 1 < d → l = l' ∧ rCa B F j m l)
def rCt (dn fl : Nat) (F G : iv_F) : Prop := (F 40 3 = nI dn ∧ G 55 47 = nI dn ∧ dn ≤ 500) ∧ (F 39 9 = nI fl ∧ G 55 48 = nI fl ∧ fl ≤ 41)
def rTh (t0 pb nx pr : Nat) (F G : iv_F) : Prop := (F 39 10 = nI t0 ∧ G 55 49 = nI t0 ∧ t0 ≤ nx) ∧ G 55 50 = nI pb ∧ F 40 2 = nI (pr - pb) ∧ pb ≤ pr
def rEf (F G : iv_F) : Prop := F 40 0 = G 55 54 ||| G 55 58 ∧ F 40 1 = G 55 55 ||| G 55 59
def rEn (d : Nat) (F G : iv_F) : Prop := F 40 6 = G 55 51 ∧ F 40 5 = G 55 52 ∧ (0 < d → F 40 6 = 0 ∧ F 40 5 = 0) ∧ ∃ f, f ≤ 9 ∧ F 40 6 = nI f ∧ (f = 0 ∨ F 40 5 = 0)
/-- a place of THING x that m0 was foreseen to read (c = 33) or write (c = 34) -/
def rOk (B : iv_F) (m0 t1 c x p : Nat) : Prop := bB (B c (4 * m0 + 3)) p ∨ ∃ k, k < (B 7 m0).toNatClampNeg ∧ B 54 (t1 + k) = nI x ∧ bB (B c (4 * m0 + k)) p
/-- something was done that was not foreseen -/
def rBd (B : iv_F) (m0 t1 t0 : Nat) (G : iv_F) : Prop := (∃ p, bB (G 55 58) p ∧ ¬ bB (B 33 (4 * m0 + 3)) p) ∨ (∃ p, bB (G 55 59) p ∧ ¬ bB (B 34 (4 * m0 + 3)) p) ∨ ∃ x p, x < t0 ∧ ((bB (G 93 x) p ∧ ¬ rOk B m0 t1 33 x p) ∨ (bB (G 94 x) p ∧ ¬ rOk B m0 t1 34 x p))
def rSu (B : iv_F) (m0 t1 t0 : Nat) (wv : Int32) (F G : iv_F) : Prop := F 39 11 = wv ∧ (wv = 0 ∨ wv = 1) ∧ F 41 0 = nI m0 ∧ (∀ k, k < (B 7 m0).toNatClampNeg → F 45 k = B 54 (t1 + k)) ∧ (wv = 0 → F 40 7 = 0) ∧ (wv = 1 → (F 40 7 = 0 ∨ F 40 7 = 1) ∧ (F 40 7 = 1 ↔ rBd B m0 t1 t0 G))
/-- what is fixed for a RUN: the program, its METHOD, where its args begin, how much there was, whether it is watched -/
def rQ (B : iv_F) (nt nf ns nm m0 t1 : Nat) : Prop := fP B nt nf ns nm ∧ iv_ty B nt ∧ iv_fl B nt nf ∧ iv_rf B nf ∧ (B 1 1 = nI nf ∧ B 55 2 = nI nf) ∧ m0 < nm ∧ t1 + 3 ≤ 6
def RR (B : iv_F) (nt ns nm m0 t1 t0 pb : Nat) (wv : Int32) (d nx dn fl pr : Nat) (F G : iv_F) : Prop := rFr B F G ∧ iv_wd (mxf F G) nt ns nx ∧ rPr F G pr ∧ rSt B nm nx d F G ∧ rCt dn fl F G ∧ rTh t0 pb nx pr F G ∧ rEf F G ∧ rEn d F G ∧ rSu B m0 t1 t0 wv F G ∧ G 55 46 = 0 ∧ ∀ x, x < t0 → F 17 x = B 17 x
/-- the result of a RUN that ended with none of the faults, where it is a reference -/
def rFn (B : iv_F) (m0 nx : Nat) (F : iv_F) : Prop := F 40 6 = 0 → B 8 m0 = nI 2 → iv_rv nx (F 40 5)
/-! each speaks of its own cells -/
theorem rFr_f {B F G : iv_F} (h : rFr B F G) {a j : Nat} {v : Int32} (ha : rcN a = true) : rFr B (fu F a j v) G := ⟨fun b hb hn => by rw [fu_o (fun e => by rw [e, ha] at hn; cases hn)]; exact h.1 b hb hn, h.2⟩
theorem rFr_g {B F G : iv_F} (h : rFr B F G) {a j : Nat} {v : Int32} (ha : rgN a = true) (h5 : a ≠ 55) : rFr B F (fu G a j v) := ⟨h.1, fun b hb hn => by rw [fu_o (fun e => by rw [e, ha] at hn; cases hn)]; exact h.2.1 b hb hn, fun j' hj => by rw [fu_o (Ne.symm h5)]; exact h.2.2 j' hj⟩
theorem rFr_5 {B F G : iv_F} (h : rFr B F G) {j : Nat} {v : Int32} (hj : rjN j = true) : rFr B F (fu G 55 j v) := ⟨h.1, fun b hb hn => by rw [fu_o (fun e => by rw [e] at hn; cases hn)]; exact h.2.1 b hb hn, fun j' hn => by rw [fu_j (fun e => by rw [e, hj] at hn; cases hn)]; exact h.2.2 j' hn⟩
theorem rWd_c {F G F' G' : iv_F} {nt ns nx : Nat} (h1 : ∀ a, iv_wdN a = true → a ≤ 54 → F' a = F a) (h2 : ∀ a, iv_wdN a = true → 55 ≤ a → G' a = G a) (h3 : F' 16 0 = F 16 0) (h4 : G' 55 22 = G 55 22) (H : iv_wd (mxf F G) nt ns nx) : iv_wd (mxf F' G') nt ns nx := by
  refine iv_wd_c (F := mxf F G) (fun a ha j => ?_) ?_ ?_ H
  · by_cases h : a ≤ 54
    · rw [mx_c h, mx_c h, h1 a ha h]
    · rw [mx_g (by omega), mx_g (by omega), h2 a ha (by omega)]
  · exact h3
  · exact h4
theorem rSt_c {B F G F' G' : iv_F} {nm nx d : Nat} (h8 : F' 39 8 = F 39 8) (h41 : F' 41 = F 41) (h42 : F' 42 = F 42) (h43 : F' 43 = F 43) (h44 : F' 44 = F 44) (g41 : G' 55 41 = G 55 41) (g89 : G' 89 = G 89) (g90 : G' 90 = G 90) (g91 : G' 91 = G 91) (g92 : G' 92 = G 92) (H : rSt B nm nx d F G) : rSt B nm nx d F' G' := by
  unfold rSt rFm rCa at *
  rw [h8, h41, h42, h43, h44, g41, g89, g90, g91, g92]
  exact H
theorem rSu_c {B F G F' G' : iv_F} {m0 t1 t0 : Nat} {wv : Int32} (h11 : F' 39 11 = F 39 11) (h41 : F' 41 0 = F 41 0) (h45 : F' 45 = F 45) (h7 : F' 40 7 = F 40 7) (g58 : G' 55 58 = G 55 58) (g59 : G' 55 59 = G 55 59) (g93 : G' 93 = G 93) (g94 : G' 94 = G 94) (H : rSu B m0 t1 t0 wv F G) : rSu B m0 t1 t0 wv F' G' := by
  unfold rSu rBd at *
  rw [h11, h41, h45, h7, g58, g59, g93, g94]
  exact H
/-- one LINE more done -/
theorem rr_cnt {B : iv_F} {nt ns nm m0 t1 t0 pb : Nat} {wv : Int32} {d nx dn fl pr : Nat} {F G : iv_F} (H : RR B nt ns nm m0 t1 t0 pb wv d nx dn fl pr F G) (h : dn < 500) : RR B nt ns nm m0 t1 t0 pb wv d nx (dn + 1) fl pr (fu F 40 3 (nI (dn + 1))) (fu G 55 47 (nI (dn + 1))) := by
  obtain ⟨a1, a2, a3, a4, ⟨⟨c1, c2, c3⟩, c4⟩, a6, a7, a8, a9, a10⟩ := H
  refine ⟨rFr_5 (rFr_f a1 rfl) rfl, rWd_c (fun a h _ => fu_o (fun e => by rw [e] at h; cases h)) (fun a h _ => fu_o (fun e => by rw [e] at h; cases h)) rfl rfl a2, a3, rSt_c rfl rfl rfl rfl rfl rfl rfl rfl rfl rfl a4, ⟨⟨rfl, rfl, by omega⟩, c4⟩, a6, a7, a8, rSu_c rfl rfl rfl rfl rfl rfl rfl rfl a9, a10⟩
/-- a number local told -/
theorem rr_num {B : iv_F} {nt ns nm m0 t1 t0 pb : Nat} {wv : Int32} {d nx dn fl pr : Nat} {F G : iv_F} (H : RR B nt ns nm m0 t1 t0 pb wv d nx dn fl pr F G) (i : Nat) (v : Int32) : RR B nt ns nm m0 t1 t0 pb wv d nx dn fl pr (fu F 43 i v) (fu G 91 i v) := by
  obtain ⟨a1, a2, a3, ⟨s1, s2, s3⟩, a5, a6, a7, a8, a9, a10⟩ := H
  refine ⟨rFr_g (rFr_f a1 rfl) rfl (by decide), rWd_c (fun a h _ => fu_o (fun e => by rw [e] at h; cases h)) (fun a h _ => fu_o (fun e => by rw [e] at h; cases h)) rfl rfl a2, a3, ⟨s1, fun j hj => ⟨?_, (s2 j hj).2⟩, s3⟩, a5, a6, a7, a8, rSu_c rfl rfl rfl rfl rfl rfl rfl rfl a9, a10⟩
  rw [fu_w, fu_w]
  split
  · rfl
  · exact (s2 j hj).1
/-- a reference local told -/
theorem rr_ref {B : iv_F} {nt ns nm m0 t1 t0 pb : Nat} {wv : Int32} {d nx dn fl pr : Nat} {F G : iv_F} (H : RR B nt ns nm m0 t1 t0 pb wv d nx dn fl pr F G) (i : Nat) {v : Int32} (hv : iv_rv nx v) : RR B nt ns nm m0 t1 t0 pb wv d nx dn fl pr (fu F 44 i v) (fu G 92 i v) := by
  obtain ⟨a1, a2, a3, ⟨s1, s2, s3⟩, a5, a6, a7, a8, a9, a10⟩ := H
  refine ⟨rFr_g (rFr_f a1 rfl) rfl (by decide), rWd_c (fun a h _ => fu_o (fun e => by rw [e] at h; cases h)) (fun a h _ => fu_o (fun e => by rw [e] at h; cases h)) rfl rfl a2, a3, ⟨s1, fun j hj => ⟨(s2 j hj).1, ?_⟩, s3⟩, a5, a6, a7, a8, rSu_c rfl rfl rfl rfl rfl rfl rfl rfl a9, a10⟩
  rw [fu_w, fu_w]
  split
  · exact ⟨rfl, hv⟩
  · exact (s2 j hj).2
/-- the top frame's line told -/
theorem rr_line {B : iv_F} {nt ns nm m0 t1 t0 pb : Nat} {wv : Int32} {d nx dn fl pr : Nat} {F G : iv_F} (H : RR B nt ns nm m0 t1 t0 pb wv (d + 1) nx dn fl pr F G) {m k k' : Nat} (hm : F 41 d = nI m) (mn : m < nm) (bm : nm ≤ 10) (hk : k ≤ 25 ∧ k' ≤ 25) (hkk : k = k' ∨ ((B 9 m).toNatClampNeg ≤ k ∧ (B 9 m).toNatClampNeg ≤ k')) : RR B nt ns nm m0 t1 t0 pb wv (d + 1) nx dn fl pr (fu F 42 d (nI k)) (fu G 90 d (nI k')) := by
  obtain ⟨a1, a2, a3, ⟨s1, s2, s3⟩, a5, a6, a7, a8, a9, a10⟩ := H
  refine ⟨rFr_g (rFr_f a1 rfl) rfl (by decide), rWd_c (fun a h _ => fu_o (fun e => by rw [e] at h; cases h)) (fun a h _ => fu_o (fun e => by rw [e] at h; cases h)) rfl rfl a2, a3, ⟨s1, s2, fun j hj => ?_⟩, a5, a6, a7, a8, rSu_c rfl rfl rfl rfl rfl rfl rfl rfl a9, a10⟩
  obtain ⟨m', l, l', ⟨h1, ⟨h2, h2'⟩, h3, h4⟩, h5⟩ := s3 j hj
  by_cases e : j = d
  · subst e
    have em : m' = m := (nI_eq (by omega) (by omega)).mp (h2.symm.trans hm)
    subst em
    exact ⟨m', k, k', ⟨h1, ⟨h2, h2'⟩, ⟨fu_s, fu_s⟩, hk, hkk⟩, fun z => absurd z (by omega)⟩
  · exact ⟨m', l, l', ⟨h1, ⟨h2, h2'⟩, ⟨(fu_j e).trans h3.1, (fu_j e).trans h3.2⟩, h4⟩, h5⟩
