/-! ===== the class's Foresight: its steps, walked ===== -/
theorem w_add33 {σ : pz_Sg} {j : Nat} (hj : j < 40) (v : Int32) : pz_WP 15 (0, pz_en 5 [.ref 31, .ref 33, .int (nI j), .int v], []) σ (pz_is none (fadd 31 8 σ 33 j v)) := by
  have vj : vp_in (nI j) 40 := vp_in_nI hj (by decide)
  refine pv_15r31_33 _ _ σ _ ?_
  rw [nI_clamp (by omega)]
  refine ⟨vj, vj, fun z => ⟨rfl, (fadd_y z).symm⟩, fun z => ⟨vj, ?_⟩⟩
  rintro σ1 rfl σ2 rfl
  exact ⟨rfl, (fadd_n z).symm⟩
theorem w_add34 {σ : pz_Sg} {j : Nat} (hj : j < 40) (v : Int32) : pz_WP 15 (0, pz_en 5 [.ref 31, .ref 34, .int (nI j), .int v], []) σ (pz_is none (fadd 31 8 σ 34 j v)) := by
  have vj : vp_in (nI j) 40 := vp_in_nI hj (by decide)
  refine pv_15r31_34 _ _ σ _ ?_
  rw [nI_clamp (by omega)]
  refine ⟨vj, vj, fun z => ⟨rfl, (fadd_y z).symm⟩, fun z => ⟨vj, ?_⟩⟩
  rintro σ1 rfl σ2 rfl
  exact ⟨rfl, (fadd_n z).symm⟩
theorem w_add35 {σ : pz_Sg} {j : Nat} (hj : j < 10) (v : Int32) : pz_WP 15 (0, pz_en 5 [.ref 31, .ref 35, .int (nI j), .int v], []) σ (pz_is none (fadd 31 8 σ 35 j v)) := by
  have vj : vp_in (nI j) 10 := vp_in_nI hj (by decide)
  refine pv_15r31_35 _ _ σ _ ?_
  rw [nI_clamp (by omega)]
  refine ⟨vj, vj, fun z => ⟨rfl, (fadd_y z).symm⟩, fun z => ⟨vj, ?_⟩⟩
  rintro σ1 rfl σ2 rfl
  exact ⟨rfl, (fadd_n z).symm⟩
theorem w_add36 {σ : pz_Sg} {j : Nat} (hj : j < 10) (v : Int32) : pz_WP 15 (0, pz_en 5 [.ref 31, .ref 36, .int (nI j), .int v], []) σ (pz_is none (fadd 31 8 σ 36 j v)) := by
  have vj : vp_in (nI j) 10 := vp_in_nI hj (by decide)
  refine pv_15r31_36 _ _ σ _ ?_
  rw [nI_clamp (by omega)]
  refine ⟨vj, vj, fun z => ⟨rfl, (fadd_y z).symm⟩, fun z => ⟨vj, ?_⟩⟩
  rintro σ1 rfl σ2 rfl
  exact ⟨rfl, (fadd_n z).symm⟩
theorem fadd_b {σ : pz_Sg} {a m : Nat} (h : σ.1 a m = 0 ∨ σ.1 a m = 1) : (σ.1 a m = 0 → pz_up (pz_up σ a m 1) 31 8 1 = fadd 31 8 σ a m 1) ∧ (¬ σ.1 a m = 0 → σ = fadd 31 8 σ a m 1) := by
  refine ⟨fun z => ?_, fun z => ?_⟩
  · rw [fadd_n (by rw [z]; decide), z]
    rfl
  · rw [fadd_y (by rw [h.resolve_left z]; decide)]
theorem w_mayPrint {σ : pz_Sg} {m : Nat} (hm : m < 10) (h : σ.1 37 m = 0 ∨ σ.1 37 m = 1) : pz_WP 16 (0, pz_en 2 [.ref 31, .int (nI m)], []) σ (pz_is none (fadd 31 8 σ 37 m 1)) := by
  have vm : vp_in (nI m) 10 := vp_in_nI hm (by decide)
  refine pv_16 _ σ _ ?_
  rw [nI_clamp (by omega)]
  refine ⟨vm, fun z => ⟨vm, ?_⟩, fun z => ⟨rfl, (fadd_b h).2 z⟩⟩
  rintro σ1 rfl σ2 rfl
  exact ⟨rfl, (fadd_b h).1 z⟩
theorem w_end {F : iv_F} {σ : pz_Sg} {m : Nat} (hm : m < 10) (h : σ.1 38 m = 0 ∨ σ.1 38 m = 1) (h8 : σ.1 8 = F 8) (x : Int32) : pz_WP 14 (0, pz_en 3 [.ref 31, .int (nI m), .int x], []) σ (pz_is none (fend F σ m x)) := by
  have vm : vp_in (nI m) 10 := vp_in_nI hm (by decide)
  have go : ∀ s : pz_Sg, s = fadd 31 8 σ 38 m 1 → pz_WP 14 (21, [some (.ref 31), some (.int (nI m)), some (.int x)], []) s (pz_is none (fend F σ m x)) := by
    rintro s rfl
    refine pv_14_21 _ _ _ _ ?_
    rw [nI_clamp (by omega), fadd_o (by decide) (by decide), h8]
    refine ⟨vm, fun z => pz_kv (w_add36 hm x) ?_, fun z => ?_⟩
    · exact ⟨rfl, by unfold fend; rw [if_pos z]⟩
    · exact ⟨rfl, by unfold fend; rw [if_neg z]⟩
  refine pv_14 _ _ σ _ ?_
  rw [nI_clamp (by omega)]
  refine ⟨vm, fun z => ⟨vm, ?_⟩, fun z => go _ ((fadd_b h).2 z)⟩
  rintro σ1 rfl σ2 rfl
  exact go _ ((fadd_b h).1 z)
theorem w_reach {F : iv_F} {nm : Nat} {X : fX} {σ : pz_Sg} (bm : nm ≤ 10) (hL : ∀ m, m < nm → ∃ y, y ≤ 24 ∧ F 9 m = nI y) (H : fI F nm X σ) {m l : Nat} (hm : m < nm) (hl : l < 100) (w : Int64) : pz_WP 13 (0, pz_en 8 [.ref 31, .int (nI m), .int (nI l), .long w], []) σ (pz_is none (freach F σ m l w)) := by
  have vm : vp_in (nI m) 10 := vp_in_nI (by omega) (by decide)
  have cm : (nI m).toNatClampNeg = m := nI_clamp (by omega)
  obtain ⟨y, hy, e⟩ := hL m hm
  have e9 : σ.1 9 m = nI y := by rw [H.1 9 rfl]; exact e
  have ey : (F 9 m).toNatClampNeg = y := by rw [e]; exact nI_clamp (by omega)
  refine pv_13 _ _ _ σ _ ?_
  rw [cm, e9]
  unfold freach
  rw [ey]
  refine ⟨vm, fun z => ?_, fun z => ?_⟩
  · have hly : l < y := (nI_ltI (by omega) (by omega)).mp z
    have ix : nI m * nI 24 + nI l = nI (24 * m + l) := by rw [pk_mul, nI_add, Nat.mul_comm]
    have vi : vp_in (nI (24 * m + l)) 240 := vp_in_nI (by omega) (by decide)
    rw [if_pos hly, ix, nI_clamp (by omega)]
    refine ⟨vi, vi, fun q => ⟨rfl, ?_⟩, fun q => ⟨vi, ?_⟩⟩
    · exact (if_pos (lg0.mp q)).symm
    · rintro σ1 rfl σ2 rfl
      exact ⟨rfl, (if_neg (fun u => q (lg0.mpr u))).symm⟩
  · have hly : ¬ l < y := fun u => z ((nI_ltI (by omega) (by omega)).mpr u)
    rw [if_neg hly]
    exact pz_kv (w_end (F := F) (by omega) (H.2.2.2.2 m (by omega)).2 (H.1 8 rfl) 1) ⟨rfl, rfl⟩
theorem w_touch33 {σ : pz_Sg} {m : Nat} (hm : m < 10) (is pl : Int32) : pz_WP 18 (0, pz_en 6 [.ref 31, .ref 33, .int (nI m), .int is, .int pl], []) σ (pz_is none (ftouch 33 σ m is pl)) := by
  have t5 : is &&& nI 32 = 0 ↔ bt is 5 = false := b_an1 (k := 5) (by decide)
  have tk : ∀ k, k < 3 → (is &&& (nI 4 <<< (nI k &&& 31)) = 0 ↔ bt is (k + 2) = false) := fun k hk => by
    rw [(by decide +kernel : ∀ k, k < 3 → nI 4 <<< (nI k &&& 31) = (1 : Int32) <<< (nI (k + 2) &&& 31)) k hk]
    exact b_an1 (by omega)
  have ix : ∀ k, nI m * nI 4 + nI k = nI (4 * m + k) := fun k => by rw [pk_mul, nI_add, Nat.mul_comm]
  have st : ∀ (k : Nat) (s : pz_Sg) {P : pz_Ps}, k < 3 → pz_WP 18 (3, [some (.ref 31), some (.ref 33), some (.int (nI m)), some (.int is), some (.int pl), some (.int (nI (k + 1)))], []) (fth 33 s m is pl k) P → pz_WP 18 (3, [some (.ref 31), some (.ref 33), some (.int (nI m)), some (.int is), some (.int pl), some (.int (nI k))], []) s P := by
    intro k s P hk h
    refine pv_18r31_33_3 _ _ _ _ s _ ⟨fun z => absurd z (nI_ge hk (by decide)), fun _ => ?_⟩
    rw [ix, nI_1]
    refine ⟨fun z => ?_, fun z => pz_kv (w_add33 (by omega) pl) ?_⟩
    · have e : fth 33 s m is pl k = s := if_neg (by rw [(tk k hk).mp z]; decide)
      rw [e] at h
      exact h
    · have e : fth 33 s m is pl k = fadd 31 8 s 33 (4 * m + k) pl := if_pos (by cases y : bt is (k + 2) with | true => rfl | false => exact absurd ((tk k hk).mpr y) z)
      rw [e] at h
      exact h
  refine pv_18r31_33 _ _ _ σ _ (st 0 _ (by decide) (st 1 _ (by decide) (st 2 _ (by decide) ?_)))
  refine pv_18r31_33_3 _ _ _ _ _ _ ⟨fun _ => ⟨fun z => ?_, fun z => ?_⟩, fun z => absurd (by decide) z⟩
  · exact ⟨rfl, (if_neg (by rw [t5.mp z]; decide)).symm⟩
  · rw [ix]
    refine pz_kv (w_add33 (by omega) pl) ⟨rfl, ?_⟩
    exact (if_pos (by cases y : bt is 5 with | true => rfl | false => exact absurd (t5.mpr y) z)).symm
theorem w_touch34 {σ : pz_Sg} {m : Nat} (hm : m < 10) (is pl : Int32) : pz_WP 18 (0, pz_en 6 [.ref 31, .ref 34, .int (nI m), .int is, .int pl], []) σ (pz_is none (ftouch 34 σ m is pl)) := by
  have t5 : is &&& nI 32 = 0 ↔ bt is 5 = false := b_an1 (k := 5) (by decide)
  have tk : ∀ k, k < 3 → (is &&& (nI 4 <<< (nI k &&& 31)) = 0 ↔ bt is (k + 2) = false) := fun k hk => by
    rw [(by decide +kernel : ∀ k, k < 3 → nI 4 <<< (nI k &&& 31) = (1 : Int32) <<< (nI (k + 2) &&& 31)) k hk]
    exact b_an1 (by omega)
  have ix : ∀ k, nI m * nI 4 + nI k = nI (4 * m + k) := fun k => by rw [pk_mul, nI_add, Nat.mul_comm]
  have st : ∀ (k : Nat) (s : pz_Sg) {P : pz_Ps}, k < 3 → pz_WP 18 (3, [some (.ref 31), some (.ref 34), some (.int (nI m)), some (.int is), some (.int pl), some (.int (nI (k + 1)))], []) (fth 34 s m is pl k) P → pz_WP 18 (3, [some (.ref 31), some (.ref 34), some (.int (nI m)), some (.int is), some (.int pl), some (.int (nI k))], []) s P := by
    intro k s P hk h
    refine pv_18r31_34_3 _ _ _ _ s _ ⟨fun z => absurd z (nI_ge hk (by decide)), fun _ => ?_⟩
    rw [ix, nI_1]
    refine ⟨fun z => ?_, fun z => pz_kv (w_add34 (by omega) pl) ?_⟩
    · have e : fth 34 s m is pl k = s := if_neg (by rw [(tk k hk).mp z]; decide)
      rw [e] at h
      exact h
    · have e : fth 34 s m is pl k = fadd 31 8 s 34 (4 * m + k) pl := if_pos (by cases y : bt is (k + 2) with | true => rfl | false => exact absurd ((tk k hk).mpr y) z)
      rw [e] at h
      exact h
  refine pv_18r31_34 _ _ _ σ _ (st 0 _ (by decide) (st 1 _ (by decide) (st 2 _ (by decide) ?_)))
  refine pv_18r31_34_3 _ _ _ _ _ _ ⟨fun _ => ⟨fun z => ?_, fun z => ?_⟩, fun z => absurd (by decide) z⟩
  · exact ⟨rfl, (if_neg (by rw [t5.mp z]; decide)).symm⟩
  · rw [ix]
    refine pz_kv (w_add34 (by omega) pl) ⟨rfl, ?_⟩
    exact (if_pos (by cases y : bt is 5 with | true => rfl | false => exact absurd (t5.mpr y) z)).symm
/-- where a fault is caught: what the class, and what the reference tells of it -/
def fkv (t : Nat) : Int32 := if t = 0 then -1 else nI (t - 1)
theorem w_catch1 {F : iv_F} {nm : Nat} {σ : pz_Sg} (bm : nm ≤ 10) (h14 : σ.1 14 = F 14) (h15 : σ.1 15 = F 15) (hc : iv_ca F nm) {m l f cn : Nat} (hm : m < nm) (hcn : F 14 m = nI cn) (bc : cn ≤ 4) : ∀ d k, k + d = cn → pz_WP 65 (3, [some (.ref 1), some (.int (nI m)), some (.int (nI l)), some (.int (nI f)), some (.int (nI k)), none, none], []) σ (pz_is (some (.int (fkv (fk_go F m l f d k)))) σ) := by
  have cm : (nI m).toNatClampNeg = m := nI_clamp (by omega)
  have vm : vp_in (nI m) 10 := vp_in_nI (by omega) (by decide)
  intro d
  induction d with
  | zero =>
    intro k hk
    have hk : k = cn := by omega
    subst hk
    refine pv_65_3 _ _ _ _ σ _ ?_
    rw [cm, h14, hcn]
    exact ⟨vm, fun _ => ⟨rfl, rfl⟩, fun z => absurd (Int32.le_refl _) z⟩
  | succ d ih =>
    intro k hk
    have kc : k < cn := by omega
    obtain ⟨⟨e0, e1, e2, e3⟩, v0, v1, v2, v3⟩ := hc m hm k (by rw [hcn, nI_clamp (by omega)]; exact kc)
    have ix : (nI m * nI 4 + nI k) * nI 4 = nI (16 * m + 4 * k) := by
      rw [pk_mul, nI_add, pk_mul]
      congr 1
      omega
    have next := ih (k + 1) (by omega)
    -- not this one
    have no : ¬ fk_is F m l f k → fk_go F m l f (d + 1) k = fk_go F m l f d (k + 1) := fun z => if_neg z
    have yes : fk_is F m l f k → fk_go F m l f (d + 1) k = (F 72 (4 * m + k)).toNatClampNeg + 1 := fun z => if_pos z
    have s0 : ¬ (¬ nI l < F 69 (4 * m + k) ∧ ¬ F 70 (4 * m + k) ≤ nI l) → pz_WP 65 (53, [some (.ref 1), some (.int (nI m)), some (.int (nI l)), some (.int (nI f)), some (.int (nI k)), some (.int (nI (16 * m + 4 * k))), none], [.int 0]) σ (pz_is (some (.int (fkv (fk_go F m l f (d + 1) k)))) σ) := fun z => by
      refine pv_65_53 _ _ _ _ _ _ σ _ ⟨fun _ => ?_, fun y => absurd rfl y⟩
      rw [no (fun y => z y.1), nI_1]
      exact next
    refine pv_65_3 _ _ _ _ σ _ ?_
    rw [cm, h14, hcn, h15, ix, nI_1, nI_clamp (by omega), nI_clamp (by omega), e0, e1]
    refine ⟨vm, fun z => absurd z (nI_ge kc (by omega)), fun _ => ⟨vp_in_nI (by omega) (by decide), fun z => s0 (fun y => y.1 z), fun z => ⟨vp_in_nI (by omega) (by decide), fun y => s0 (fun u => u.2 y), fun y => ?_⟩⟩⟩
    refine pv_65_53 _ _ _ _ _ _ σ _ ⟨fun u => absurd u (by decide), fun _ => ?_⟩
    rw [h15, nI_add, nI_add, nI_clamp (by omega), nI_clamp (by omega), e2, e3]
    have w2 : vp_in (nI (16 * m + 4 * k + 2)) 160 := vp_in_nI (by omega) (by decide)
    have w3 : vp_in (nI (16 * m + 4 * k + 3)) 160 := vp_in_nI (by omega) (by decide)
    have fin : fk_is F m l f k → pz_is (some (.int (fkv (fk_go F m l f (d + 1) k)))) σ (some (.int (F 72 (4 * m + k)))) σ := fun u => by
      rw [yes u]
      refine pz_ans ?_ rfl
      show _ = nI ((F 72 (4 * m + k)).toNatClampNeg + 1 - 1)
      rw [Nat.add_sub_cancel]
      exact (vp_N v3 (by decide)).2
    refine ⟨w2, fun u => ⟨w3, fin ⟨⟨z, y⟩, Or.inl u⟩⟩, fun u => ⟨w2, fun u2 => ⟨w3, fin ⟨⟨z, y⟩, Or.inr u2⟩⟩, fun u2 => ?_⟩⟩
    rw [no (fun q => q.2.elim u u2), nI_1]
    exact next
theorem w_catch {F : iv_F} {nm : Nat} {σ : pz_Sg} (bm : nm ≤ 10) (h14 : σ.1 14 = F 14) (h15 : σ.1 15 = F 15) (hc : iv_ca F nm) (h4 : ∀ m, m < nm → ∃ y, y ≤ 4 ∧ F 14 m = nI y) {m l f : Nat} (hm : m < nm) : pz_WP 65 (0, pz_en 7 [.ref 1, .int (nI m), .int (nI l), .int (nI f)], []) σ (pz_is (some (.int (fkv (fk F m l f)))) σ) := by
  obtain ⟨y, hy, e⟩ := h4 m hm
  have := w_catch1 (l := l) (f := f) bm h14 h15 hc hm e hy y 0 (by omega)
  unfold fk
  rw [e, nI_clamp (by omega)]
  exact pv_65 _ _ _ σ _ this
theorem fk_le {F : iv_F} {nm m l f : Nat} (hc : iv_ca F nm) (hm : m < nm) : ∀ d k, k + d = (F 14 m).toNatClampNeg → fk_go F m l f d k ≤ 25
  | 0, k, _ => Nat.zero_le _
  | d + 1, k, h => by
    unfold fk_go
    obtain ⟨-, -, -, -, v3⟩ := hc m hm k (by omega)
    split
    · have := (vp_N v3 (by decide)).1
      omega
    · exact fk_le hc hm d (k + 1) (by omega)
theorem w_mayThrow {F : iv_F} {nm : Nat} {X : fX} (bm : nm ≤ 10) (hL : ∀ m, m < nm → ∃ y, y ≤ 24 ∧ F 9 m = nI y) (hc : iv_ca F nm) (h4 : ∀ m, m < nm → ∃ y, y ≤ 4 ∧ F 14 m = nI y) {m l : Nat} (hm : m < nm) (hl : l < (F 9 m).toNatClampNeg) (th : Int32) : ∀ d f σ, f + d = 10 → fI F nm X σ → ¬ σ.2 32 (24 * m + l) = 0 → (∀ g, f ≤ g → g < f + d → bB th g → fTh F X m l g) → pz_WP 17 (3, [some (.ref 31), some (.int (nI m)), some (.int (nI l)), some (.int th), some (.int (nI f)), none], []) σ (pz_is none (fthrs F m l th d f σ)) := by
  have hL' : ∀ m, m < nm → (F 9 m).toNatClampNeg ≤ 24 := fun m hm => by
    obtain ⟨y, hy, e⟩ := hL m hm
    rw [e, nI_clamp (by omega)]
    exact hy
  have bl := hL' m hm
  intro d
  induction d with
  | zero =>
    intro f σ hf _ _ _
    have hf : f = 10 := by omega
    subst hf
    exact pv_17_3 _ _ _ _ σ _ ⟨fun _ => ⟨rfl, rfl⟩, fun z => absurd (by decide) z⟩
  | succ d ih =>
    intro f σ hf H hw hX
    refine pv_17_3 _ _ _ _ σ _ ⟨fun z => absurd ((nI_ltI (by decide) (by omega)).mp z) (by omega), fun _ => ?_⟩
    rw [nI_1]
    unfold fthrs
    refine ⟨fun z => ?_, fun z => ?_⟩
    · have tb : bt th f = true := (b_is (by omega)).mp z
      rw [if_pos tb]
      have g1 := fG_thr bm hL' H hm hl hw (by omega) (hX f (Nat.le_refl _) (by omega) tb)
      have next := ih (f + 1) (fthr F σ m l f) (by omega) g1.2.1 (fG_nz g1 hw) (fun g h1 h2 => hX g (by omega) (by omega))
      refine pz_ki (w_catch bm (H.1 14 rfl) (H.1 15 rfl) hc h4 hm) ⟨fun y => ?_, fun y => ?_⟩
      · have e : fk F m l f = 0 := by
          unfold fkv at y
          split at y
          · assumption
          · exact absurd y (nI_ne1 (by have := fk_le (l := l) (f := f) hc hm (F 14 m).toNatClampNeg 0 (by omega); unfold fk; omega))
        unfold fthr at next
        rw [if_pos e] at next
        unfold fthr
        rw [if_pos e]
        exact pz_kv (w_add35 (by omega) _) next
      · have e : ¬ fk F m l f = 0 := fun e => y (by unfold fkv; rw [if_pos e])
        unfold fthr at next
        rw [if_neg e] at next
        unfold fthr
        rw [if_neg e]
        have kb : fk F m l f ≤ 25 := fk_le hc hm _ 0 (by omega)
        have ix : nI m * nI 24 + nI l = nI (24 * m + l) := by rw [pk_mul, nI_add, Nat.mul_comm]
        rw [show fkv (fk F m l f) = nI (fk F m l f - 1) from if_neg e, ix, nI_clamp (by omega)]
        exact ⟨vp_in_nI (by omega) (by decide), pz_kv (w_reach bm hL H hm (by omega) _) next⟩
    · have tb : ¬ bt th f = true := fun y => z ((b_is (by omega)).mpr y)
      rw [if_neg tb]
      exact ih (f + 1) σ (by omega) H hw (fun g h1 h2 => hX g (by omega) (by omega))
