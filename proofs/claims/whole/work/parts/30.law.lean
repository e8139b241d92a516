/-! ===== THE LAW: its loop, out of what each call does ===== -/
/-- a call of the class, then of the reference: the same answer, and what stood after n calls stands after n + 1 -/
def pz_Op (I : Nat → pz_Sg → Prop) (c m nc nm : Nat) (as : List Value) : Prop := ∀ n, n < 512 → ∀ σ, I n σ → pz_WP c (0, pz_en nc (.ref 0 :: as), []) σ (fun v σ1 => ∃ r, v = some (.int r) ∧ (σ1.1 1000 = σ.1 1000 ∧ σ1.1 1001 = σ.1 1001) ∧ pz_WP m (0, pz_en nm (.ref 55 :: as), []) σ1 (fun v' σ2 => v' = some (.int r) ∧ I (n + 1) σ2))
def pz_O0 (I : Nat → pz_Sg → Prop) : Prop := ∀ (a0 : Int32), pz_Op I 82 110 2 2 [.int a0]
def pz_O1 (I : Nat → pz_Sg → Prop) : Prop := ∀ (a0 : Int32) (a1 : Int32), (a1 = 0 ∨ a1 = 1) → pz_Op I 83 112 3 4 [.int a0, .int a1]
def pz_O2 (I : Nat → pz_Sg → Prop) : Prop := ∀ (a0 : Int32), (a0 = 0 ∨ a0 = 1) → pz_Op I 84 113 2 2 [.int a0]
def pz_O3 (I : Nat → pz_Sg → Prop) : Prop := ∀ (a0 : Int32) (a1 : Int32) (a2 : Int32), pz_Op I 85 114 4 4 [.int a0, .int a1, .int a2]
def pz_O4 (I : Nat → pz_Sg → Prop) : Prop := ∀ (a0 : Int32) (a1 : Int32) (a2 : Int32) (a3 : Int32) (a4 : Int32), pz_Op I 86 119 6 7 [.int a0, .int a1, .int a2, .int a3, .int a4]
def pz_O5 (I : Nat → pz_Sg → Prop) : Prop := ∀ (a0 : Int32) (a1 : Int32) (a2 : Int32) (a3 : Int32) (a4 : Int32), pz_Op I 87 120 6 7 [.int a0, .int a1, .int a2, .int a3, .int a4]
def pz_O6 (I : Nat → pz_Sg → Prop) : Prop := ∀ (a0 : Int32), pz_Op I 88 123 2 2 [.int a0]
def pz_O7 (I : Nat → pz_Sg → Prop) : Prop := ∀ (a0 : Int32), pz_Op I 89 124 2 2 [.int a0]
def pz_O8 (I : Nat → pz_Sg → Prop) : Prop := ∀ (a0 : Int32) (a1 : Int32) (a2 : Int32), pz_Op I 90 127 4 4 [.int a0, .int a1, .int a2]
def pz_O9 (I : Nat → pz_Sg → Prop) : Prop := ∀ (a0 : Int32) (a1 : Int32), pz_Op I 91 128 3 3 [.int a0, .int a1]
def pz_O10 (I : Nat → pz_Sg → Prop) : Prop := ∀ (a0 : Int32) (a1 : Int32), pz_Op I 92 129 3 3 [.int a0, .int a1]
def pz_O11 (I : Nat → pz_Sg → Prop) : Prop := ∀ (a0 : Int32), pz_Op I 93 130 2 2 [.int a0]
def pz_O12 (I : Nat → pz_Sg → Prop) : Prop := ∀ (a0 : Int32), pz_Op I 94 131 2 2 [.int a0]
def pz_O13 (I : Nat → pz_Sg → Prop) : Prop := ∀ (a0 : Int32) (a1 : Int32) (a2 : Int32) (a3 : Int32), (a1 = 0 ∨ a1 = 1) → pz_Op I 95 132 7 7 [.int a0, .int a1, .int a2, .int a3]
def pz_O14 (I : Nat → pz_Sg → Prop) : Prop := pz_Op I 96 142 3 3 []
def pz_O15 (I : Nat → pz_Sg → Prop) : Prop := ∀ (a0 : Int32) (a1 : Int32), pz_Op I 97 146 3 3 [.int a0, .int a1]
def pz_O16 (I : Nat → pz_Sg → Prop) : Prop := ∀ (a0 : Int32) (a1 : Int32) (a2 : Int32), (a2 = 0 ∨ a2 = 1) → pz_Op I 98 147 4 4 [.int a0, .int a1, .int a2]
def pz_O17 (I : Nat → pz_Sg → Prop) : Prop := ∀ (a0 : Int32) (a1 : Int32) (a2 : Int32), pz_Op I 99 148 4 4 [.int a0, .int a1, .int a2]
def pz_O18 (I : Nat → pz_Sg → Prop) : Prop := ∀ (a0 : Int32) (a1 : Int32), pz_Op I 100 149 3 4 [.int a0, .int a1]
def pz_O19 (I : Nat → pz_Sg → Prop) : Prop := ∀ (a0 : Int32), pz_Op I 102 170 3 2 [.int a0]
def pz_O20 (I : Nat → pz_Sg → Prop) : Prop := ∀ (a0 : Int32), pz_Op I 103 171 2 2 [.int a0]
def pz_O21 (I : Nat → pz_Sg → Prop) : Prop := pz_Op I 104 172 1 1 []
def pz_O22 (I : Nat → pz_Sg → Prop) : Prop := ∀ (a0 : Int32) (a1 : Int32), pz_Op I 105 177 5 6 [.int a0, .int a1]
def pz_O23 (I : Nat → pz_Sg → Prop) : Prop := ∀ (a0 : Int32), pz_Op I 107 178 2 2 [.int a0]
def pz_O24 (I : Nat → pz_Sg → Prop) : Prop := ∀ (a0 : Int32), pz_Op I 108 179 2 2 [.int a0]
theorem qz_in {L n d : Nat} (hL : L ≤ 3072) (h : 6 * n + 6 ≤ L) (hd : d < 6) : vp_in (nI (6 * n) + nI d) L := by
  rw [nI_add]
  exact vp_in_nI (by omega) (by omega)
theorem qz_cl {n d : Nat} (h : n < 512) (hd : d < 6) : (nI (6 * n) + nI d).toNatClampNeg = 6 * n + d := by
  rw [nI_add]
  exact nI_clamp (by omega)
set_option maxHeartbeats 8000000 in
set_option maxRecDepth 100000 in
theorem law_step {I : Nat → pz_Sg → Prop} {L : Nat} {ys : Nat → Int32} (hL : L ≤ 3072) (hs : ∀ n σ, I n σ → pz_ti L ys σ) (hm : ∀ n σ, I n σ → I (n + 1) σ) (H0 : pz_O0 I) (H1 : pz_O1 I) (H2 : pz_O2 I) (H3 : pz_O3 I) (H4 : pz_O4 I) (H5 : pz_O5 I) (H6 : pz_O6 I) (H7 : pz_O7 I) (H8 : pz_O8 I) (H9 : pz_O9 I) (H10 : pz_O10 I) (H11 : pz_O11 I) (H12 : pz_O12 I) (H13 : pz_O13 I) (H14 : pz_O14 I) (H15 : pz_O15 I) (H16 : pz_O16 I) (H17 : pz_O17 I) (H18 : pz_O18 I) (H19 : pz_O19 I) (H20 : pz_O20 I) (H21 : pz_O21 I) (H22 : pz_O22 I) (H23 : pz_O23 I) (H24 : pz_O24 I) (n : Nat) (hn : 6 * n ≤ L + 5) (ih : 6 * n + 6 ≤ L → ∀ σ, I (n + 1) σ → pz_WP 180 (18, [some (.ref 1000), some (.ref 0), some (.ref 55), some (.int (nI (6 * n) + nI 6))], []) σ (fun v _ => v = some (.int 1))) (σ : pz_Sg) (hI : I n σ) : pz_WP 180 (18, [some (.ref 1000), some (.ref 0), some (.ref 55), some (.int (nI (6 * n)))], []) σ (fun v _ => v = some (.int 1)) := by
  obtain ⟨t1, t2⟩ := hs n σ hI
  have cmp : σ.1 1001 0 - nI 6 < nI (6 * n) ↔ L < 6 * n + 6 := by
    rw [t1, Int32.lt_iff_toInt_lt, show Int32.ofNat L = nI L from rfl, pk_sub_toInt (by omega) (by omega), nI_toInt (by omega)]
    omega
  refine pv_180_18 _ σ _ ⟨fun _ => rfl, fun hq => ?_⟩
  have h6 : 6 * n + 6 ≤ L := Nat.not_lt.mp fun z => hq (cmp.mpr z)
  have n5 : n < 512 := by omega
  have ih := ih h6
  have e0 : (σ.1 1001 0).toNatClampNeg = L := by rw [t1]; exact nI_clamp (by omega)
  have i0 : vp_in (nI (6 * n)) L := vp_in_nI (by omega) (by omega)
  have i1 : vp_in (nI (6 * n) + 1) L := qz_in (d := 1) hL h6 (by omega)
  have i2 := qz_in (d := 2) hL h6 (by omega)
  have i3 := qz_in (d := 3) hL h6 (by omega)
  have i4 := qz_in (d := 4) hL h6 (by omega)
  have i5 := qz_in (d := 5) hL h6 (by omega)
  rw [e0]
  refine ⟨i0, fun _ => ih σ (hm n σ hI), ?_⟩
  refine ⟨fun _ => ?_, ?_⟩
  · refine ⟨i1, _, H0 (σ.1 1000 (nI (6 * n) + 1).toNatClampNeg) n n5 σ hI, ?_⟩
    rintro r1 σ1 ⟨r, hr, ⟨q1, q2⟩, hw⟩
    cases hr
    rw [q1, q2, e0]
    refine ⟨i1, _, hw, ?_⟩
    rintro r2 σ2 ⟨h2, hJ⟩
    cases h2
    exact ⟨fun _ => ih σ2 hJ, fun z => absurd rfl z⟩
  refine ⟨fun _ => ?_, ?_⟩
  · have key : ∀ s0 : Int32, (s0 = 0 ∨ s0 = 1) → ((σ.1 1000 (nI (6 * n) + nI 2).toNatClampNeg = 0 → s0 = 0) ∧ (¬ σ.1 1000 (nI (6 * n) + nI 2).toNatClampNeg = 0 → s0 = 1)) → pz_WP 180 (190, [some (.ref 1000), some (.ref 0), some (.ref 55), some (.int (nI (6 * n)))], [.int s0, .int (σ.1 1000 (nI (6 * n) + 1).toNatClampNeg), .ref 0]) σ (fun v _ => v = some (.int 1)) := by
      intro s0 hs0 hv
      refine pv_180_190 _ s0 (σ.1 1000 (nI (6 * n) + 1).toNatClampNeg) σ _ ?_
      refine ⟨_, H1 (σ.1 1000 (nI (6 * n) + 1).toNatClampNeg) s0 hs0 n n5 σ hI, ?_⟩
      rintro r1 σ1 ⟨r, hr, ⟨q1, q2⟩, hw⟩
      cases hr
      have e1 : (σ1.1 1001 0).toNatClampNeg = L := by rw [q2]; exact e0
      have fin : pz_WP 180 (212, [some (.ref 1000), some (.ref 0), some (.ref 55), some (.int (nI (6 * n)))], [.int s0, .int (σ.1 1000 (nI (6 * n) + 1).toNatClampNeg), .ref 55, .int r1]) σ1 (fun v _ => v = some (.int 1)) := by
        refine pv_180_212 _ s0 (σ.1 1000 (nI (6 * n) + 1).toNatClampNeg) r1 σ1 _ ?_
        refine ⟨_, hw, ?_⟩
        rintro r2 σ2 ⟨h2, hJ⟩
        cases h2
        exact ⟨fun _ => ih σ2 hJ, fun z => absurd rfl z⟩
      rw [e1, q1]
      refine ⟨i1, i2, fun z => ?_, fun z => ?_⟩
      · have q := hv.1 z; subst q; exact fin
      · have q := hv.2 z; subst q; exact fin
    refine ⟨i1, i2, fun z => key 0 (Or.inl rfl) ⟨fun _ => rfl, fun y => absurd z y⟩, fun z => key 1 (Or.inr rfl) ⟨fun y => absurd y z, fun _ => rfl⟩⟩
  refine ⟨fun _ => ?_, ?_⟩
  · have key : ∀ s0 : Int32, (s0 = 0 ∨ s0 = 1) → ((σ.1 1000 (nI (6 * n) + 1).toNatClampNeg = 0 → s0 = 0) ∧ (¬ σ.1 1000 (nI (6 * n) + 1).toNatClampNeg = 0 → s0 = 1)) → pz_WP 180 (234, [some (.ref 1000), some (.ref 0), some (.ref 55), some (.int (nI (6 * n)))], [.int s0, .ref 0]) σ (fun v _ => v = some (.int 1)) := by
      intro s0 hs0 hv
      refine pv_180_234 _ s0  σ _ ?_
      refine ⟨_, H2 s0 hs0 n n5 σ hI, ?_⟩
      rintro r1 σ1 ⟨r, hr, ⟨q1, q2⟩, hw⟩
      cases hr
      have e1 : (σ1.1 1001 0).toNatClampNeg = L := by rw [q2]; exact e0
      have fin : pz_WP 180 (251, [some (.ref 1000), some (.ref 0), some (.ref 55), some (.int (nI (6 * n)))], [.int s0, .ref 55, .int r1]) σ1 (fun v _ => v = some (.int 1)) := by
        refine pv_180_251 _ s0  r1 σ1 _ ?_
        refine ⟨_, hw, ?_⟩
        rintro r2 σ2 ⟨h2, hJ⟩
        cases h2
        exact ⟨fun _ => ih σ2 hJ, fun z => absurd rfl z⟩
      rw [e1, q1]
      refine ⟨i1, fun z => ?_, fun z => ?_⟩
      · have q := hv.1 z; subst q; exact fin
      · have q := hv.2 z; subst q; exact fin
    refine ⟨i1, fun z => key 0 (Or.inl rfl) ⟨fun _ => rfl, fun y => absurd z y⟩, fun z => key 1 (Or.inr rfl) ⟨fun y => absurd y z, fun _ => rfl⟩⟩
  refine ⟨fun _ => ?_, ?_⟩
  · refine ⟨i1, i2, i3, _, H3 (σ.1 1000 (nI (6 * n) + 1).toNatClampNeg) (σ.1 1000 (nI (6 * n) + nI 2).toNatClampNeg) (σ.1 1000 (nI (6 * n) + nI 3).toNatClampNeg) n n5 σ hI, ?_⟩
    rintro r1 σ1 ⟨r, hr, ⟨q1, q2⟩, hw⟩
    cases hr
    rw [q1, q2, e0]
    refine ⟨i1, i2, i3, _, hw, ?_⟩
    rintro r2 σ2 ⟨h2, hJ⟩
    cases h2
    exact ⟨fun _ => ih σ2 hJ, fun z => absurd rfl z⟩
  refine ⟨fun _ => ?_, ?_⟩
  · refine ⟨i1, i2, i3, i4, i5, _, H4 (σ.1 1000 (nI (6 * n) + 1).toNatClampNeg) (σ.1 1000 (nI (6 * n) + nI 2).toNatClampNeg) (σ.1 1000 (nI (6 * n) + nI 3).toNatClampNeg) (σ.1 1000 (nI (6 * n) + nI 4).toNatClampNeg) (σ.1 1000 (nI (6 * n) + nI 5).toNatClampNeg) n n5 σ hI, ?_⟩
    rintro r1 σ1 ⟨r, hr, ⟨q1, q2⟩, hw⟩
    cases hr
    rw [q1, q2, e0]
    refine ⟨i1, i2, i3, i4, i5, _, hw, ?_⟩
    rintro r2 σ2 ⟨h2, hJ⟩
    cases h2
    exact ⟨fun _ => ih σ2 hJ, fun z => absurd rfl z⟩
  refine ⟨fun _ => ?_, ?_⟩
  · refine ⟨i1, i2, i3, i4, i5, _, H5 (σ.1 1000 (nI (6 * n) + 1).toNatClampNeg) (σ.1 1000 (nI (6 * n) + nI 2).toNatClampNeg) (σ.1 1000 (nI (6 * n) + nI 3).toNatClampNeg) (σ.1 1000 (nI (6 * n) + nI 4).toNatClampNeg) (σ.1 1000 (nI (6 * n) + nI 5).toNatClampNeg) n n5 σ hI, ?_⟩
    rintro r1 σ1 ⟨r, hr, ⟨q1, q2⟩, hw⟩
    cases hr
    rw [q1, q2, e0]
    refine ⟨i1, i2, i3, i4, i5, _, hw, ?_⟩
    rintro r2 σ2 ⟨h2, hJ⟩
    cases h2
    exact ⟨fun _ => ih σ2 hJ, fun z => absurd rfl z⟩
  refine ⟨fun _ => ?_, ?_⟩
  · refine ⟨i1, _, H6 (σ.1 1000 (nI (6 * n) + 1).toNatClampNeg) n n5 σ hI, ?_⟩
    rintro r1 σ1 ⟨r, hr, ⟨q1, q2⟩, hw⟩
    cases hr
    rw [q1, q2, e0]
    refine ⟨i1, _, hw, ?_⟩
    rintro r2 σ2 ⟨h2, hJ⟩
    cases h2
    exact ⟨fun _ => ih σ2 hJ, fun z => absurd rfl z⟩
  refine ⟨fun _ => ?_, ?_⟩
  · refine ⟨i1, _, H7 (σ.1 1000 (nI (6 * n) + 1).toNatClampNeg) n n5 σ hI, ?_⟩
    rintro r1 σ1 ⟨r, hr, ⟨q1, q2⟩, hw⟩
    cases hr
    rw [q1, q2, e0]
    refine ⟨i1, _, hw, ?_⟩
    rintro r2 σ2 ⟨h2, hJ⟩
    cases h2
    exact ⟨fun _ => ih σ2 hJ, fun z => absurd rfl z⟩
  refine ⟨fun _ => ?_, ?_⟩
  · refine ⟨i1, i2, i3, _, H8 (σ.1 1000 (nI (6 * n) + 1).toNatClampNeg) (σ.1 1000 (nI (6 * n) + nI 2).toNatClampNeg) (σ.1 1000 (nI (6 * n) + nI 3).toNatClampNeg) n n5 σ hI, ?_⟩
    rintro r1 σ1 ⟨r, hr, ⟨q1, q2⟩, hw⟩
    cases hr
    rw [q1, q2, e0]
    refine ⟨i1, i2, i3, _, hw, ?_⟩
    rintro r2 σ2 ⟨h2, hJ⟩
    cases h2
    exact ⟨fun _ => ih σ2 hJ, fun z => absurd rfl z⟩
  refine ⟨fun _ => ?_, ?_⟩
  · refine ⟨i1, i2, _, H9 (σ.1 1000 (nI (6 * n) + 1).toNatClampNeg) (σ.1 1000 (nI (6 * n) + nI 2).toNatClampNeg) n n5 σ hI, ?_⟩
    rintro r1 σ1 ⟨r, hr, ⟨q1, q2⟩, hw⟩
    cases hr
    rw [q1, q2, e0]
    refine ⟨i1, i2, _, hw, ?_⟩
    rintro r2 σ2 ⟨h2, hJ⟩
    cases h2
    exact ⟨fun _ => ih σ2 hJ, fun z => absurd rfl z⟩
  refine ⟨fun _ => ?_, ?_⟩
  · refine ⟨i1, i2, _, H10 (σ.1 1000 (nI (6 * n) + 1).toNatClampNeg) (σ.1 1000 (nI (6 * n) + nI 2).toNatClampNeg) n n5 σ hI, ?_⟩
    rintro r1 σ1 ⟨r, hr, ⟨q1, q2⟩, hw⟩
    cases hr
    rw [q1, q2, e0]
    refine ⟨i1, i2, _, hw, ?_⟩
    rintro r2 σ2 ⟨h2, hJ⟩
    cases h2
    exact ⟨fun _ => ih σ2 hJ, fun z => absurd rfl z⟩
  refine ⟨fun _ => ?_, ?_⟩
  · refine ⟨i1, _, H11 (σ.1 1000 (nI (6 * n) + 1).toNatClampNeg) n n5 σ hI, ?_⟩
    rintro r1 σ1 ⟨r, hr, ⟨q1, q2⟩, hw⟩
    cases hr
    rw [q1, q2, e0]
    refine ⟨i1, _, hw, ?_⟩
    rintro r2 σ2 ⟨h2, hJ⟩
    cases h2
    exact ⟨fun _ => ih σ2 hJ, fun z => absurd rfl z⟩
  refine ⟨fun _ => ?_, ?_⟩
  · refine ⟨i1, _, H12 (σ.1 1000 (nI (6 * n) + 1).toNatClampNeg) n n5 σ hI, ?_⟩
    rintro r1 σ1 ⟨r, hr, ⟨q1, q2⟩, hw⟩
    cases hr
    rw [q1, q2, e0]
    refine ⟨i1, _, hw, ?_⟩
    rintro r2 σ2 ⟨h2, hJ⟩
    cases h2
    exact ⟨fun _ => ih σ2 hJ, fun z => absurd rfl z⟩
  refine ⟨fun _ => ?_, ?_⟩
  · have key : ∀ s0 : Int32, (s0 = 0 ∨ s0 = 1) → ((σ.1 1000 (nI (6 * n) + nI 2).toNatClampNeg = 0 → s0 = 0) ∧ (¬ σ.1 1000 (nI (6 * n) + nI 2).toNatClampNeg = 0 → s0 = 1)) → pz_WP 180 (648, [some (.ref 1000), some (.ref 0), some (.ref 55), some (.int (nI (6 * n)))], [.int s0, .int (σ.1 1000 (nI (6 * n) + 1).toNatClampNeg), .ref 0]) σ (fun v _ => v = some (.int 1)) := by
      intro s0 hs0 hv
      refine pv_180_648 _ s0 (σ.1 1000 (nI (6 * n) + 1).toNatClampNeg) σ _ ?_
      rw [e0]
      refine ⟨i3, i4, _, H13 (σ.1 1000 (nI (6 * n) + 1).toNatClampNeg) s0 (σ.1 1000 (nI (6 * n) + nI 3).toNatClampNeg) (σ.1 1000 (nI (6 * n) + nI 4).toNatClampNeg) hs0 n n5 σ hI, ?_⟩
      rintro r1 σ1 ⟨r, hr, ⟨q1, q2⟩, hw⟩
      cases hr
      have e1 : (σ1.1 1001 0).toNatClampNeg = L := by rw [q2]; exact e0
      have fin : pz_WP 180 (680, [some (.ref 1000), some (.ref 0), some (.ref 55), some (.int (nI (6 * n)))], [.int s0, .int (σ.1 1000 (nI (6 * n) + 1).toNatClampNeg), .ref 55, .int r1]) σ1 (fun v _ => v = some (.int 1)) := by
        refine pv_180_680 _ s0 (σ.1 1000 (nI (6 * n) + 1).toNatClampNeg) r1 σ1 _ ?_
        rw [e1, q1]
        refine ⟨i3, i4, _, hw, ?_⟩
        rintro r2 σ2 ⟨h2, hJ⟩
        cases h2
        exact ⟨fun _ => ih σ2 hJ, fun z => absurd rfl z⟩
      rw [e1, q1]
      refine ⟨i1, i2, fun z => ?_, fun z => ?_⟩
      · have q := hv.1 z; subst q; exact fin
      · have q := hv.2 z; subst q; exact fin
    refine ⟨i1, i2, fun z => key 0 (Or.inl rfl) ⟨fun _ => rfl, fun y => absurd z y⟩, fun z => key 1 (Or.inr rfl) ⟨fun y => absurd y z, fun _ => rfl⟩⟩
  refine ⟨fun _ => ?_, ?_⟩
  · refine ⟨_, H14  n n5 σ hI, ?_⟩
    rintro r1 σ1 ⟨r, hr, ⟨q1, q2⟩, hw⟩
    cases hr
    refine ⟨_, hw, ?_⟩
    rintro r2 σ2 ⟨h2, hJ⟩
    cases h2
    exact ⟨fun _ => ih σ2 hJ, fun z => absurd rfl z⟩
  refine ⟨fun _ => ?_, ?_⟩
  · refine ⟨i1, i2, _, H15 (σ.1 1000 (nI (6 * n) + 1).toNatClampNeg) (σ.1 1000 (nI (6 * n) + nI 2).toNatClampNeg) n n5 σ hI, ?_⟩
    rintro r1 σ1 ⟨r, hr, ⟨q1, q2⟩, hw⟩
    cases hr
    rw [q1, q2, e0]
    refine ⟨i1, i2, _, hw, ?_⟩
    rintro r2 σ2 ⟨h2, hJ⟩
    cases h2
    exact ⟨fun _ => ih σ2 hJ, fun z => absurd rfl z⟩
  refine ⟨fun _ => ?_, ?_⟩
  · have key : ∀ s0 : Int32, (s0 = 0 ∨ s0 = 1) → ((σ.1 1000 (nI (6 * n) + nI 3).toNatClampNeg = 0 → s0 = 0) ∧ (¬ σ.1 1000 (nI (6 * n) + nI 3).toNatClampNeg = 0 → s0 = 1)) → pz_WP 180 (768, [some (.ref 1000), some (.ref 0), some (.ref 55), some (.int (nI (6 * n)))], [.int s0, .int (σ.1 1000 (nI (6 * n) + nI 2).toNatClampNeg), .int (σ.1 1000 (nI (6 * n) + 1).toNatClampNeg), .ref 0]) σ (fun v _ => v = some (.int 1)) := by
      intro s0 hs0 hv
      refine pv_180_768 _ s0 (σ.1 1000 (nI (6 * n) + nI 2).toNatClampNeg) (σ.1 1000 (nI (6 * n) + 1).toNatClampNeg) σ _ ?_
      refine ⟨_, H16 (σ.1 1000 (nI (6 * n) + 1).toNatClampNeg) (σ.1 1000 (nI (6 * n) + nI 2).toNatClampNeg) s0 hs0 n n5 σ hI, ?_⟩
      rintro r1 σ1 ⟨r, hr, ⟨q1, q2⟩, hw⟩
      cases hr
      have e1 : (σ1.1 1001 0).toNatClampNeg = L := by rw [q2]; exact e0
      have fin : pz_WP 180 (795, [some (.ref 1000), some (.ref 0), some (.ref 55), some (.int (nI (6 * n)))], [.int s0, .int (σ.1 1000 (nI (6 * n) + nI 2).toNatClampNeg), .int (σ.1 1000 (nI (6 * n) + 1).toNatClampNeg), .ref 55, .int r1]) σ1 (fun v _ => v = some (.int 1)) := by
        refine pv_180_795 _ s0 (σ.1 1000 (nI (6 * n) + nI 2).toNatClampNeg) (σ.1 1000 (nI (6 * n) + 1).toNatClampNeg) r1 σ1 _ ?_
        refine ⟨_, hw, ?_⟩
        rintro r2 σ2 ⟨h2, hJ⟩
        cases h2
        exact ⟨fun _ => ih σ2 hJ, fun z => absurd rfl z⟩
      rw [e1, q1]
      refine ⟨i1, i2, i3, fun z => ?_, fun z => ?_⟩
      · have q := hv.1 z; subst q; exact fin
      · have q := hv.2 z; subst q; exact fin
    refine ⟨i1, i2, i3, fun z => key 0 (Or.inl rfl) ⟨fun _ => rfl, fun y => absurd z y⟩, fun z => key 1 (Or.inr rfl) ⟨fun y => absurd y z, fun _ => rfl⟩⟩
  refine ⟨fun _ => ?_, ?_⟩
  · refine ⟨i1, i2, i3, _, H17 (σ.1 1000 (nI (6 * n) + 1).toNatClampNeg) (σ.1 1000 (nI (6 * n) + nI 2).toNatClampNeg) (σ.1 1000 (nI (6 * n) + nI 3).toNatClampNeg) n n5 σ hI, ?_⟩
    rintro r1 σ1 ⟨r, hr, ⟨q1, q2⟩, hw⟩
    cases hr
    rw [q1, q2, e0]
    refine ⟨i1, i2, i3, _, hw, ?_⟩
    rintro r2 σ2 ⟨h2, hJ⟩
    cases h2
    exact ⟨fun _ => ih σ2 hJ, fun z => absurd rfl z⟩
  refine ⟨fun _ => ?_, ?_⟩
  · refine ⟨i1, i2, _, H18 (σ.1 1000 (nI (6 * n) + 1).toNatClampNeg) (σ.1 1000 (nI (6 * n) + nI 2).toNatClampNeg) n n5 σ hI, ?_⟩
    rintro r1 σ1 ⟨r, hr, ⟨q1, q2⟩, hw⟩
    cases hr
    rw [q1, q2, e0]
    refine ⟨i1, i2, _, hw, ?_⟩
    rintro r2 σ2 ⟨h2, hJ⟩
    cases h2
    exact ⟨fun _ => ih σ2 hJ, fun z => absurd rfl z⟩
  refine ⟨fun _ => ?_, ?_⟩
  · refine ⟨i1, _, H19 (σ.1 1000 (nI (6 * n) + 1).toNatClampNeg) n n5 σ hI, ?_⟩
    rintro r1 σ1 ⟨r, hr, ⟨q1, q2⟩, hw⟩
    cases hr
    rw [q1, q2, e0]
    refine ⟨i1, _, hw, ?_⟩
    rintro r2 σ2 ⟨h2, hJ⟩
    cases h2
    exact ⟨fun _ => ih σ2 hJ, fun z => absurd rfl z⟩
  refine ⟨fun _ => ?_, ?_⟩
  · refine ⟨i1, _, H20 (σ.1 1000 (nI (6 * n) + 1).toNatClampNeg) n n5 σ hI, ?_⟩
    rintro r1 σ1 ⟨r, hr, ⟨q1, q2⟩, hw⟩
    cases hr
    rw [q1, q2, e0]
    refine ⟨i1, _, hw, ?_⟩
    rintro r2 σ2 ⟨h2, hJ⟩
    cases h2
    exact ⟨fun _ => ih σ2 hJ, fun z => absurd rfl z⟩
  refine ⟨fun _ => ?_, ?_⟩
  · refine ⟨_, H21  n n5 σ hI, ?_⟩
    rintro r1 σ1 ⟨r, hr, ⟨q1, q2⟩, hw⟩
    cases hr
    refine ⟨_, hw, ?_⟩
    rintro r2 σ2 ⟨h2, hJ⟩
    cases h2
    exact ⟨fun _ => ih σ2 hJ, fun z => absurd rfl z⟩
  refine ⟨fun _ => ?_, ?_⟩
  · refine ⟨i1, i2, _, H22 (σ.1 1000 (nI (6 * n) + 1).toNatClampNeg) (σ.1 1000 (nI (6 * n) + nI 2).toNatClampNeg) n n5 σ hI, ?_⟩
    rintro r1 σ1 ⟨r, hr, ⟨q1, q2⟩, hw⟩
    cases hr
    rw [q1, q2, e0]
    refine ⟨i1, i2, _, hw, ?_⟩
    rintro r2 σ2 ⟨h2, hJ⟩
    cases h2
    exact ⟨fun _ => ih σ2 hJ, fun z => absurd rfl z⟩
  refine ⟨fun _ => ?_, ?_⟩
  · refine ⟨i1, _, H23 (σ.1 1000 (nI (6 * n) + 1).toNatClampNeg) n n5 σ hI, ?_⟩
    rintro r1 σ1 ⟨r, hr, ⟨q1, q2⟩, hw⟩
    cases hr
    rw [q1, q2, e0]
    refine ⟨i1, _, hw, ?_⟩
    rintro r2 σ2 ⟨h2, hJ⟩
    cases h2
    exact ⟨fun _ => ih σ2 hJ, fun z => absurd rfl z⟩
  refine ⟨fun _ => ?_, ?_⟩
  · refine ⟨i1, _, H24 (σ.1 1000 (nI (6 * n) + 1).toNatClampNeg) n n5 σ hI, ?_⟩
    rintro r1 σ1 ⟨r, hr, ⟨q1, q2⟩, hw⟩
    cases hr
    rw [q1, q2, e0]
    refine ⟨i1, _, hw, ?_⟩
    rintro r2 σ2 ⟨h2, hJ⟩
    cases h2
    exact ⟨fun _ => ih σ2 hJ, fun z => absurd rfl z⟩
  trivial
theorem law_loop {I : Nat → pz_Sg → Prop} {L : Nat} {ys : Nat → Int32} (hL : L ≤ 3072) (hs : ∀ n σ, I n σ → pz_ti L ys σ) (hm : ∀ n σ, I n σ → I (n + 1) σ) (H0 : pz_O0 I) (H1 : pz_O1 I) (H2 : pz_O2 I) (H3 : pz_O3 I) (H4 : pz_O4 I) (H5 : pz_O5 I) (H6 : pz_O6 I) (H7 : pz_O7 I) (H8 : pz_O8 I) (H9 : pz_O9 I) (H10 : pz_O10 I) (H11 : pz_O11 I) (H12 : pz_O12 I) (H13 : pz_O13 I) (H14 : pz_O14 I) (H15 : pz_O15 I) (H16 : pz_O16 I) (H17 : pz_O17 I) (H18 : pz_O18 I) (H19 : pz_O19 I) (H20 : pz_O20 I) (H21 : pz_O21 I) (H22 : pz_O22 I) (H23 : pz_O23 I) (H24 : pz_O24 I) : ∀ (k n : Nat), 6 * n ≤ L + 5 → L < 6 * n + 6 * k → ∀ σ, I n σ → pz_WP 180 (18, [some (.ref 1000), some (.ref 0), some (.ref 55), some (.int (nI (6 * n)))], []) σ (fun v _ => v = some (.int 1))
  | 0, n, h1, h2, σ, hI => by
    refine law_step hL hs hm H0 H1 H2 H3 H4 H5 H6 H7 H8 H9 H10 H11 H12 H13 H14 H15 H16 H17 H18 H19 H20 H21 H22 H23 H24 n h1 (fun h6 => absurd h6 (by omega)) σ hI
  | k + 1, n, h1, h2, σ, hI => by
    refine law_step hL hs hm H0 H1 H2 H3 H4 H5 H6 H7 H8 H9 H10 H11 H12 H13 H14 H15 H16 H17 H18 H19 H20 H21 H22 H23 H24 n h1 (fun h6 σ2 hJ => ?_) σ hI
    rw [nI_add, show 6 * n + 6 = 6 * (n + 1) by omega]
    exact law_loop hL hs hm H0 H1 H2 H3 H4 H5 H6 H7 H8 H9 H10 H11 H12 H13 H14 H15 H16 H17 H18 H19 H20 H21 H22 H23 H24 k (n + 1) (by omega) (by omega) σ2 hJ
