/-! ===== Int32 by its bits (the first family of kit/laws/BITS.to-paste) and what is asked of bits here ===== -/
def bt (x : Int32) (i : Nat) : Bool := x.toBitVec.getLsbD i
theorem b_ext {x y : Int32} (h : ∀ i, i < 32 → bt x i = bt y i) : x = y := Int32.toBitVec_inj.mp (BitVec.eq_of_getLsbD_eq (fun i hi => h i hi))
theorem b_or (x y : Int32) (i : Nat) : bt (x ||| y) i = (bt x i || bt y i) := by unfold bt; rw [Int32.toBitVec_or, BitVec.getLsbD_or]
theorem b_and (x y : Int32) (i : Nat) : bt (x &&& y) i = (bt x i && bt y i) := by unfold bt; rw [Int32.toBitVec_and, BitVec.getLsbD_and]
theorem b_xor (x y : Int32) (i : Nat) : bt (x ^^^ y) i = (bt x i ^^ bt y i) := by unfold bt; rw [Int32.toBitVec_xor, BitVec.getLsbD_xor]
theorem b_big {x : Int32} {i : Nat} (h : 32 ≤ i) : bt x i = false := BitVec.getLsbD_of_ge _ _ h
theorem b_0 (i : Nat) : bt 0 i = false := BitVec.getLsbD_zero
theorem b_m1 : ∀ i, i < 32 → bt (-1) i = true := by decide +kernel
theorem s_l : ∀ n, n < 32 → ((nI n &&& 31).toBitVec.smod 32).toNat = n := by decide +kernel
theorem b_shl (n : Nat) (hn : n < 32) (x : Int32) {i : Nat} (hi : i < 32) : bt (x <<< (nI n &&& 31)) i = (decide (n ≤ i) && bt x (i - n)) := by
  unfold bt
  rw [Int32.toBitVec_shiftLeft]
  show (x.toBitVec <<< ((nI n &&& 31).toBitVec.smod 32).toNat).getLsbD i = _
  rw [s_l n hn, BitVec.getLsbD_shiftLeft]
  rcases Nat.lt_or_ge i n with h | h
  · simp [h, Nat.not_le.mpr h]
  · simp [hi, h, Nat.not_lt.mpr h]
theorem b_sshr (n : Nat) (hn : n < 32) (x : Int32) {i : Nat} (hi : i < 32) : bt (x >>> (nI n &&& 31)) i = if n + i < 32 then bt x (n + i) else bt x 31 := by
  unfold bt
  rw [Int32.toBitVec_shiftRight]
  show (x.toBitVec.sshiftRight ((nI n &&& 31).toBitVec.smod 32).toNat).getLsbD i = _
  rw [s_l n hn, BitVec.getLsbD_sshiftRight, BitVec.msb_eq_getLsbD_last]
  simp [hi]
theorem b_1 (i : Nat) : bt 1 i = decide (i = 0) := by
  rcases Nat.lt_or_ge i 32 with h | h
  · exact (by decide +kernel : ∀ i, i < 32 → bt 1 i = decide (i = 0)) i h
  · rw [b_big h, decide_eq_false (by omega)]
theorem b_bit {k i : Nat} (hk : k < 32) : bt ((1 : Int32) <<< (nI k &&& 31)) i = decide (i = k) := by
  rcases Nat.lt_or_ge i 32 with h | h
  · rw [b_shl k hk _ h, b_1]
    by_cases e : i = k
    · subst e; simp
    · rw [decide_eq_false e]
      by_cases g : k ≤ i
      · simp; omega
      · simp [g]
  · rw [b_big h, decide_eq_false (by omega)]
/-- the test '(x >> u & 1) == 1' -/
theorem b_is {x : Int32} {u : Nat} (hu : u < 32) : (x >>> (nI u &&& 31)) &&& 1 = 1 ↔ bt x u = true := by
  have e : ∀ i, i < 32 → bt ((x >>> (nI u &&& 31)) &&& 1) i = (bt x u && decide (i = 0)) := fun i hi => by
    rw [b_and, b_1, b_sshr u hu x hi]
    by_cases z : i = 0
    · subst z; simp [hu]
    · simp [z]
  constructor
  · intro h
    have t := e 0 (by decide)
    rw [h, b_1] at t
    simpa using t.symm
  · intro h
    apply b_ext
    intro i hi
    rw [e i hi, h, b_1]; simp
theorem b_no {x : Int32} {u : Nat} (hu : u < 32) : (x >>> (nI u &&& 31)) &&& 1 = 0 ↔ bt x u = false := by
  have e : ∀ i, i < 32 → bt ((x >>> (nI u &&& 31)) &&& 1) i = (bt x u && decide (i = 0)) := fun i hi => by
    rw [b_and, b_1, b_sshr u hu x hi]
    by_cases z : i = 0
    · subst z; simp [hu]
    · simp [z]
  constructor
  · intro h
    have t := e 0 (by decide)
    rw [h, b_0] at t
    simpa using t.symm
  · intro h
    apply b_ext
    intro i hi
    rw [e i hi, h, b_0]; simp
theorem b_z {x : Int32} : x = 0 ↔ ∀ i, i < 32 → bt x i = false := ⟨fun h i _ => by rw [h, b_0], fun h => b_ext fun i hi => by rw [h i hi, b_0]⟩
/-- x has nothing of y -/
theorem b_an0 {x y : Int32} : x &&& y = 0 ↔ ∀ i, i < 32 → ¬ (bt x i = true ∧ bt y i = true) := by
  rw [b_z]
  refine forall_congr' fun i => forall_congr' fun _ => ?_
  rw [b_and]
  cases bt x i <;> cases bt y i <;> simp
/-- y adds nothing to x -/
theorem b_sub {x y : Int32} : x ||| y = x ↔ ∀ i, i < 32 → bt y i = true → bt x i = true := by
  constructor
  · intro h i _ hy
    rw [← h, b_or, hy, Bool.or_true]
  · intro h
    apply b_ext
    intro i hi
    rw [b_or]
    have := h i hi
    revert this
    cases bt x i <;> cases bt y i <;> simp
theorem b_an1 {x : Int32} {k : Nat} (hk : k < 32) : x &&& ((1 : Int32) <<< (nI k &&& 31)) = 0 ↔ bt x k = false := by
  rw [b_an0]
  constructor
  · intro h
    have t := h k hk
    rw [b_bit hk] at t
    simpa using t
  · rintro h i hi ⟨h1, h2⟩
    rw [b_bit hk] at h2
    have e : i = k := by simpa using h2
    subst e
    rw [h] at h1
    cases h1
/-- what is left without bit 0 -/
theorem b_not1 (x : Int32) (i : Nat) : bt (x &&& (-(nI 2))) i = (bt x i && decide (0 < i)) := by
  rcases Nat.lt_or_ge i 32 with h | h
  · rw [b_and, (by decide +kernel : ∀ i, i < 32 → bt (-(nI 2)) i = decide (0 < i)) i h]
  · rw [b_big h, b_big h, Bool.false_and]
/-! 64 bits -/
def bq (w : Int64) (i : Nat) : Bool := w.toBitVec.getLsbD i
theorem q_ext {x y : Int64} (h : ∀ i, i < 64 → bq x i = bq y i) : x = y := Int64.toBitVec_inj.mp (BitVec.eq_of_getLsbD_eq (fun i hi => h i hi))
theorem q_or (x y : Int64) (i : Nat) : bq (x ||| y) i = (bq x i || bq y i) := by unfold bq; rw [Int64.toBitVec_or, BitVec.getLsbD_or]
theorem q_and (x y : Int64) (i : Nat) : bq (x &&& y) i = (bq x i && bq y i) := by unfold bq; rw [Int64.toBitVec_and, BitVec.getLsbD_and]
theorem q_xor (x y : Int64) (i : Nat) : bq (x ^^^ y) i = (bq x i ^^ bq y i) := by unfold bq; rw [Int64.toBitVec_xor, BitVec.getLsbD_xor]
theorem q_big {x : Int64} {i : Nat} (h : 64 ≤ i) : bq x i = false := BitVec.getLsbD_of_ge _ _ h
theorem q_0 (i : Nat) : bq 0 i = false := BitVec.getLsbD_zero
theorem q_z {x : Int64} : x = 0 ↔ ∀ i, i < 64 → bq x i = false := ⟨fun h i _ => by rw [h, q_0], fun h => q_ext fun i hi => by rw [h i hi, q_0]⟩
theorem q_sub {x y : Int64} : x ||| y = x ↔ ∀ i, i < 64 → bq y i = true → bq x i = true := by
  constructor
  · intro h i _ hy
    rw [← h, q_or, hy, Bool.or_true]
  · intro h
    apply q_ext
    intro i hi
    rw [q_or]
    have := h i hi
    revert this
    cases bq x i <;> cases bq y i <;> simp
theorem q_s : ∀ r, r < 8 → ((nI r * nI 6).toInt64 &&& 63).toBitVec.smod 64 = BitVec.ofNat 64 (6 * r) := by decide +kernel
theorem q_shl (r : Nat) (hr : r < 8) (x : Int64) {i : Nat} (hi : i < 64) : bq (x <<< ((nI r * nI 6).toInt64 &&& 63)) i = (decide (6 * r ≤ i) && bq x (i - 6 * r)) := by
  unfold bq
  rw [Int64.toBitVec_shiftLeft]
  show (x.toBitVec <<< (((nI r * nI 6).toInt64 &&& 63).toBitVec.smod 64).toNat).getLsbD i = _
  rw [q_s r hr, show (BitVec.ofNat 64 (6 * r)).toNat = 6 * r by rw [BitVec.toNat_ofNat]; exact Nat.mod_eq_of_lt (by omega), BitVec.getLsbD_shiftLeft]
  rcases Nat.lt_or_ge i (6 * r) with h | h
  · simp [h, Nat.not_le.mpr h]
  · simp [hi, h, Nat.not_lt.mpr h]
theorem q_u : ∀ r, r < 8 → (((nI r * nI 6).toInt64.toUInt64 &&& Int64.toUInt64 63).toBitVec % 64).toNat = 6 * r := by decide +kernel
theorem b_63 (i : Nat) : bt (nI 63) i = decide (i < 6) := by
  rcases Nat.lt_or_ge i 32 with h | h
  · exact (by decide +kernel : ∀ i, i < 32 → bt (nI 63) i = decide (i < 6)) i h
  · rw [b_big h, decide_eq_false (by omega)]
theorem q_63 (i : Nat) : bq (lN 63) i = decide (i < 6) := by
  rcases Nat.lt_or_ge i 64 with h | h
  · exact (by decide +kernel : ∀ i, i < 64 → bq (lN 63) i = decide (i < 6)) i h
  · rw [q_big h, decide_eq_false (by omega)]
theorem q_m1 : ∀ i, i < 64 → bq (-1) i = true := by decide +kernel
/-- Foresight.mayOf, by its bits -/
theorem q_my (w : Int64) {r : Nat} (hr : r < 8) (b : Nat) : bt ((w.toUInt64 >>> ((nI r * nI 6).toInt64.toUInt64 &&& Int64.toUInt64 63)).toInt64.toInt32 &&& nI 63) b = (decide (b < 6) && bq w (6 * r + b)) := by
  rw [b_and, b_63, Bool.and_comm]
  by_cases hb : b < 6
  · congr 1
    show (w.toUInt64 >>> ((nI r * nI 6).toInt64.toUInt64 &&& Int64.toUInt64 63)).toInt64.toInt32.toBitVec.getLsbD b = w.toUInt64.toBitVec.getLsbD (6 * r + b)
    rw [Int64.toBitVec_toInt32]
    rw [BitVec.getLsbD_signExtend, if_pos (by omega : b < 64)]
    show (decide (b < 32) && (w.toUInt64 >>> ((nI r * nI 6).toInt64.toUInt64 &&& Int64.toUInt64 63)).toBitVec.getLsbD b) = _
    rw [UInt64.toBitVec_shiftRight]
    show (decide (b < 32) && (w.toUInt64.toBitVec >>> (((nI r * nI 6).toInt64.toUInt64 &&& Int64.toUInt64 63).toBitVec % 64).toNat).getLsbD b) = _
    rw [q_u r hr, BitVec.getLsbD_ushiftRight, decide_eq_true (by omega : b < 32), Bool.true_and]
  · rw [decide_eq_false hb, Bool.false_and, Bool.false_and]
/-- an int made long, its bits below 31 -/
theorem q_i2l (x : Int32) (i : Nat) (hi : i < 32) : bq x.toInt64 i = bt x i := by
  unfold bq bt
  rw [Int32.toBitVec_toInt64, BitVec.getLsbD_signExtend]
  simp [hi]; omega
theorem q_i2lb {x : Int32} (h : ∀ i, 6 ≤ i → bt x i = false) (i : Nat) (hi : 6 ≤ i) : bq x.toInt64 i = false := by
  unfold bq
  rw [Int32.toBitVec_toInt64, BitVec.getLsbD_signExtend, BitVec.msb_eq_getLsbD_last]
  have a := h 31 (by decide)
  have b := h i hi
  unfold bt at a b
  split
  · rw [b]; simp
  · rw [a]; simp
/-- Foresight.with, by its bits: local r may be what x tells (below 64) -/
theorem q_with (w : Int64) {r : Nat} (hr : r < 8) {x : Int32} (hx : ∀ i, 6 ≤ i → bt x i = false) {i : Nat} (hi : i < 64) : bq ((w &&& (((lN 63) <<< ((nI r * nI 6).toInt64 &&& 63)) ^^^ (-1 : Int64))) ||| (x.toInt64 <<< ((nI r * nI 6).toInt64 &&& 63))) i = if 6 * r ≤ i ∧ i < 6 * r + 6 then bt x (i - 6 * r) else bq w i := by
  rw [q_or, q_and, q_xor, q_shl r hr _ hi, q_shl r hr _ hi, q_m1 i hi, q_63]
  by_cases h1 : 6 * r ≤ i
  · by_cases h2 : i < 6 * r + 6
    · rw [if_pos ⟨h1, h2⟩, q_i2l x _ (by omega)]
      simp [h1]; omega
    · rw [if_neg (fun z => h2 z.2), q_i2lb hx _ (by omega)]
      simp; omega
  · rw [if_neg (fun z => h1 z.1)]
    simp [h1]
theorem b_apart {a b c : Int32} : a &&& (b ||| c) = 0 ↔ a &&& b = 0 ∧ a &&& c = 0 := by
  rw [b_an0, b_an0, b_an0]
  constructor
  · intro h
    exact ⟨fun i hi z => h i hi ⟨z.1, by rw [b_or, z.2, Bool.true_or]⟩, fun i hi z => h i hi ⟨z.1, by rw [b_or, z.2, Bool.or_true]⟩⟩
  · rintro ⟨h1, h2⟩ i hi ⟨z1, z2⟩
    rw [b_or, Bool.or_eq_true] at z2
    exact z2.elim (fun z => h1 i hi ⟨z1, z⟩) (fun z => h2 i hi ⟨z1, z⟩)
theorem b_ac (a b : Int32) : a &&& b = b &&& a := b_ext fun i _ => by rw [b_and, b_and, Bool.and_comm]
