/-! ===== one instruction, a row: the frame goes from one pc to the next ===== -/
def pz_gf (a ci k : Nat) : Option (Option Nat) := match pz_sh[a]? with
  | some (.inl (c, fs)) => bif c == ci then fs[k]? else none
  | _ => none
def pz_gc (a : Nat) : Option Nat := match pz_sh[a]? with
  | some (.inl (c, _)) => some c
  | _ => none
def pz_ga (a : Nat) : Option (FieldType × Nat) := match pz_sh[a]? with
  | some (.inr q) => some q
  | _ => none
def pz_mi (k : Nat) : Nat × Nat × Option FieldType := ((pz_Mt k).2.1.1, (pz_Mt k).1.2.2.1, (pz_Mt k).1.2.2.2)
theorem pz_gf_of {a ci k : Nat} {o : Option Nat} (h : pz_gf a ci k = some o) {K : List (Option Nat) → Prop} (g : ∀ fs, fs[k]? = some o → K fs) : pz_ob a ci K := by
  unfold pz_gf at h
  unfold pz_ob
  cases hs : pz_sh[a]? with
  | none => rw [hs] at h; cases h
  | some e =>
    rw [hs] at h
    cases e with
    | inr q => cases h
    | inl q =>
      obtain ⟨c, fs⟩ := q
      dsimp only at h ⊢
      cases hq : (c == ci) with
      | true => rw [hq] at h; exact g _ h
      | false => rw [hq] at h; cases h
theorem pz_gc_of {a ci : Nat} (h : pz_gc a = some ci) {K : List (Option Nat) → Prop} (g : ∀ fs, K fs) : pz_ob a ci K := by
  unfold pz_gc at h
  unfold pz_ob
  cases hs : pz_sh[a]? with
  | none => rw [hs] at h; cases h
  | some e =>
    rw [hs] at h
    cases e with
    | inr q => cases h
    | inl q =>
      obtain ⟨c, fs⟩ := q
      cases h
      dsimp only
      rw [show (ci == ci) = true by simp]
      exact g _
theorem pz_ga_of {a n : Nat} {ty : FieldType} (h : pz_ga a = some (ty, n)) {K : Nat → Prop} (g : K n) : pz_ar a ty K := by
  unfold pz_ga at h
  unfold pz_ar
  cases hs : pz_sh[a]? with
  | none => rw [hs] at h; cases h
  | some e =>
    rw [hs] at h
    cases e with
    | inl q => cases h
    | inr q =>
      cases h
      dsimp only
      rw [show decide (ty = ty) = true by simp]
      exact g
theorem pz_rs_to {r : List Value} {K : Prop} (h : (r.map Value.category).sum ≤ 8) (k : K) : pz_rs r K := by
  unfold pz_rs
  simp only [h, decide_true, cond_true]
  exact k
theorem pz_ft_to {n : Nat} {vs : List Value} {K : Prop} (h : (pz_ea vs).length ≤ n) (k : K) : pz_ft n vs K := by
  unfold pz_ft
  simp only [h, decide_true, cond_true]
  exact k
theorem pz_pp_to : ∀ {As : List Value} {r acc : List Value} {K : List Value → List Value → Prop}, K (As ++ acc) r → pz_pp As.length (As.reverse ++ r) acc K := by
  intro As
  induction h : As.length generalizing As with
  | zero =>
    intro r acc K k
    rw [List.length_eq_zero_iff] at h
    subst h
    exact k
  | succ n ih =>
    intro r acc K k
    obtain ⟨Bs, b, rfl⟩ : ∃ Bs b, As = Bs ++ [b] := ⟨As.dropLast, As.getLast (by intro e; rw [e] at h; cases h), (List.dropLast_concat_getLast _).symm⟩
    have hb : Bs.length = n := by simpa using h
    rw [List.reverse_append]
    show pz_pp n (Bs.reverse ++ r) (b :: acc) K
    exact ih hb (by simpa using k)
section PS
variable {mid pc nx ln a1 a2 ps : Nat} {lv : pz_Lv} {st r : List Value} {σ : pz_Sg} {Post : pz_Ps}
theorem ps_at {i : pz_Ins} (hat : pz_at mid pc = some i) (h : pz_ex pz_WP pz_WP mid pc lv st σ Post i.2.1 (pc + i.2.2.1) i.2.2.2.1 i.2.2.2.2.1) : pz_WP mid (pc, lv, st) σ Post :=
  pz_in (by unfold pz_stp; dsimp only; rw [hat]; exact h)
theorem ps_fg (bs : List Bool) (k : pz_WP mid (pc, pz_fg bs lv, st) σ Post) : pz_WP mid (pc, lv, st) σ Post := pz_WP_g k lv Post (pz_fg_le _ _) (fun _ _ z => z)
theorem ps_iconst {n : Int} {x : Int32} (hat : pz_at mid pc = some (pc, .iconst n, ln, a1, a2, ps)) (hn : pc + ln = nx) (hv : Int32.ofInt n = x) (k : pz_WP mid (nx, lv, .int x :: st) σ Post) : pz_WP mid (pc, lv, st) σ Post := by subst hn hv; exact ps_at hat k
theorem ps_bipush {n : Int} {x : Int32} (hat : pz_at mid pc = some (pc, .bipush n, ln, a1, a2, ps)) (hn : pc + ln = nx) (hv : (Int8.ofInt n).toInt32 = x) (k : pz_WP mid (nx, lv, .int x :: st) σ Post) : pz_WP mid (pc, lv, st) σ Post := by subst hn hv; exact ps_at hat k
theorem ps_sipush {n : Int} {x : Int32} (hat : pz_at mid pc = some (pc, .sipush n, ln, a1, a2, ps)) (hn : pc + ln = nx) (hv : (Int16.ofInt n).toInt32 = x) (k : pz_WP mid (nx, lv, .int x :: st) σ Post) : pz_WP mid (pc, lv, st) σ Post := by subst hn hv; exact ps_at hat k
theorem ps_lconst {n : Fin 2} {x : Int64} (hat : pz_at mid pc = some (pc, .lconst n, ln, a1, a2, ps)) (hn : pc + ln = nx) (hv : Int64.ofNat n.val = x) (k : pz_WP mid (nx, lv, .long x :: st) σ Post) : pz_WP mid (pc, lv, st) σ Post := by subst hn hv; exact ps_at hat k
theorem ps_ldc {n : Nat} {x : Int32} (hat : pz_at mid pc = some (pc, .ldc n, ln, a1, a2, ps)) (hn : pc + ln = nx) (hv : Int32.ofNat a1 = x) (k : pz_WP mid (nx, lv, .int x :: st) σ Post) : pz_WP mid (pc, lv, st) σ Post := by subst hn hv; exact ps_at hat k
theorem ps_ldc2_w {n : Nat} {x : Int64} (hat : pz_at mid pc = some (pc, .ldc2_w n, ln, a1, a2, ps)) (hn : pc + ln = nx) (hv : Int64.ofNat a1 = x) (k : pz_WP mid (nx, lv, .long x :: st) σ Post) : pz_WP mid (pc, lv, st) σ Post := by subst hn hv; exact ps_at hat k
theorem pz_li_to {i : Nat} {x : Int32} {K : Int32 → Prop} (e : lv[i]? = some (some (.int x))) (k : K x) : pz_li lv i K := by unfold pz_li; rw [e]; exact k
theorem pz_ll_to {i : Nat} {x : Int64} {K : Int64 → Prop} (e : lv[i]? = some (some (.long x))) (k : K x) : pz_ll lv i K := by unfold pz_ll; rw [e]; exact k
theorem pz_la_to {i : Nat} {x : Nat} {K : Nat → Prop} (e : lv[i]? = some (some (.ref x))) (k : K x) : pz_la lv i K := by unfold pz_la; rw [e]; exact k
theorem ps_iload {i : Nat} {x : Int32} (hat : pz_at mid pc = some (pc, .iload i, ln, a1, a2, ps)) (hn : pc + ln = nx) (hv : lv[i]? = some (some (.int x))) (k : pz_WP mid (nx, lv, .int x :: st) σ Post) : pz_WP mid (pc, lv, st) σ Post := by subst hn; exact ps_at hat (pz_li_to hv k)
theorem ps_iload_n {i : Fin 4} {x : Int32} (hat : pz_at mid pc = some (pc, .iload_n i, ln, a1, a2, ps)) (hn : pc + ln = nx) (hv : lv[i.val]? = some (some (.int x))) (k : pz_WP mid (nx, lv, .int x :: st) σ Post) : pz_WP mid (pc, lv, st) σ Post := by subst hn; exact ps_at hat (pz_li_to hv k)
theorem ps_lload {i : Nat} {x : Int64} (hat : pz_at mid pc = some (pc, .lload i, ln, a1, a2, ps)) (hn : pc + ln = nx) (hv : lv[i]? = some (some (.long x))) (k : pz_WP mid (nx, lv, .long x :: st) σ Post) : pz_WP mid (pc, lv, st) σ Post := by subst hn; exact ps_at hat (pz_ll_to hv k)
theorem ps_lload_n {i : Fin 4} {x : Int64} (hat : pz_at mid pc = some (pc, .lload_n i, ln, a1, a2, ps)) (hn : pc + ln = nx) (hv : lv[i.val]? = some (some (.long x))) (k : pz_WP mid (nx, lv, .long x :: st) σ Post) : pz_WP mid (pc, lv, st) σ Post := by subst hn; exact ps_at hat (pz_ll_to hv k)
theorem ps_aload {i : Nat} {x : Nat} (hat : pz_at mid pc = some (pc, .aload i, ln, a1, a2, ps)) (hn : pc + ln = nx) (hv : lv[i]? = some (some (.ref x))) (k : pz_WP mid (nx, lv, .ref x :: st) σ Post) : pz_WP mid (pc, lv, st) σ Post := by subst hn; exact ps_at hat (pz_la_to hv k)
theorem ps_aload_n {i : Fin 4} {x : Nat} (hat : pz_at mid pc = some (pc, .aload_n i, ln, a1, a2, ps)) (hn : pc + ln = nx) (hv : lv[i.val]? = some (some (.ref x))) (k : pz_WP mid (nx, lv, .ref x :: st) σ Post) : pz_WP mid (pc, lv, st) σ Post := by subst hn; exact ps_at hat (pz_la_to hv k)
theorem ps_istore {i : Nat} {x : Int32} {lv' : pz_Lv} (hat : pz_at mid pc = some (pc, .istore i, ln, a1, a2, ps)) (hn : pc + ln = nx) (hv : pz_s1 lv i (.int x) = lv') (k : pz_WP mid (nx, lv', r) σ Post) : pz_WP mid (pc, lv, .int x :: r) σ Post := by subst hn hv; exact ps_at hat k
theorem ps_istore_n {i : Fin 4} {x : Int32} {lv' : pz_Lv} (hat : pz_at mid pc = some (pc, .istore_n i, ln, a1, a2, ps)) (hn : pc + ln = nx) (hv : pz_s1 lv i.val (.int x) = lv') (k : pz_WP mid (nx, lv', r) σ Post) : pz_WP mid (pc, lv, .int x :: r) σ Post := by subst hn hv; exact ps_at hat k
theorem ps_lstore {i : Nat} {x : Int64} {lv' : pz_Lv} (hat : pz_at mid pc = some (pc, .lstore i, ln, a1, a2, ps)) (hn : pc + ln = nx) (hv : pz_s2 lv i (.long x) = lv') (k : pz_WP mid (nx, lv', r) σ Post) : pz_WP mid (pc, lv, .long x :: r) σ Post := by subst hn hv; exact ps_at hat k
theorem ps_lstore_n {i : Fin 4} {x : Int64} {lv' : pz_Lv} (hat : pz_at mid pc = some (pc, .lstore_n i, ln, a1, a2, ps)) (hn : pc + ln = nx) (hv : pz_s2 lv i.val (.long x) = lv') (k : pz_WP mid (nx, lv', r) σ Post) : pz_WP mid (pc, lv, .long x :: r) σ Post := by subst hn hv; exact ps_at hat k
theorem ps_astore {i : Nat} {x : Nat} {lv' : pz_Lv} (hat : pz_at mid pc = some (pc, .astore i, ln, a1, a2, ps)) (hn : pc + ln = nx) (hv : pz_s1 lv i (.ref x) = lv') (k : pz_WP mid (nx, lv', r) σ Post) : pz_WP mid (pc, lv, .ref x :: r) σ Post := by subst hn hv; exact ps_at hat k
theorem ps_astore_n {i : Fin 4} {x : Nat} {lv' : pz_Lv} (hat : pz_at mid pc = some (pc, .astore_n i, ln, a1, a2, ps)) (hn : pc + ln = nx) (hv : pz_s1 lv i.val (.ref x) = lv') (k : pz_WP mid (nx, lv', r) σ Post) : pz_WP mid (pc, lv, .ref x :: r) σ Post := by subst hn hv; exact ps_at hat k
theorem ps_iinc {i : Nat} {n : Int} {x y : Int32} {lv' : pz_Lv} (hat : pz_at mid pc = some (pc, .iinc i n, ln, a1, a2, ps)) (hn : pc + ln = nx) (he : lv[i]? = some (some (.int x))) (hy : Int32.ofInt n = y) (hv : pz_s1 lv i (.int (x + y)) = lv') (k : pz_WP mid (nx, lv', st) σ Post) : pz_WP mid (pc, lv, st) σ Post := by subst hn hy hv; exact ps_at hat (pz_li_to he k)
theorem ps_iadd {x y : Int32} (hat : pz_at mid pc = some (pc, .iadd, ln, a1, a2, ps)) (hn : pc + ln = nx) (k : pz_WP mid (nx, lv, .int (x + y) :: r) σ Post) : pz_WP mid (pc, lv, .int y :: .int x :: r) σ Post := by subst hn; exact ps_at hat k
theorem ps_isub {x y : Int32} (hat : pz_at mid pc = some (pc, .isub, ln, a1, a2, ps)) (hn : pc + ln = nx) (k : pz_WP mid (nx, lv, .int (x - y) :: r) σ Post) : pz_WP mid (pc, lv, .int y :: .int x :: r) σ Post := by subst hn; exact ps_at hat k
theorem ps_imul {x y : Int32} (hat : pz_at mid pc = some (pc, .imul, ln, a1, a2, ps)) (hn : pc + ln = nx) (k : pz_WP mid (nx, lv, .int (x * y) :: r) σ Post) : pz_WP mid (pc, lv, .int y :: .int x :: r) σ Post := by subst hn; exact ps_at hat k
theorem ps_iand {x y : Int32} (hat : pz_at mid pc = some (pc, .iand, ln, a1, a2, ps)) (hn : pc + ln = nx) (k : pz_WP mid (nx, lv, .int (x &&& y) :: r) σ Post) : pz_WP mid (pc, lv, .int y :: .int x :: r) σ Post := by subst hn; exact ps_at hat k
theorem ps_ior {x y : Int32} (hat : pz_at mid pc = some (pc, .ior, ln, a1, a2, ps)) (hn : pc + ln = nx) (k : pz_WP mid (nx, lv, .int (x ||| y) :: r) σ Post) : pz_WP mid (pc, lv, .int y :: .int x :: r) σ Post := by subst hn; exact ps_at hat k
theorem ps_ixor {x y : Int32} (hat : pz_at mid pc = some (pc, .ixor, ln, a1, a2, ps)) (hn : pc + ln = nx) (k : pz_WP mid (nx, lv, .int (x ^^^ y) :: r) σ Post) : pz_WP mid (pc, lv, .int y :: .int x :: r) σ Post := by subst hn; exact ps_at hat k
theorem ps_idiv {x y : Int32} (hat : pz_at mid pc = some (pc, .idiv, ln, a1, a2, ps)) (hn : pc + ln = nx) (hy : ¬ y = 0) (k : pz_WP mid (nx, lv, .int (x / y) :: r) σ Post) : pz_WP mid (pc, lv, .int y :: .int x :: r) σ Post := by subst hn; exact ps_at hat ⟨hy, k⟩
theorem ps_irem {x y : Int32} (hat : pz_at mid pc = some (pc, .irem, ln, a1, a2, ps)) (hn : pc + ln = nx) (hy : ¬ y = 0) (k : pz_WP mid (nx, lv, .int (x - x / y * y) :: r) σ Post) : pz_WP mid (pc, lv, .int y :: .int x :: r) σ Post := by subst hn; exact ps_at hat ⟨hy, k⟩
theorem ps_ishl {x y : Int32} (hat : pz_at mid pc = some (pc, .ishl, ln, a1, a2, ps)) (hn : pc + ln = nx) (k : pz_WP mid (nx, lv, .int (x <<< (y &&& 31)) :: r) σ Post) : pz_WP mid (pc, lv, .int y :: .int x :: r) σ Post := by subst hn; exact ps_at hat k
theorem ps_ishr {x y : Int32} (hat : pz_at mid pc = some (pc, .ishr, ln, a1, a2, ps)) (hn : pc + ln = nx) (k : pz_WP mid (nx, lv, .int (x >>> (y &&& 31)) :: r) σ Post) : pz_WP mid (pc, lv, .int y :: .int x :: r) σ Post := by subst hn; exact ps_at hat k
theorem ps_land {x y : Int64} (hat : pz_at mid pc = some (pc, .land, ln, a1, a2, ps)) (hn : pc + ln = nx) (k : pz_WP mid (nx, lv, .long (x &&& y) :: r) σ Post) : pz_WP mid (pc, lv, .long y :: .long x :: r) σ Post := by subst hn; exact ps_at hat k
theorem ps_lor {x y : Int64} (hat : pz_at mid pc = some (pc, .lor, ln, a1, a2, ps)) (hn : pc + ln = nx) (k : pz_WP mid (nx, lv, .long (x ||| y) :: r) σ Post) : pz_WP mid (pc, lv, .long y :: .long x :: r) σ Post := by subst hn; exact ps_at hat k
theorem ps_lxor {x y : Int64} (hat : pz_at mid pc = some (pc, .lxor, ln, a1, a2, ps)) (hn : pc + ln = nx) (k : pz_WP mid (nx, lv, .long (x ^^^ y) :: r) σ Post) : pz_WP mid (pc, lv, .long y :: .long x :: r) σ Post := by subst hn; exact ps_at hat k
theorem ps_lushr {x : Int64} {y : Int32} (hat : pz_at mid pc = some (pc, .lushr, ln, a1, a2, ps)) (hn : pc + ln = nx) (k : pz_WP mid (nx, lv, .long (x.toUInt64 >>> (y.toInt64.toUInt64 &&& Int64.toUInt64 63)).toInt64 :: r) σ Post) : pz_WP mid (pc, lv, .int y :: .long x :: r) σ Post := by subst hn; exact ps_at hat k
theorem ps_lshl {x : Int64} {y : Int32} (hat : pz_at mid pc = some (pc, .lshl, ln, a1, a2, ps)) (hn : pc + ln = nx) (k : pz_WP mid (nx, lv, .long (x <<< (y.toInt64 &&& 63)) :: r) σ Post) : pz_WP mid (pc, lv, .int y :: .long x :: r) σ Post := by subst hn; exact ps_at hat k
theorem ps_lcmp {x y : Int64} (hat : pz_at mid pc = some (pc, .lcmp, ln, a1, a2, ps)) (hn : pc + ln = nx) (k : pz_WP mid (nx, lv, .int (lg_cmp x y) :: r) σ Post) : pz_WP mid (pc, lv, .long y :: .long x :: r) σ Post := by subst hn; exact ps_at hat k
theorem ps_i2l {x : Int32} (hat : pz_at mid pc = some (pc, .i2l, ln, a1, a2, ps)) (hn : pc + ln = nx) (k : pz_WP mid (nx, lv, .long x.toInt64 :: r) σ Post) : pz_WP mid (pc, lv, .int x :: r) σ Post := by subst hn; exact ps_at hat k
theorem ps_l2i {x : Int64} (hat : pz_at mid pc = some (pc, .l2i, ln, a1, a2, ps)) (hn : pc + ln = nx) (k : pz_WP mid (nx, lv, .int x.toInt32 :: r) σ Post) : pz_WP mid (pc, lv, .long x :: r) σ Post := by subst hn; exact ps_at hat k
theorem pz_p1_to {v : Value} {K : Value → List Value → Prop} (h : v.category = 1) (k : K v r) : pz_p1 (v :: r) K := by unfold pz_p1; simp only [h, beq_self_eq_true, cond_true]; exact k
theorem ps_dup {v : Value} (hat : pz_at mid pc = some (pc, .dup, ln, a1, a2, ps)) (hn : pc + ln = nx) (h1 : v.category = 1) (k : pz_WP mid (nx, lv, v :: v :: r) σ Post) : pz_WP mid (pc, lv, v :: r) σ Post := by subst hn; exact ps_at hat (pz_p1_to (K := fun v r => pz_WP mid (pc + ln, lv, v :: v :: r) σ Post) h1 k)
theorem ps_pop {v : Value} (hat : pz_at mid pc = some (pc, .pop, ln, a1, a2, ps)) (hn : pc + ln = nx) (h1 : v.category = 1) (k : pz_WP mid (nx, lv, r) σ Post) : pz_WP mid (pc, lv, v :: r) σ Post := by subst hn; exact ps_at hat (pz_p1_to (K := fun _ r => pz_WP mid (pc + ln, lv, r) σ Post) h1 k)
theorem ps_dup_x1 {v w : Value} (hat : pz_at mid pc = some (pc, .dup_x1, ln, a1, a2, ps)) (hn : pc + ln = nx) (h1 : v.category = 1) (h2 : w.category = 1) (k : pz_WP mid (nx, lv, v :: w :: v :: r) σ Post) : pz_WP mid (pc, lv, v :: w :: r) σ Post := by subst hn; exact ps_at hat (pz_p1_to (K := fun v r => pz_p1 r fun w r => pz_WP mid (pc + ln, lv, v :: w :: v :: r) σ Post) h1 (pz_p1_to (K := fun w r => pz_WP mid (pc + ln, lv, v :: w :: v :: r) σ Post) h2 k))
theorem ps_dup_x2 {v w z : Value} (hat : pz_at mid pc = some (pc, .dup_x2, ln, a1, a2, ps)) (hn : pc + ln = nx) (h1 : v.category = 1) (h2 : w.category = 1) (h3 : z.category = 1) (k : pz_WP mid (nx, lv, v :: w :: z :: v :: r) σ Post) : pz_WP mid (pc, lv, v :: w :: z :: r) σ Post := by subst hn; exact ps_at hat (pz_p1_to (K := fun v r => pz_p1 r fun w r => pz_p1 r fun z r => pz_WP mid (pc + ln, lv, v :: w :: z :: v :: r) σ Post) h1 (pz_p1_to (K := fun w r => pz_p1 r fun z r => pz_WP mid (pc + ln, lv, v :: w :: z :: v :: r) σ Post) h2 (pz_p1_to (K := fun z r => pz_WP mid (pc + ln, lv, v :: w :: z :: v :: r) σ Post) h3 k)))
theorem ps_dup2 {v w : Value} (hat : pz_at mid pc = some (pc, .dup2, ln, a1, a2, ps)) (hn : pc + ln = nx) (h1 : v.category = 1) (h2 : w.category = 1) (k : pz_WP mid (nx, lv, v :: w :: v :: w :: r) σ Post) : pz_WP mid (pc, lv, v :: w :: r) σ Post := by subst hn; exact ps_at hat (pz_p1_to (K := fun v r => pz_p1 r fun w r => pz_WP mid (pc + ln, lv, v :: w :: v :: w :: r) σ Post) h1 (pz_p1_to (K := fun w r => pz_WP mid (pc + ln, lv, v :: w :: v :: w :: r) σ Post) h2 k))
theorem ps_if {c : Jvm.ClassFile.Cond} {o : Int} {x : Int32} (hat : pz_at mid pc = some (pc, .ifCond c o, ln, a1, a2, ps)) (hn : pc + ln = nx) (k : pz_cd c x 0 (pz_WP mid (a1, lv, r) σ Post) (pz_WP mid (nx, lv, r) σ Post)) : pz_WP mid (pc, lv, .int x :: r) σ Post := by subst hn; exact ps_at hat k
theorem ps_cmp {c : Jvm.ClassFile.Cond} {o : Int} {x y : Int32} (hat : pz_at mid pc = some (pc, .if_icmp c o, ln, a1, a2, ps)) (hn : pc + ln = nx) (k : pz_cd c x y (pz_WP mid (a1, lv, r) σ Post) (pz_WP mid (nx, lv, r) σ Post)) : pz_WP mid (pc, lv, .int y :: .int x :: r) σ Post := by subst hn; exact ps_at hat k
theorem ps_goto {o : Int} (hat : pz_at mid pc = some (pc, .goto o, ln, a1, a2, ps)) (k : pz_WP mid (a1, lv, st) σ Post) : pz_WP mid (pc, lv, st) σ Post := ps_at hat k
theorem ps_tsw {d lo hi : Int} {offs : Array Int} {x : Int32} (hat : pz_at mid pc = some (pc, .tableswitch d lo hi offs, ln, a1, a2, ps)) (kd : x.toInt < lo ∨ hi < x.toInt → pz_WP mid (((pc : Int) + d).toNat, lv, r) σ Post) (k : pz_tb (fun t => pz_WP mid (t, lv, r) σ Post) pc x lo offs.toList) : pz_WP mid (pc, lv, .int x :: r) σ Post := ps_at hat ⟨kd, k⟩
theorem ps_lsw {d : Int} {os : Array (Int × Int)} {x : Int32} (hat : pz_at mid pc = some (pc, .lookupswitch d os, ln, a1, a2, ps)) (k : pz_lk (fun t => pz_WP mid (t, lv, r) σ Post) pc x d os.toList) : pz_WP mid (pc, lv, .int x :: r) σ Post := ps_at hat k
theorem ps_getI {i a : Nat} (hat : pz_at mid pc = some (pc, .getfield i, ln, a1, a2, ps)) (hn : pc + ln = nx) (hf : pz_gf a a1 a2 = some none) (k : pz_WP mid (nx, lv, .int (σ.1 a a2) :: r) σ Post) : pz_WP mid (pc, lv, .ref a :: r) σ Post := by
  subst hn; exact ps_at hat (pz_gf_of hf fun fs e => by rw [e]; exact k)
theorem ps_getR {i a q : Nat} (hat : pz_at mid pc = some (pc, .getfield i, ln, a1, a2, ps)) (hn : pc + ln = nx) (hf : pz_gf a a1 a2 = some (some q)) (k : pz_WP mid (nx, lv, .ref q :: r) σ Post) : pz_WP mid (pc, lv, .ref a :: r) σ Post := by
  subst hn; exact ps_at hat (pz_gf_of hf fun fs e => by rw [e]; exact k)
theorem ps_putI {i a : Nat} {x : Int32} (hat : pz_at mid pc = some (pc, .putfield i, ln, a1, a2, ps)) (hn : pc + ln = nx) (hf : pz_gf a a1 a2 = some none) (ht : pz_ty a1 a2 = .int) (k : pz_WP mid (nx, lv, r) (pz_up σ a a2 x) Post) : pz_WP mid (pc, lv, .int x :: .ref a :: r) σ Post := by
  subst hn; exact ps_at hat (pz_gf_of hf fun fs e => by rw [e, ht]; exact k)
theorem ps_putZ {i a : Nat} {x : Int32} (hat : pz_at mid pc = some (pc, .putfield i, ln, a1, a2, ps)) (hn : pc + ln = nx) (hf : pz_gf a a1 a2 = some none) (ht : pz_ty a1 a2 = .boolean) (hx : x = 0 ∨ x = 1) (k : pz_WP mid (nx, lv, r) (pz_up σ a a2 x) Post) : pz_WP mid (pc, lv, .int x :: .ref a :: r) σ Post := by
  subst hn; exact ps_at hat (pz_gf_of hf fun fs e => by rw [e, ht]; exact ⟨hx, k⟩)
theorem ps_gst {i : Nat} (hat : pz_at mid pc = some (pc, .getstatic i, ln, a1, a2, ps)) (hn : pc + ln = nx) (k : pz_WP mid (nx, lv, .ref 1002 :: st) σ Post) : pz_WP mid (pc, lv, st) σ Post := by subst hn; exact ps_at hat k
theorem ps_slen (hat : pz_at mid pc = some (pc, .arraylength, ln, a1, a2, ps)) (hn : pc + ln = nx) (k : pz_WP mid (nx, lv, .int (σ.1 1001 0) :: r) σ Post) : pz_WP mid (pc, lv, .ref 1000 :: r) σ Post := by subst hn; exact ps_at hat k
theorem ps_sld {i : Int32} (hat : pz_at mid pc = some (pc, .iaload, ln, a1, a2, ps)) (hn : pc + ln = nx) (hi : vp_in i (σ.1 1001 0).toNatClampNeg) (k : pz_WP mid (nx, lv, .int (σ.1 1000 i.toNatClampNeg) :: r) σ Post) : pz_WP mid (pc, lv, .int i :: .ref 1000 :: r) σ Post := by subst hn; exact ps_at hat ⟨hi, k⟩
theorem ps_wld {i : Int32} (hat : pz_at mid pc = some (pc, .iaload, ln, a1, a2, ps)) (hn : pc + ln = nx) (hi : vp_in i 96) (k : pz_WP mid (nx, lv, .int (pz_wn i.toNatClampNeg) :: r) σ Post) : pz_WP mid (pc, lv, .int i :: .ref 1002 :: r) σ Post := by subst hn; exact ps_at hat ⟨hi, k⟩
theorem ps_iald {a n : Nat} {i : Int32} (hat : pz_at mid pc = some (pc, .iaload, ln, a1, a2, ps)) (hn : pc + ln = nx) (hg : pz_ga a = some (.int, n)) (h1 : (a == 1000) = false) (h2 : (a == 1002) = false) (hi : vp_in i n) (k : pz_WP mid (nx, lv, .int (σ.1 a i.toNatClampNeg) :: r) σ Post) : pz_WP mid (pc, lv, .int i :: .ref a :: r) σ Post := by
  subst hn
  refine ps_at hat ?_
  show (bif a == 1000 then _ else bif a == 1002 then _ else _)
  rw [h1, h2]
  exact pz_ga_of hg ⟨hi, k⟩
theorem ps_zald {a n : Nat} {i : Int32} (hat : pz_at mid pc = some (pc, .baload, ln, a1, a2, ps)) (hn : pc + ln = nx) (hg : pz_ga a = some (.boolean, n)) (hi : vp_in i n) (k : pz_WP mid (nx, lv, .int (σ.1 a i.toNatClampNeg) :: r) σ Post) : pz_WP mid (pc, lv, .int i :: .ref a :: r) σ Post := by subst hn; exact ps_at hat (pz_ga_of hg ⟨hi, k⟩)
theorem ps_lald {a n : Nat} {i : Int32} (hat : pz_at mid pc = some (pc, .laload, ln, a1, a2, ps)) (hn : pc + ln = nx) (hg : pz_ga a = some (.long, n)) (hi : vp_in i n) (k : pz_WP mid (nx, lv, .long (σ.2 a i.toNatClampNeg) :: r) σ Post) : pz_WP mid (pc, lv, .int i :: .ref a :: r) σ Post := by subst hn; exact ps_at hat (pz_ga_of hg ⟨hi, k⟩)
theorem ps_iast {a n : Nat} {i x : Int32} (hat : pz_at mid pc = some (pc, .iastore, ln, a1, a2, ps)) (hn : pc + ln = nx) (hg : pz_ga a = some (.int, n)) (hi : vp_in i n) (k : pz_WP mid (nx, lv, r) (pz_up σ a i.toNatClampNeg x) Post) : pz_WP mid (pc, lv, .int x :: .int i :: .ref a :: r) σ Post := by subst hn; exact ps_at hat (pz_ga_of hg ⟨hi, k⟩)
theorem ps_zast {a n : Nat} {i x : Int32} (hat : pz_at mid pc = some (pc, .bastore, ln, a1, a2, ps)) (hn : pc + ln = nx) (hg : pz_ga a = some (.boolean, n)) (hi : vp_in i n) (hx : x = 0 ∨ x = 1) (k : pz_WP mid (nx, lv, r) (pz_up σ a i.toNatClampNeg x) Post) : pz_WP mid (pc, lv, .int x :: .int i :: .ref a :: r) σ Post := by subst hn; exact ps_at hat (pz_ga_of hg ⟨hi, hx, k⟩)
theorem ps_last {a n : Nat} {i : Int32} {x : Int64} (hat : pz_at mid pc = some (pc, .lastore, ln, a1, a2, ps)) (hn : pc + ln = nx) (hg : pz_ga a = some (.long, n)) (hi : vp_in i n) (k : pz_WP mid (nx, lv, r) (pz_uq σ a i.toNatClampNeg x) Post) : pz_WP mid (pc, lv, .long x :: .int i :: .ref a :: r) σ Post := by subst hn; exact ps_at hat (pz_ga_of hg ⟨hi, k⟩)
theorem ps_min {i : Nat} {x y : Int32} (hat : pz_at mid pc = some (pc, .invokestatic i, ln, 900, a2, ps)) (hn : pc + ln = nx) (hr : (r.map Value.category).sum ≤ 8) (k : pz_WP mid (nx, lv, .int (if y < x then y else x) :: r) σ Post) : pz_WP mid (pc, lv, .int y :: .int x :: r) σ Post := by subst hn; exact ps_at hat (pz_rs_to hr k)
theorem ps_cpy {i a d n0 n1 : Nat} {n dp sp : Int32} (hat : pz_at mid pc = some (pc, .invokestatic i, ln, 901, a2, ps)) (hn : pc + ln = nx) (hr : (r.map Value.category).sum ≤ 8) (hg0 : pz_ga a = some (.int, n0)) (hg1 : pz_ga d = some (.int, n1)) (h1 : ¬ sp < 0) (h2 : ¬ dp < 0) (h3 : ¬ n < 0) (h4 : sp.toNatClampNeg + n.toNatClampNeg ≤ n0) (h5 : dp.toNatClampNeg + n.toNatClampNeg ≤ n1) (k : pz_WP mid (nx, lv, r) (pz_uc σ a d sp.toNatClampNeg dp.toNatClampNeg n.toNatClampNeg) Post) : pz_WP mid (pc, lv, .int n :: .int dp :: .ref d :: .int sp :: .ref a :: r) σ Post := by
  subst hn; exact ps_at hat (pz_ga_of hg0 (pz_ga_of hg1 (pz_rs_to hr ⟨h1, h2, h3, h4, h5, k⟩)))
theorem pz_rt_toI {ty : FieldType} (ht : (ty == .int || ty == .boolean) = true) {Q : pz_Ps} {K : List Value → pz_Sg → Prop} (k : ∀ x σ', Q (some (.int x)) σ' → K [.int x] σ') : pz_rt (some ty) Q K := by
  cases ty <;> first | exact k | exact absurd ht (by decide) | (exact absurd ht (by simp))
theorem ps_cVi {i b t n ow mx : Nat} {ty : FieldType} {As : List Value} (hat : pz_at mid pc = some (pc, .invokevirtual i, ln, t, n, ps)) (hn : pc + ln = nx) (hm : pz_mi t = (ow, mx, some ty)) (ht : (ty == .int || ty == .boolean) = true) (hc : pz_gc b = some ow) (hl : As.length = n) (hst : st = As.reverse ++ .ref b :: r) (hr : (r.map Value.category).sum ≤ 8) (hf : (pz_ea (.ref b :: As)).length ≤ mx)
    (k : ∃ Q : pz_Ps, pz_WP t (0, pz_en mx (.ref b :: As), []) σ Q ∧ ∀ x σ', Q (some (.int x)) σ' → pz_WP mid (nx, lv, .int x :: r) σ' Post) : pz_WP mid (pc, lv, st) σ Post := by
  subst hn hl hst
  obtain ⟨m1, m2, m3⟩ : (pz_Mt t).2.1.1 = ow ∧ (pz_Mt t).1.2.2.1 = mx ∧ (pz_Mt t).1.2.2.2 = some ty := by unfold pz_mi at hm; exact ⟨congrArg (·.1) hm, congrArg (·.2.1) hm, congrArg (·.2.2) hm⟩
  refine ps_at hat (pz_pp_to (As := As) ?_)
  show pz_ob b (pz_Mt t).2.1.1 _
  rw [m1]
  refine pz_gc_of hc fun fs => ?_
  dsimp only
  rw [List.append_nil, m2, m3]
  obtain ⟨Q, k1, k2⟩ := k
  exact pz_rs_to hr (pz_ft_to hf ⟨Q, k1, pz_rt_toI ht k2⟩)
theorem ps_cVl {i b t n ow mx : Nat} {As : List Value} (hat : pz_at mid pc = some (pc, .invokevirtual i, ln, t, n, ps)) (hn : pc + ln = nx) (hm : pz_mi t = (ow, mx, some .long)) (hc : pz_gc b = some ow) (hl : As.length = n) (hst : st = As.reverse ++ .ref b :: r) (hr : (r.map Value.category).sum ≤ 8) (hf : (pz_ea (.ref b :: As)).length ≤ mx)
    (k : ∃ Q : pz_Ps, pz_WP t (0, pz_en mx (.ref b :: As), []) σ Q ∧ ∀ x σ', Q (some (.long x)) σ' → pz_WP mid (nx, lv, .long x :: r) σ' Post) : pz_WP mid (pc, lv, st) σ Post := by
  subst hn hl hst
  obtain ⟨m1, m2, m3⟩ : (pz_Mt t).2.1.1 = ow ∧ (pz_Mt t).1.2.2.1 = mx ∧ (pz_Mt t).1.2.2.2 = some .long := by unfold pz_mi at hm; exact ⟨congrArg (·.1) hm, congrArg (·.2.1) hm, congrArg (·.2.2) hm⟩
  refine ps_at hat (pz_pp_to (As := As) ?_)
  show pz_ob b (pz_Mt t).2.1.1 _
  rw [m1]
  refine pz_gc_of hc fun fs => ?_
  dsimp only
  rw [List.append_nil, m2, m3]
  obtain ⟨Q, k1, k2⟩ := k
  exact pz_rs_to hr (pz_ft_to hf ⟨Q, k1, k2⟩)
theorem ps_cVv {i b t n ow mx : Nat} {As : List Value} (hat : pz_at mid pc = some (pc, .invokevirtual i, ln, t, n, ps)) (hn : pc + ln = nx) (hm : pz_mi t = (ow, mx, none)) (hc : pz_gc b = some ow) (hl : As.length = n) (hst : st = As.reverse ++ .ref b :: r) (hr : (r.map Value.category).sum ≤ 8) (hf : (pz_ea (.ref b :: As)).length ≤ mx)
    (k : ∃ Q : pz_Ps, pz_WP t (0, pz_en mx (.ref b :: As), []) σ Q ∧ ∀ σ', Q none σ' → pz_WP mid (nx, lv, r) σ' Post) : pz_WP mid (pc, lv, st) σ Post := by
  subst hn hl hst
  obtain ⟨m1, m2, m3⟩ : (pz_Mt t).2.1.1 = ow ∧ (pz_Mt t).1.2.2.1 = mx ∧ (pz_Mt t).1.2.2.2 = none := by unfold pz_mi at hm; exact ⟨congrArg (·.1) hm, congrArg (·.2.1) hm, congrArg (·.2.2) hm⟩
  refine ps_at hat (pz_pp_to (As := As) ?_)
  show pz_ob b (pz_Mt t).2.1.1 _
  rw [m1]
  refine pz_gc_of hc fun fs => ?_
  dsimp only
  rw [List.append_nil, m2, m3]
  obtain ⟨Q, k1, k2⟩ := k
  exact pz_rs_to hr (pz_ft_to hf ⟨Q, k1, k2⟩)
theorem ps_cSi {i t n ow mx : Nat} {ty : FieldType} {As : List Value} (hat : pz_at mid pc = some (pc, .invokestatic i, ln, t, n, ps)) (hn : pc + ln = nx) (hm : pz_mi t = (ow, mx, some ty)) (ht : (ty == .int || ty == .boolean) = true) (h9 : (t == 900) = false) (h91 : (t == 901) = false) (hl : As.length = n) (hst : st = As.reverse ++ r) (hr : (r.map Value.category).sum ≤ 8) (hf : (pz_ea As).length ≤ mx)
    (k : ∃ Q : pz_Ps, pz_WP t (0, pz_en mx As, []) σ Q ∧ ∀ x σ', Q (some (.int x)) σ' → pz_WP mid (nx, lv, .int x :: r) σ' Post) : pz_WP mid (pc, lv, st) σ Post := by
  subst hn hl hst
  obtain ⟨m1, m2, m3⟩ : (pz_Mt t).2.1.1 = ow ∧ (pz_Mt t).1.2.2.1 = mx ∧ (pz_Mt t).1.2.2.2 = some ty := by unfold pz_mi at hm; exact ⟨congrArg (·.1) hm, congrArg (·.2.1) hm, congrArg (·.2.2) hm⟩
  refine ps_at hat ?_
  show (bif t == 900 then _ else bif t == 901 then _ else _)
  rw [h9, h91]
  refine pz_pp_to (As := As) ?_
  dsimp only
  rw [List.append_nil, m2, m3]
  obtain ⟨Q, k1, k2⟩ := k
  exact pz_rs_to hr (pz_ft_to hf ⟨Q, k1, pz_rt_toI ht k2⟩)
theorem ps_cSl {i t n ow mx : Nat} {As : List Value} (hat : pz_at mid pc = some (pc, .invokestatic i, ln, t, n, ps)) (hn : pc + ln = nx) (hm : pz_mi t = (ow, mx, some .long)) (h9 : (t == 900) = false) (h91 : (t == 901) = false) (hl : As.length = n) (hst : st = As.reverse ++ r) (hr : (r.map Value.category).sum ≤ 8) (hf : (pz_ea As).length ≤ mx)
    (k : ∃ Q : pz_Ps, pz_WP t (0, pz_en mx As, []) σ Q ∧ ∀ x σ', Q (some (.long x)) σ' → pz_WP mid (nx, lv, .long x :: r) σ' Post) : pz_WP mid (pc, lv, st) σ Post := by
  subst hn hl hst
  obtain ⟨m1, m2, m3⟩ : (pz_Mt t).2.1.1 = ow ∧ (pz_Mt t).1.2.2.1 = mx ∧ (pz_Mt t).1.2.2.2 = some .long := by unfold pz_mi at hm; exact ⟨congrArg (·.1) hm, congrArg (·.2.1) hm, congrArg (·.2.2) hm⟩
  refine ps_at hat ?_
  show (bif t == 900 then _ else bif t == 901 then _ else _)
  rw [h9, h91]
  refine pz_pp_to (As := As) ?_
  dsimp only
  rw [List.append_nil, m2, m3]
  obtain ⟨Q, k1, k2⟩ := k
  exact pz_rs_to hr (pz_ft_to hf ⟨Q, k1, k2⟩)
theorem ps_retI {x : Int32} (hat : pz_at mid pc = some (pc, .ireturn, ln, a1, a2, ps)) (hm : (pz_mi mid).2.2 = some .int) (k : Post (some (.int x)) σ) : pz_WP mid (pc, lv, [.int x]) σ Post := by
  refine ps_at hat ⟨rfl, ?_⟩
  rw [show (pz_Mt mid).1.2.2.2 = some .int from hm]
  exact k
theorem ps_retZ {x : Int32} (hat : pz_at mid pc = some (pc, .ireturn, ln, a1, a2, ps)) (hm : (pz_mi mid).2.2 = some .boolean) (hx : x = 0 ∨ x = 1) (k : Post (some (.int x)) σ) : pz_WP mid (pc, lv, [.int x]) σ Post := by
  refine ps_at hat ⟨rfl, ?_⟩
  rw [show (pz_Mt mid).1.2.2.2 = some .boolean from hm]
  exact ⟨hx, k⟩
theorem ps_retL {x : Int64} (hat : pz_at mid pc = some (pc, .lreturn, ln, a1, a2, ps)) (hm : (pz_mi mid).2.2 = some .long) (k : Post (some (.long x)) σ) : pz_WP mid (pc, lv, [.long x]) σ Post := by
  refine ps_at hat ⟨rfl, ?_⟩
  rw [show (pz_Mt mid).1.2.2.2 = some .long from hm]
  exact k
theorem ps_retV (hat : pz_at mid pc = some (pc, .return_, ln, a1, a2, ps)) (hm : (pz_mi mid).2.2 = none) (k : Post none σ) : pz_WP mid (pc, lv, []) σ Post := by
  refine ps_at hat ⟨rfl, ?_⟩
  rw [show (pz_Mt mid).1.2.2.2 = none from hm]
  exact k
end PS
