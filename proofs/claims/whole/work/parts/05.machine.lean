/-! ===== THE PURE MACHINE: what an instruction does, over the world's names; 'pz_WP mid f σ Post': method mid, at frame f, in state σ, returns, and Post holds then ===== -/
abbrev pz_Sg : Type := (Nat → Nat → Int32) × (Nat → Nat → Int64)
abbrev pz_Lv : Type := List (Option Value)
abbrev pz_Fr : Type := Nat × pz_Lv × List Value
abbrev pz_Ps : Type := Option Value → pz_Sg → Prop
abbrev pz_Pd : Type := Nat → pz_Fr → pz_Sg → pz_Ps → Prop
/-- a number, a long is put; a stretch is copied -/
def pz_up (σ : pz_Sg) (a j : Nat) (v : Int32) : pz_Sg := (fun x y => if x = a ∧ y = j then v else σ.1 x y, σ.2)
def pz_uq (σ : pz_Sg) (a j : Nat) (v : Int64) : pz_Sg := (σ.1, fun x y => if x = a ∧ y = j then v else σ.2 x y)
def pz_uc (σ : pz_Sg) (a d sp dp n : Nat) : pz_Sg := (fun x y => if x = d then va_cpy (σ.1 a) (σ.1 d) sp dp n y else σ.1 x y, σ.2)
def pz_fd : List pz_Ins → Nat → Option pz_Ins
  | [], _ => none
  | i :: r, pc => bif i.1 == pc then some i else pz_fd r pc
def pz_at (mid pc : Nat) : Option pz_Ins := pz_fd (pz_Mt mid).2.2.1 pc
/-- locals: a store of one word, of two -/
def pz_c1 (o : Option Value) : Option Value := match o with
  | some (.long _) => none
  | some (.double _) => none
  | o => o
def pz_s1 : pz_Lv → Nat → Value → pz_Lv
  | [], _, _ => []
  | _ :: r, 0, v => some v :: r
  | o :: r, 1, v => pz_c1 o :: pz_s1 r 0 v
  | o :: r, n + 2, v => o :: pz_s1 r (n + 1) v
def pz_s2 : pz_Lv → Nat → Value → pz_Lv
  | [], _, _ => []
  | _ :: [], 0, v => [some v]
  | _ :: _ :: r, 0, v => some v :: none :: r
  | o :: r, 1, v => pz_c1 o :: pz_s2 r 0 v
  | o :: r, n + 2, v => o :: pz_s2 r (n + 1) v
/-- the locals with which a method begins -/
def pz_ea : List Value → pz_Lv
  | [] => []
  | .long x :: r => some (.long x) :: none :: pz_ea r
  | .double x :: r => some (.double x) :: none :: pz_ea r
  | v :: r => some v :: pz_ea r
def pz_en (n : Nat) (vs : List Value) : pz_Lv := pz_ea vs ++ List.replicate (n - (pz_ea vs).length) none
/-- what stands on the stack, in a local -/
def pz_pi (st : List Value) (K : Int32 → List Value → Prop) : Prop := match st with
  | .int x :: r => K x r
  | _ => False
def pz_pl (st : List Value) (K : Int64 → List Value → Prop) : Prop := match st with
  | .long x :: r => K x r
  | _ => False
def pz_pa (st : List Value) (K : Nat → List Value → Prop) : Prop := match st with
  | .ref x :: r => K x r
  | _ => False
def pz_p1 (st : List Value) (K : Value → List Value → Prop) : Prop := match st with
  | v :: r => bif v.category == 1 then K v r else False
  | _ => False
def pz_li (lv : pz_Lv) (i : Nat) (K : Int32 → Prop) : Prop := match lv[i]? with
  | some (some (.int x)) => K x
  | _ => False
def pz_ll (lv : pz_Lv) (i : Nat) (K : Int64 → Prop) : Prop := match lv[i]? with
  | some (some (.long x)) => K x
  | _ => False
def pz_la (lv : pz_Lv) (i : Nat) (K : Nat → Prop) : Prop := match lv[i]? with
  | some (some (.ref x)) => K x
  | _ => False
def pz_pp : Nat → List Value → List Value → (List Value → List Value → Prop) → Prop
  | 0, st, acc, K => K acc st
  | n + 1, v :: st, acc, K => pz_pp n st (v :: acc) K
  | _ + 1, [], _, _ => False
def pz_br (c a b : Prop) : Prop := (c → a) ∧ (¬ c → b)
def pz_cd (c : Jvm.ClassFile.Cond) (x y : Int32) (a b : Prop) : Prop := match c with
  | .eq => pz_br (x = y) a b
  | .ne => pz_br (x = y) b a
  | .lt => pz_br (x < y) a b
  | .ge => pz_br (y ≤ x) a b
  | .gt => pz_br (y < x) a b
  | .le => pz_br (x ≤ y) a b
def pz_tb (K : Nat → Prop) (pc : Nat) (x : Int32) : Int → List Int → Prop
  | _, [] => True
  | lo, o :: r => (x = Int32.ofInt lo → K ((pc : Int) + o).toNat) ∧ pz_tb K pc x (lo + 1) r
def pz_lk (K : Nat → Prop) (pc : Nat) (x : Int32) (d : Int) : List (Int × Int) → Prop
  | [] => K ((pc : Int) + d).toNat
  | q :: r => pz_br (x = Int32.ofInt q.1) (K ((pc : Int) + q.2).toNat) (pz_lk K pc x d r)
/-- an object's cell, an array's -/
def pz_ob (a ci : Nat) (K : List (Option Nat) → Prop) : Prop := match pz_sh[a]? with
  | some (.inl (c, fs)) => bif c == ci then K fs else False
  | _ => False
def pz_ar (a : Nat) (ty : FieldType) (K : Nat → Prop) : Prop := match pz_sh[a]? with
  | some (.inr (t, n)) => bif decide (t = ty) then K n else False
  | _ => False
/-- what a callee answers, by its kind -/
def pz_rt (ret : Option FieldType) (Q : pz_Ps) (K : List Value → pz_Sg → Prop) : Prop := match ret with
  | none => ∀ σ', Q none σ' → K [] σ'
  | some .long => ∀ x σ', Q (some (.long x)) σ' → K [.long x] σ'
  | some _ => ∀ x σ', Q (some (.int x)) σ' → K [.int x] σ'
def pz_ft (n : Nat) (vs : List Value) (K : Prop) : Prop := bif decide ((pz_ea vs).length ≤ n) then K else False
def pz_rs (r : List Value) (K : Prop) : Prop := bif decide ((r.map Value.category).sum ≤ 8) then K else False
/-- what one instruction asks: C for what is called, P for what comes behind -/
def pz_ex (C P : pz_Pd) (mid pc : Nat) (lv : pz_Lv) (st : List Value) (σ : pz_Sg) (Post : pz_Ps) (ins : Instr) (nx a1 a2 : Nat) : Prop := match ins with
  | .iconst n => P mid (nx, lv, .int (Int32.ofInt n) :: st) σ Post
  | .bipush n => P mid (nx, lv, .int (Int8.ofInt n).toInt32 :: st) σ Post
  | .sipush n => P mid (nx, lv, .int (Int16.ofInt n).toInt32 :: st) σ Post
  | .lconst n => P mid (nx, lv, .long (Int64.ofNat n.val) :: st) σ Post
  | .ldc _ => P mid (nx, lv, .int (Int32.ofNat a1) :: st) σ Post
  | .ldc2_w _ => P mid (nx, lv, .long (Int64.ofNat a1) :: st) σ Post
  | .iload i => pz_li lv i fun x => P mid (nx, lv, .int x :: st) σ Post
  | .iload_n i => pz_li lv i.val fun x => P mid (nx, lv, .int x :: st) σ Post
  | .lload i => pz_ll lv i fun x => P mid (nx, lv, .long x :: st) σ Post
  | .lload_n i => pz_ll lv i.val fun x => P mid (nx, lv, .long x :: st) σ Post
  | .aload i => pz_la lv i fun x => P mid (nx, lv, .ref x :: st) σ Post
  | .aload_n i => pz_la lv i.val fun x => P mid (nx, lv, .ref x :: st) σ Post
  | .istore i => pz_pi st fun x r => P mid (nx, pz_s1 lv i (.int x), r) σ Post
  | .istore_n i => pz_pi st fun x r => P mid (nx, pz_s1 lv i.val (.int x), r) σ Post
  | .lstore i => pz_pl st fun x r => P mid (nx, pz_s2 lv i (.long x), r) σ Post
  | .lstore_n i => pz_pl st fun x r => P mid (nx, pz_s2 lv i.val (.long x), r) σ Post
  | .astore i => pz_pa st fun x r => P mid (nx, pz_s1 lv i (.ref x), r) σ Post
  | .astore_n i => pz_pa st fun x r => P mid (nx, pz_s1 lv i.val (.ref x), r) σ Post
  | .iinc i n => pz_li lv i fun x => P mid (nx, pz_s1 lv i (.int (x + Int32.ofInt n)), st) σ Post
  | .iadd => pz_pi st fun y r => pz_pi r fun x r => P mid (nx, lv, .int (x + y) :: r) σ Post
  | .isub => pz_pi st fun y r => pz_pi r fun x r => P mid (nx, lv, .int (x - y) :: r) σ Post
  | .imul => pz_pi st fun y r => pz_pi r fun x r => P mid (nx, lv, .int (x * y) :: r) σ Post
  | .iand => pz_pi st fun y r => pz_pi r fun x r => P mid (nx, lv, .int (x &&& y) :: r) σ Post
  | .ior => pz_pi st fun y r => pz_pi r fun x r => P mid (nx, lv, .int (x ||| y) :: r) σ Post
  | .ixor => pz_pi st fun y r => pz_pi r fun x r => P mid (nx, lv, .int (x ^^^ y) :: r) σ Post
  | .idiv => pz_pi st fun y r => pz_pi r fun x r => ¬ y = 0 ∧ P mid (nx, lv, .int (x / y) :: r) σ Post
  | .irem => pz_pi st fun y r => pz_pi r fun x r => ¬ y = 0 ∧ P mid (nx, lv, .int (x - x / y * y) :: r) σ Post
  | .ishl => pz_pi st fun y r => pz_pi r fun x r => P mid (nx, lv, .int (x <<< (y &&& 31)) :: r) σ Post
  | .ishr => pz_pi st fun y r => pz_pi r fun x r => P mid (nx, lv, .int (x >>> (y &&& 31)) :: r) σ Post
  | .land => pz_pl st fun y r => pz_pl r fun x r => P mid (nx, lv, .long (x &&& y) :: r) σ Post
  | .lor => pz_pl st fun y r => pz_pl r fun x r => P mid (nx, lv, .long (x ||| y) :: r) σ Post
  | .lxor => pz_pl st fun y r => pz_pl r fun x r => P mid (nx, lv, .long (x ^^^ y) :: r) σ Post
  | .lushr => pz_pi st fun y r => pz_pl r fun x r => P mid (nx, lv, .long (x.toUInt64 >>> (y.toInt64.toUInt64 &&& Int64.toUInt64 63)).toInt64 :: r) σ Post
  | .lshl => pz_pi st fun y r => pz_pl r fun x r => P mid (nx, lv, .long (x <<< (y.toInt64 &&& 63)) :: r) σ Post
  | .lcmp => pz_pl st fun y r => pz_pl r fun x r => P mid (nx, lv, .int (lg_cmp x y) :: r) σ Post
  | .i2l => pz_pi st fun x r => P mid (nx, lv, .long x.toInt64 :: r) σ Post
  | .l2i => pz_pl st fun x r => P mid (nx, lv, .int x.toInt32 :: r) σ Post
  | .dup => pz_p1 st fun v r => P mid (nx, lv, v :: v :: r) σ Post
  | .pop => pz_p1 st fun _ r => P mid (nx, lv, r) σ Post
  | .dup_x1 => pz_p1 st fun v r => pz_p1 r fun w r => P mid (nx, lv, v :: w :: v :: r) σ Post
  | .dup_x2 => pz_p1 st fun v r => pz_p1 r fun w r => pz_p1 r fun z r => P mid (nx, lv, v :: w :: z :: v :: r) σ Post
  | .dup2 => pz_p1 st fun v r => pz_p1 r fun w r => P mid (nx, lv, v :: w :: v :: w :: r) σ Post
  | .ifCond c _ => pz_pi st fun x r => pz_cd c x 0 (P mid (a1, lv, r) σ Post) (P mid (nx, lv, r) σ Post)
  | .if_icmp c _ => pz_pi st fun y r => pz_pi r fun x r => pz_cd c x y (P mid (a1, lv, r) σ Post) (P mid (nx, lv, r) σ Post)
  | .goto _ => P mid (a1, lv, st) σ Post
  | .tableswitch d lo hi offs => pz_pi st fun x r => (x.toInt < lo ∨ hi < x.toInt → P mid (((pc : Int) + d).toNat, lv, r) σ Post) ∧ pz_tb (fun t => P mid (t, lv, r) σ Post) pc x lo offs.toList
  | .lookupswitch d ps => pz_pi st fun x r => pz_lk (fun t => P mid (t, lv, r) σ Post) pc x d ps.toList
  | .getfield _ => pz_pa st fun a r => pz_ob a a1 fun fs => match fs[a2]? with
    | some (some q) => P mid (nx, lv, .ref q :: r) σ Post
    | some none => P mid (nx, lv, .int (σ.1 a a2) :: r) σ Post
    | none => False
  | .putfield _ => pz_pi st fun x r => pz_pa r fun a r => pz_ob a a1 fun fs => match fs[a2]? with
    | some none => (match pz_ty a1 a2 with
      | .int => P mid (nx, lv, r) (pz_up σ a a2 x) Post
      | .boolean => (x = 0 ∨ x = 1) ∧ P mid (nx, lv, r) (pz_up σ a a2 x) Post
      | _ => False)
    | _ => False
  | .getstatic _ => P mid (nx, lv, .ref 1002 :: st) σ Post
  | .arraylength => pz_pa st fun a r => bif a == 1000 then P mid (nx, lv, .int (σ.1 1001 0) :: r) σ Post else False
  | .iaload => pz_pi st fun i r => pz_pa r fun a r => bif a == 1000 then vp_in i (σ.1 1001 0).toNatClampNeg ∧ P mid (nx, lv, .int (σ.1 1000 i.toNatClampNeg) :: r) σ Post
      else bif a == 1002 then vp_in i 96 ∧ P mid (nx, lv, .int (pz_wn i.toNatClampNeg) :: r) σ Post
      else pz_ar a .int fun n => vp_in i n ∧ P mid (nx, lv, .int (σ.1 a i.toNatClampNeg) :: r) σ Post
  | .baload => pz_pi st fun i r => pz_pa r fun a r => pz_ar a .boolean fun n => vp_in i n ∧ P mid (nx, lv, .int (σ.1 a i.toNatClampNeg) :: r) σ Post
  | .laload => pz_pi st fun i r => pz_pa r fun a r => pz_ar a .long fun n => vp_in i n ∧ P mid (nx, lv, .long (σ.2 a i.toNatClampNeg) :: r) σ Post
  | .iastore => pz_pi st fun x r => pz_pi r fun i r => pz_pa r fun a r => pz_ar a .int fun n => vp_in i n ∧ P mid (nx, lv, r) (pz_up σ a i.toNatClampNeg x) Post
  | .bastore => pz_pi st fun x r => pz_pi r fun i r => pz_pa r fun a r => pz_ar a .boolean fun n => vp_in i n ∧ (x = 0 ∨ x = 1) ∧ P mid (nx, lv, r) (pz_up σ a i.toNatClampNeg x) Post
  | .lastore => pz_pl st fun x r => pz_pi r fun i r => pz_pa r fun a r => pz_ar a .long fun n => vp_in i n ∧ P mid (nx, lv, r) (pz_uq σ a i.toNatClampNeg x) Post
  | .invokevirtual _ => pz_pp a2 st [] fun As r => pz_pa r fun b r => pz_ob b (pz_Mt a1).2.1.1 fun _ => pz_rs r (pz_ft (pz_Mt a1).1.2.2.1 (.ref b :: As) (∃ Q : pz_Ps, C a1 (0, pz_en (pz_Mt a1).1.2.2.1 (.ref b :: As), []) σ Q ∧ pz_rt (pz_Mt a1).1.2.2.2 Q (fun vs σ' => P mid (nx, lv, vs ++ r) σ' Post)))
  | .invokestatic _ => bif a1 == 900 then pz_pi st fun y r => pz_pi r fun x r => pz_rs r (P mid (nx, lv, .int (if y < x then y else x) :: r) σ Post)
      else bif a1 == 901 then pz_pi st fun n r => pz_pi r fun dp r => pz_pa r fun d r => pz_pi r fun sp r => pz_pa r fun a r => pz_ar a .int fun n0 => pz_ar d .int fun n1 => pz_rs r (¬ sp < 0 ∧ ¬ dp < 0 ∧ ¬ n < 0 ∧ sp.toNatClampNeg + n.toNatClampNeg ≤ n0 ∧ dp.toNatClampNeg + n.toNatClampNeg ≤ n1 ∧ P mid (nx, lv, r) (pz_uc σ a d sp.toNatClampNeg dp.toNatClampNeg n.toNatClampNeg) Post)
      else pz_pp a2 st [] fun As r => pz_rs r (pz_ft (pz_Mt a1).1.2.2.1 As (∃ Q : pz_Ps, C a1 (0, pz_en (pz_Mt a1).1.2.2.1 As, []) σ Q ∧ pz_rt (pz_Mt a1).1.2.2.2 Q (fun vs σ' => P mid (nx, lv, vs ++ r) σ' Post)))
  | .ireturn => pz_pi st fun x r => r = [] ∧ (match (pz_Mt mid).1.2.2.2 with
    | some .int => Post (some (.int x)) σ
    | some .boolean => (x = 0 ∨ x = 1) ∧ Post (some (.int x)) σ
    | _ => False)
  | .lreturn => pz_pl st fun x r => r = [] ∧ (match (pz_Mt mid).1.2.2.2 with
    | some .long => Post (some (.long x)) σ
    | _ => False)
  | .return_ => st = [] ∧ (match (pz_Mt mid).1.2.2.2 with
    | none => Post none σ
    | _ => False)
  | _ => False
def pz_stp (C P : pz_Pd) (mid : Nat) (f : pz_Fr) (σ : pz_Sg) (Post : pz_Ps) : Prop := match pz_at mid f.1 with
  | none => False
  | some i => pz_ex C P mid f.1 f.2.1 f.2.2 σ Post i.2.1 (f.1 + i.2.2.1) i.2.2.2.1 i.2.2.2.2.1
/-! rows of these words -/
theorem pz_pi_of {st : List Value} {K : Int32 → List Value → Prop} (h : pz_pi st K) : ∃ x r, st = .int x :: r ∧ K x r := by
  unfold pz_pi at h
  split at h
  · exact ⟨_, _, rfl, h⟩
  · exact h.elim
theorem pz_pl_of {st : List Value} {K : Int64 → List Value → Prop} (h : pz_pl st K) : ∃ x r, st = .long x :: r ∧ K x r := by
  unfold pz_pl at h
  split at h
  · exact ⟨_, _, rfl, h⟩
  · exact h.elim
theorem pz_pa_of {st : List Value} {K : Nat → List Value → Prop} (h : pz_pa st K) : ∃ x r, st = .ref x :: r ∧ K x r := by
  unfold pz_pa at h
  split at h
  · exact ⟨_, _, rfl, h⟩
  · exact h.elim
theorem pz_bif {b : Bool} {A : Prop} (h : bif b then A else False) : b = true ∧ A := by
  cases b
  · exact h.elim
  · exact ⟨rfl, h⟩
theorem pz_p1_of {st : List Value} {K : Value → List Value → Prop} (h : pz_p1 st K) : ∃ v r, st = v :: r ∧ v.category = 1 ∧ K v r := by
  unfold pz_p1 at h
  split at h
  · obtain ⟨h1, h2⟩ := pz_bif h
    exact ⟨_, _, rfl, by simpa using h1, h2⟩
  · exact h.elim
theorem pz_li_of {lv : pz_Lv} {i : Nat} {K : Int32 → Prop} (h : pz_li lv i K) : ∃ x, lv[i]? = some (some (.int x)) ∧ K x := by
  unfold pz_li at h
  split at h
  · exact ⟨_, ‹_›, h⟩
  · exact h.elim
theorem pz_ll_of {lv : pz_Lv} {i : Nat} {K : Int64 → Prop} (h : pz_ll lv i K) : ∃ x, lv[i]? = some (some (.long x)) ∧ K x := by
  unfold pz_ll at h
  split at h
  · exact ⟨_, ‹_›, h⟩
  · exact h.elim
theorem pz_la_of {lv : pz_Lv} {i : Nat} {K : Nat → Prop} (h : pz_la lv i K) : ∃ x, lv[i]? = some (some (.ref x)) ∧ K x := by
  unfold pz_la at h
  split at h
  · exact ⟨_, ‹_›, h⟩
  · exact h.elim
theorem pz_pp_of {n : Nat} {st acc : List Value} {K : List Value → List Value → Prop} (h : pz_pp n st acc K) : ∃ As r, As.length = n ∧ st = As.reverse ++ r ∧ K (As ++ acc) r := by
  induction n generalizing st acc with
  | zero => exact ⟨[], st, rfl, rfl, h⟩
  | succ n ih =>
    cases st with
    | nil => exact h.elim
    | cons v st =>
      obtain ⟨As, r, h1, h2, h3⟩ := ih (st := st) (acc := v :: acc) h
      exact ⟨As ++ [v], r, by simp [h1], by simp [h2], by simpa using h3⟩
theorem pz_ob_of {a ci : Nat} {K : List (Option Nat) → Prop} (h : pz_ob a ci K) : ∃ fs, pz_sh[a]? = some (.inl (ci, fs)) ∧ K fs := by
  unfold pz_ob at h
  split at h
  · rename_i c fs he
    obtain ⟨h1, h2⟩ := pz_bif h
    have h1 : c = ci := by simpa using h1
    subst h1
    exact ⟨fs, he, h2⟩
  · exact h.elim
theorem pz_ar_of {a : Nat} {ty : FieldType} {K : Nat → Prop} (h : pz_ar a ty K) : ∃ n, pz_sh[a]? = some (.inr (ty, n)) ∧ K n := by
  unfold pz_ar at h
  split at h
  · rename_i c fs he
    obtain ⟨h1, h2⟩ := pz_bif h
    have h1 : c = ty := by simpa using h1
    subst h1
    exact ⟨fs, he, h2⟩
  · exact h.elim
theorem pz_rs_of {r : List Value} {K : Prop} (h : pz_rs r K) : (r.map Value.category).sum ≤ 8 ∧ K := by
  obtain ⟨h1, h2⟩ := pz_bif h
  exact ⟨by simpa using h1, h2⟩
theorem pz_ft_of {n : Nat} {vs : List Value} {K : Prop} (h : pz_ft n vs K) : (pz_ea vs).length ≤ n ∧ K := by
  obtain ⟨h1, h2⟩ := pz_bif h
  exact ⟨by simpa using h1, h2⟩
/-! growth -/
theorem pz_pi_m {st : List Value} {K K' : Int32 → List Value → Prop} (g : ∀ x r, K x r → K' x r) (h : pz_pi st K) : pz_pi st K' := by
  obtain ⟨x, r, rfl, h⟩ := pz_pi_of h
  exact g x r h
theorem pz_pl_m {st : List Value} {K K' : Int64 → List Value → Prop} (g : ∀ x r, K x r → K' x r) (h : pz_pl st K) : pz_pl st K' := by
  obtain ⟨x, r, rfl, h⟩ := pz_pl_of h
  exact g x r h
theorem pz_pa_m {st : List Value} {K K' : Nat → List Value → Prop} (g : ∀ x r, K x r → K' x r) (h : pz_pa st K) : pz_pa st K' := by
  obtain ⟨x, r, rfl, h⟩ := pz_pa_of h
  exact g x r h
theorem pz_p1_m {st : List Value} {K K' : Value → List Value → Prop} (g : ∀ x r, K x r → K' x r) (h : pz_p1 st K) : pz_p1 st K' := by
  obtain ⟨x, r, rfl, hc, h⟩ := pz_p1_of h
  unfold pz_p1
  simp only [hc, beq_self_eq_true, cond_true]
  exact g x r h
theorem pz_li_m {lv : pz_Lv} {i : Nat} {K K' : Int32 → Prop} (g : ∀ x, K x → K' x) (h : pz_li lv i K) : pz_li lv i K' := by
  obtain ⟨x, e, h⟩ := pz_li_of h
  unfold pz_li
  rw [e]
  exact g x h
theorem pz_ll_m {lv : pz_Lv} {i : Nat} {K K' : Int64 → Prop} (g : ∀ x, K x → K' x) (h : pz_ll lv i K) : pz_ll lv i K' := by
  obtain ⟨x, e, h⟩ := pz_ll_of h
  unfold pz_ll
  rw [e]
  exact g x h
theorem pz_la_m {lv : pz_Lv} {i : Nat} {K K' : Nat → Prop} (g : ∀ x, K x → K' x) (h : pz_la lv i K) : pz_la lv i K' := by
  obtain ⟨x, e, h⟩ := pz_la_of h
  unfold pz_la
  rw [e]
  exact g x h
theorem pz_pp_m {n : Nat} {st acc : List Value} {K K' : List Value → List Value → Prop} (g : ∀ x r, K x r → K' x r) (h : pz_pp n st acc K) : pz_pp n st acc K' := by
  induction n generalizing st acc with
  | zero => exact g _ _ h
  | succ n ih =>
    cases st with
    | nil => exact h.elim
    | cons v st => exact ih (st := st) (acc := v :: acc) h
theorem pz_br_m {c a b a' b' : Prop} (ga : a → a') (gb : b → b') (h : pz_br c a b) : pz_br c a' b' := ⟨fun z => ga (h.1 z), fun z => gb (h.2 z)⟩
theorem pz_cd_m {c : Jvm.ClassFile.Cond} {x y : Int32} {a b a' b' : Prop} (ga : a → a') (gb : b → b') (h : pz_cd c x y a b) : pz_cd c x y a' b' := by
  cases c
  · exact pz_br_m ga gb h
  · exact pz_br_m gb ga h
  · exact pz_br_m ga gb h
  · exact pz_br_m ga gb h
  · exact pz_br_m ga gb h
  · exact pz_br_m ga gb h
theorem pz_tb_m {K K' : Nat → Prop} {pc : Nat} {x : Int32} (g : ∀ t, K t → K' t) : ∀ {lo : Int} {os : List Int}, pz_tb K pc x lo os → pz_tb K' pc x lo os
  | _, [], _ => trivial
  | _, _ :: _, h => ⟨fun z => g _ (h.1 z), pz_tb_m g h.2⟩
theorem pz_lk_m {K K' : Nat → Prop} {pc : Nat} {x : Int32} {d : Int} (g : ∀ t, K t → K' t) : ∀ {os : List (Int × Int)}, pz_lk K pc x d os → pz_lk K' pc x d os
  | [], h => g _ h
  | _ :: _, h => pz_br_m (g _) (pz_lk_m g) h
theorem pz_ob_m {a ci : Nat} {K K' : List (Option Nat) → Prop} (g : ∀ x, K x → K' x) (h : pz_ob a ci K) : pz_ob a ci K' := by
  obtain ⟨x, e, h⟩ := pz_ob_of h
  unfold pz_ob
  rw [e]
  simp only [beq_self_eq_true, cond_true]
  exact g x h
theorem pz_ar_m {a : Nat} {ty : FieldType} {K K' : Nat → Prop} (g : ∀ x, K x → K' x) (h : pz_ar a ty K) : pz_ar a ty K' := by
  obtain ⟨x, e, h⟩ := pz_ar_of h
  unfold pz_ar
  rw [e]
  simp only [decide_true, cond_true]
  exact g x h
theorem pz_rs_m {r : List Value} {K K' : Prop} (g : K → K') (h : pz_rs r K) : pz_rs r K' := by
  obtain ⟨h1, h2⟩ := pz_rs_of h
  unfold pz_rs
  simp only [h1, decide_true, cond_true]
  exact g h2
theorem pz_ft_m {n : Nat} {vs : List Value} {K K' : Prop} (g : K → K') (h : pz_ft n vs K) : pz_ft n vs K' := by
  obtain ⟨h1, h2⟩ := pz_ft_of h
  unfold pz_ft
  simp only [h1, decide_true, cond_true]
  exact g h2
theorem pz_rt_m {ret : Option FieldType} {Q : pz_Ps} {K K' : List Value → pz_Sg → Prop} (g : ∀ v σ, K v σ → K' v σ) (h : pz_rt ret Q K) : pz_rt ret Q K' := by
  cases ret with
  | none => exact fun σ' hq => g _ _ (h σ' hq)
  | some t => cases t <;> exact fun x σ' hq => g _ _ (h x σ' hq)
theorem pz_bf_m {b : Bool} {A B A' B' : Prop} (ga : A → A') (gb : B → B') (h : bif b then A else B) : bif b then A' else B' := by
  cases b
  · exact gb h
  · exact ga h
set_option maxHeartbeats 4000000 in
theorem pz_ex_m {C P C' P' : pz_Pd} (gC : ∀ m f σ Q, C m f σ Q → C' m f σ Q) (gP : ∀ m f σ Q, P m f σ Q → P' m f σ Q) {mid pc : Nat} {lv : pz_Lv} {st : List Value} {σ : pz_Sg} {Post : pz_Ps} {ins : Instr} {nx a1 a2 : Nat} (h : pz_ex C P mid pc lv st σ Post ins nx a1 a2) : pz_ex C' P' mid pc lv st σ Post ins nx a1 a2 := by
  cases ins
  case getfield i =>
    refine pz_pa_m (fun a r h => pz_ob_m (fun fs h => ?_) h) h
    split at h
    · exact gP _ _ _ _ h
    · exact gP _ _ _ _ h
    · exact h.elim
  case putfield i =>
    refine pz_pi_m (fun x r h => pz_pa_m (fun a r h => pz_ob_m (fun fs h => ?_) h) h) h
    split at h
    · split at h
      · exact gP _ _ _ _ h
      · exact ⟨h.1, gP _ _ _ _ h.2⟩
      · exact h.elim
    · exact h.elim
  case invokevirtual i => exact pz_pp_m (fun As r h => pz_pa_m (fun b r h => pz_ob_m (fun fs h => pz_rs_m (pz_ft_m fun ⟨Q, h1, h2⟩ => ⟨Q, gC _ _ _ _ h1, pz_rt_m (fun _ _ => gP _ _ _ _) h2⟩) h) h) h) h
  case invokestatic i =>
    refine pz_bf_m ?_ (pz_bf_m ?_ ?_) h
    · exact fun h => pz_pi_m (fun y r h => pz_pi_m (fun x r h => pz_rs_m (gP _ _ _ _) h) h) h
    · exact fun h => pz_pi_m (fun n r h => pz_pi_m (fun dp r h => pz_pa_m (fun d r h => pz_pi_m (fun sp r h => pz_pa_m (fun a r h => pz_ar_m (fun n0 h => pz_ar_m (fun n1 h => pz_rs_m (fun ⟨h1, h2, h3, h4, h5, h6⟩ => ⟨h1, h2, h3, h4, h5, gP _ _ _ _ h6⟩) h) h) h) h) h) h) h) h
    · exact fun h => pz_pp_m (fun As r h => pz_rs_m (pz_ft_m fun ⟨Q, h1, h2⟩ => ⟨Q, gC _ _ _ _ h1, pz_rt_m (fun _ _ => gP _ _ _ _) h2⟩) h) h
  case tableswitch d lo hi offs => exact pz_pi_m (fun x r h => ⟨fun z => gP _ _ _ _ (h.1 z), pz_tb_m (fun t => gP _ _ _ _) h.2⟩) h
  case lookupswitch d ps => exact pz_pi_m (fun x r h => pz_lk_m (fun t => gP _ _ _ _) h) h
  case iaload => exact pz_pi_m (fun i r h => pz_pa_m (fun a r h => pz_bf_m (fun h => ⟨h.1, gP _ _ _ _ h.2⟩) (pz_bf_m (fun h => ⟨h.1, gP _ _ _ _ h.2⟩) (pz_ar_m (fun n h => ⟨h.1, gP _ _ _ _ h.2⟩))) h) h) h
  case baload => exact pz_pi_m (fun i r h => pz_pa_m (fun a r h => pz_ar_m (fun n h => ⟨h.1, gP _ _ _ _ h.2⟩) h) h) h
  case laload => exact pz_pi_m (fun i r h => pz_pa_m (fun a r h => pz_ar_m (fun n h => ⟨h.1, gP _ _ _ _ h.2⟩) h) h) h
  case iastore => exact pz_pi_m (fun x r h => pz_pi_m (fun i r h => pz_pa_m (fun a r h => pz_ar_m (fun n h => ⟨h.1, gP _ _ _ _ h.2⟩) h) h) h) h
  case bastore => exact pz_pi_m (fun x r h => pz_pi_m (fun i r h => pz_pa_m (fun a r h => pz_ar_m (fun n h => ⟨h.1, h.2.1, gP _ _ _ _ h.2.2⟩) h) h) h) h
  case lastore => exact pz_pl_m (fun x r h => pz_pi_m (fun i r h => pz_pa_m (fun a r h => pz_ar_m (fun n h => ⟨h.1, gP _ _ _ _ h.2⟩) h) h) h) h
  case arraylength => exact pz_pa_m (fun a r h => pz_bf_m (gP _ _ _ _) id h) h
  case idiv => exact pz_pi_m (fun y r h => pz_pi_m (fun x r h => ⟨h.1, gP _ _ _ _ h.2⟩) h) h
  case irem => exact pz_pi_m (fun y r h => pz_pi_m (fun x r h => ⟨h.1, gP _ _ _ _ h.2⟩) h) h
  case ifCond c o => exact pz_pi_m (fun x r h => pz_cd_m (gP _ _ _ _) (gP _ _ _ _) h) h
  case if_icmp c o => exact pz_pi_m (fun y r h => pz_pi_m (fun x r h => pz_cd_m (gP _ _ _ _) (gP _ _ _ _) h) h) h
  all_goals first
    | exact h
    | exact gP _ _ _ _ h
    | exact pz_li_m (fun _ => gP _ _ _ _) h
    | exact pz_ll_m (fun _ => gP _ _ _ _) h
    | exact pz_la_m (fun _ => gP _ _ _ _) h
    | exact pz_pi_m (fun _ _ => gP _ _ _ _) h
    | exact pz_pl_m (fun _ _ => gP _ _ _ _) h
    | exact pz_pa_m (fun _ _ => gP _ _ _ _) h
    | exact pz_p1_m (fun _ _ => gP _ _ _ _) h
    | exact pz_pi_m (fun _ _ h => pz_pi_m (fun _ _ => gP _ _ _ _) h) h
    | exact pz_pl_m (fun _ _ h => pz_pl_m (fun _ _ => gP _ _ _ _) h) h
    | exact pz_pi_m (fun _ _ h => pz_pl_m (fun _ _ => gP _ _ _ _) h) h
    | exact pz_p1_m (fun _ _ h => pz_p1_m (fun _ _ => gP _ _ _ _) h) h
    | exact pz_p1_m (fun _ _ h => pz_p1_m (fun _ _ h => pz_p1_m (fun _ _ => gP _ _ _ _) h) h) h
theorem pz_stp_m {C P C' P' : pz_Pd} (gC : ∀ m f σ Q, C m f σ Q → C' m f σ Q) (gP : ∀ m f σ Q, P m f σ Q → P' m f σ Q) {mid : Nat} {f : pz_Fr} {σ : pz_Sg} {Post : pz_Ps} (h : pz_stp C P mid f σ Post) : pz_stp C' P' mid f σ Post := by
  unfold pz_stp at h ⊢
  split at h
  · exact h.elim
  · exact pz_ex_m gC gP h
/-! the least of what is closed under the steps -/
def pz_WP : pz_Pd := fun mid f σ Post => ∀ P : pz_Pd, (∀ mid f σ Post, pz_stp P P mid f σ Post → P mid f σ Post) → P mid f σ Post
theorem pz_in {mid : Nat} {f : pz_Fr} {σ : pz_Sg} {Post : pz_Ps} (h : pz_stp pz_WP pz_WP mid f σ Post) : pz_WP mid f σ Post :=
  fun P hP => hP _ _ _ _ (pz_stp_m (fun _ _ _ _ z => z P hP) (fun _ _ _ _ z => z P hP) h)
/-- several steps at once, up to the pcs of 'stops' -/
def pz_Wk (stops : List Nat) : Nat → pz_Pd
  | 0 => pz_WP
  | k + 1 => fun mid f σ Post => bif stops.contains f.1 then pz_WP mid f σ Post else pz_stp pz_WP (pz_Wk stops k) mid f σ Post
theorem pz_Wk_in {stops : List Nat} : ∀ {k mid : Nat} {f : pz_Fr} {σ : pz_Sg} {Post : pz_Ps}, pz_Wk stops k mid f σ Post → pz_WP mid f σ Post
  | 0, _, _, _, _, h => h
  | k + 1, mid, f, σ, Post, h => by
    unfold pz_Wk at h
    cases hc : stops.contains f.1 with
    | true => rw [hc] at h; exact h
    | false => rw [hc] at h; exact pz_in (pz_stp_m (fun _ _ _ _ z => z) (fun _ _ _ _ z => pz_Wk_in z) h)
theorem pz_cut (stops : List Nat) (k : Nat) {mid : Nat} {f : pz_Fr} {σ : pz_Sg} {Post : pz_Ps} (h : pz_stp pz_WP (pz_Wk stops k) mid f σ Post) : pz_WP mid f σ Post :=
  pz_in (pz_stp_m (fun _ _ _ _ z => z) (fun _ _ _ _ z => pz_Wk_in z) h)
