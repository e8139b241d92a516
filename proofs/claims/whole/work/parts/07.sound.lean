/-! ===== a step of the pure machine, over the machine itself ===== -/
theorem pz_vw : ∀ a, a < 8 → vwCl[a]? = some (pz_nm a, pz_T a, pz_N a)
  | 0, _ => rfl
  | 1, _ => rfl
  | 2, _ => rfl
  | 3, _ => rfl
  | 4, _ => rfl
  | 5, _ => rfl
  | 6, _ => rfl
  | 7, _ => rfl
  | n + 8, h => absurd h (by omega)
theorem pz_own8 : ∀ k, k < 180 → (pz_Mt k).2.1.1 < 8 := by decide +kernel
theorem pz_tyk : ∀ a, a < 8 → ∀ k, k < pz_N a → parseFieldDescriptor (pz_T a k).2.2.1 = some (pz_ty a k)
  | 0, _ => tyX0_ok
  | 1, _ => tyX1_ok
  | 2, _ => tyX2_ok
  | 3, _ => tyX3_ok
  | 4, _ => tyX4_ok
  | 5, _ => tyX5_ok
  | 6, _ => tyX6_ok
  | 7, _ => tyX7_ok
  | n + 8, h => absurd h (by omega)
theorem pz_nmk : ∀ a, a < 8 → ∀ x, x < pz_N a → ∀ y, y < pz_N a → x ≠ y → (pz_T a x).2.1 ≠ (pz_T a y).2.1
  | 0, _ => nmX0
  | 1, _ => nmX1
  | 2, _ => nmX2
  | 3, _ => nmX3
  | 4, _ => nmX4
  | 5, _ => nmX5
  | 6, _ => nmX6
  | 7, _ => nmX7
  | n + 8, h => absurd h (by omega)
theorem pz_inU {a : Nat} (h : a < 8) : ∀ w ∈ u_ws (pz_nm a) (pz_T a) (pz_N a), w ∈ pz_tl := by
  intro w hw
  unfold u_ws at hw
  obtain ⟨k, hk, rfl⟩ := List.mem_map.mp hw
  have h1 := List.all_eq_true.mp pz_inq a (List.mem_range.mpr h)
  have h2 := List.all_eq_true.mp h1 k hk
  refine pz_tl_at (of_decide_eq_true h2) ?_
  unfold u_lay
  split <;> rfl
def pz_A (ad : Nat → Nat) (sz : Nat) : Nat → Prop := fun q => (∃ i, i < 103 ∧ q = ad i) ∨ sz ≤ q
theorem pz_Dj {cA : FieldType → ClassId} {ad : Nat → Nat} {σ : pz_Sg} {sz : Nat} (hinj : ∀ i j, i < 103 → j < 103 → ad i = ad j → i = j) : va_D (pz_A ad sz) (pz_ws cA ad σ) := by
  have key : ∀ (i : Nat) (q : Nat × va_E), (pz_ws cA ad σ)[i]? = some q → i < 103 ∧ q.1 = ad i := by
    intro i q hq
    unfold pz_ws at hq
    rw [List.getElem?_mapIdx] at hq
    cases he : pz_sh[i]? with
    | none => rw [he] at hq; cases hq
    | some e =>
      rw [he] at hq
      cases hq
      exact ⟨pz_sh_lt he, rfl⟩
  refine ⟨fun i j x y hx hy hxy => ?_, fun k q hq => ?_⟩
  · obtain ⟨h1, h2⟩ := key i x hx
    obtain ⟨h3, h4⟩ := key j y hy
    exact hinj i j h1 h3 (by rw [← h2, ← h4]; exact hxy)
  · obtain ⟨h1, h2⟩ := key k q hq
    exact Or.inl ⟨k, h1, h2⟩
/-- what stands fast while a method runs -/
def pz_Cx (dC : Nat → ClassId) (dI : Nat → Nat → Nat) (cA : FieldType → ClassId) (ad : Nat → Nat) (L : Nat) (xs : Nat → Int32) (mid : Nat) (p : Program) (R : Room) (s : State) (m : MethodId) (args : Array Value) (meth : Method) (c : Code) (cells slots : Nat) : Prop :=
  p.tables.exec = Jvm.exec ∧ c.code = (pz_Mt mid).1.2.1 ∧ c.maxLocals = (pz_Mt mid).1.2.2.1 ∧ s.vm.findClass (pz_nm (pz_Mt mid).2.1.1) = some m.cls ∧ (∀ w ∈ pz_tl, w.before args s = true) ∧ R.frames = (pz_Mt mid).2.1.2.2.1 ∧ R.locals = (pz_Mt mid).2.1.2.2.2 ∧ cells ≤ R.cells ∧ slots ≤ R.slots ∧ va_K (dC, dI) vwCl (pz_tys cA) s ∧ (∀ i j, i < 103 → j < 103 → ad i = ad j → i = j) ∧ ad 1000 < s.heap.size ∧ (∀ i, i < 103 → ad 1000 ≠ ad i) ∧ va_X (ad 1000) L xs s s.heap ∧ va_Z "PurityEffects" "WANTED" "[I" (.ref (ad 1002)) (pz_A ad s.heap.size) s s.heap ∧ va_T .int (ad 1002) 96 (fun j => .int (pz_wn j)) (pz_A ad s.heap.size) s s.heap ∧ va_Nw pz_nw s ∧ L ≤ 3072
/-- an end of a method -/
def pz_ra (mid pc : Nat) (v : Option Value) : Prop := match v with
  | none => decode (pz_Mt mid).1.2.1 pc = .ok (.return_, 1) ∧ (pz_Mt mid).1.2.2.2 = none
  | some (.int x) => decode (pz_Mt mid).1.2.1 pc = .ok (.ireturn, 1) ∧ ((pz_Mt mid).1.2.2.2 = some .int ∨ ((pz_Mt mid).1.2.2.2 = some .boolean ∧ (x = 0 ∨ x = 1)))
  | some (.long _) => decode (pz_Mt mid).1.2.1 pc = .ok (.lreturn, 1) ∧ (pz_Mt mid).1.2.2.2 = some .long
  | _ => False
def pz_SP (l : Launch) (dC : Nat → ClassId) (dI : Nat → Nat → Nat) (cA : FieldType → ClassId) (ad : Nat → Nat) (L : Nat) (xs : Nat → Int32) : pz_Pd := fun mid f σ Post =>
  ∀ (p : Program) (e : Env) (R : Room) (s : State) (m : MethodId) (args : Array Value) (below : List Frame) (meth : Method) (c : Code) (H : Heap) (locs : List Loc) (cells slots : Nat) (Qz : State → Prop) (ls : Array Slot),
    pz_Cx dC dI cA ad L xs mid p R s m args meth c cells slots → pz_ti L xs σ → pz_LH ad ls (pz_Mt mid).1.2.2.1 f.2.1 → va_P (dC, dI) vwCl (pz_ws cA ad σ) H → va_S (pz_A ad s.heap.size) s.heap H locs →
    (∀ (v : Option Value) (σ' : pz_Sg) (H' : Heap) (locs' : List Loc) (ls' : Array Slot) (pc : Nat), Post v σ' → pz_ti L xs σ' → va_P (dC, dI) vwCl (pz_ws cA ad σ') H' → va_S (pz_A ad s.heap.size) s.heap H' locs' → pz_ra mid pc v → W p l e R s m args below meth c H' locs' cells slots Qz (F0 m pc ls' v.toList)) →
    W p l e R s m args below meth c H locs cells slots Qz (F0 m f.1 ls (f.2.2.map (pz_cv ad)))
/-- a method's start and end, as its callers see them -/
def pz_B (dC : Nat → ClassId) (dI : Nat → Nat → Nat) (cA : FieldType → ClassId) (ad : Nat → Nat) (L : Nat) (xs : Nat → Int32) (σ : pz_Sg) (sz : Nat) (U : State) : Prop :=
  U.heap.size = sz ∧ va_P (dC, dI) vwCl (pz_ws cA ad σ) U.heap ∧ va_K (dC, dI) vwCl (pz_tys cA) U ∧ va_X (ad 1000) L xs U U.heap ∧ va_Z "PurityEffects" "WANTED" "[I" (.ref (ad 1002)) (pz_A ad sz) U U.heap ∧ va_T .int (ad 1002) 96 (fun j => .int (pz_wn j)) (pz_A ad sz) U U.heap ∧ va_Nw pz_nw U
def pz_vk (ret : Option FieldType) (v : Option Value) : Prop := match ret with
  | none => v = none
  | some .long => ∃ x, v = some (.long x)
  | some _ => ∃ x, v = some (.int x)
theorem pz_rt_of {ret : Option FieldType} {Q : pz_Ps} {K : List Value → pz_Sg → Prop} (h : pz_rt ret Q K) {v : Option Value} {σ : pz_Sg} (hv : pz_vk ret v) (hq : Q v σ) : K v.toList σ := by
  cases ret with
  | none => cases hv; exact h σ hq
  | some t => cases t <;> (obtain ⟨x, rfl⟩ := hv; exact h x σ hq)
def pz_Q (dC : Nat → ClassId) (dI : Nat → Nat → Nat) (cA : FieldType → ClassId) (ad : Nat → Nat) (L : Nat) (xs : Nat → Int32) (ret : Option FieldType) (Q : pz_Ps) (sz : Nat) : Array Value → State → Outcome → State → Prop := fun _ st oc t =>
  (∃ (v : Option Value) (σ' : pz_Sg), oc = .returned v ∧ Q v σ' ∧ pz_ti L xs σ' ∧ pz_vk ret v ∧ va_P (dC, dI) vwCl (pz_ws cA ad σ') t.heap) ∧ va_F (pz_A ad sz) st t
theorem pz_narb {x : Int32} (h : x = 0 ∨ x = 1) : narrow .boolean (.int x) = .int x ∧ fits .boolean (.int x) = true ∧ vp_nar .boolean x = x := by
  rcases h with rfl | rfl <;> refine ⟨by decide, by decide, by decide⟩
set_option maxHeartbeats 4000000 in
/-- the contract of a method out of the pure machine's word -/
theorem pz_met {l : Launch} {dC : Nat → ClassId} {dI : Nat → Nat → Nat} {cA : FieldType → ClassId} {ad : Nat → Nat} {L : Nat} {xs : Nat → Int32} {t : Nat} {As : List Value} {σ : pz_Sg} {Q : pz_Ps} {sz : Nat} (h : pz_SP l dC dI cA ad L xs t (0, pz_en (pz_Mt t).1.2.2.1 As, []) σ Q) (ht : t < 180) (hti : pz_ti L xs σ) (hinj : ∀ i j, i < 103 → j < 103 → ad i = ad j → i = j) (hsz : ad 1000 < sz) (hne : ∀ i, i < 103 → ad 1000 ≠ ad i) (hL : L ≤ 3072) (hlen : (pz_ea As).length ≤ (pz_Mt t).1.2.2.1) :
    Met l (pz_Mt t).1.1 (pz_wsM t) (pz_rm t) (va_Pc (As.map (pz_cv ad)) (pz_B dC dI cA ad L xs σ sz)) (pz_Q dC dI cA ad L xs (pz_Mt t).1.2.2.2 Q sz) 0 0 (pz_A ad sz) := by
  have hc := pz_cl t ht
  unfold pz_cal at hc
  simp only [Bool.and_eq_true, decide_eq_true_eq] at hc
  obtain ⟨⟨⟨⟨⟨⟨hc2, hc3⟩, hc4⟩, hc5⟩, hc6⟩, hc7⟩, hc8⟩ := hc
  refine Met.ofW (cc := (pz_Mt t).1.2.1) (maxL := (pz_Mt t).1.2.2.1) (ret := (pz_Mt t).1.2.2.2) hc5 rfl ?_
  intro p e s m args below meth c s₁ B hml hv
  obtain ⟨rfl, hv1, hP, hK, hX, hZ, hT, hN⟩ := hv
  subst hv1
  have hx := B.exec
  have hb := B.bytes
  have hr := B.returns
  have hts := atoms_spec (ws := pz_wsM t) B.pre
  have hlocks := B.notSynchronized
  have hown : s.vm.findClass (pz_Mt t).1.1.cls = some m.cls := findClass_of_methodNamed B.named
  rw [lg_entry_eq]
  refine h p e _ s m _ below meth c s.heap [] 0 0 _ _ ⟨hx, hb, hml, by rw [← hc4]; exact hown, fun w hw => hts w (List.mem_cons_of_mem _ hw), rfl, rfl, Nat.zero_le _, Nat.zero_le _, hK, hinj, hsz, hne, hX, hZ, hT, hN, hL⟩ hti (pz_en_LH hlen) hP va_S.rf ?_
  intro v σ' H' locs' ls' pc hpost hti' hP' hS' hra
  have fin : ∀ (t' : State), t'.heap = H' → pz_vk (pz_Mt t).1.2.2.2 v → pz_Q dC dI cA ad L xs (pz_Mt t).1.2.2.2 Q s.heap.size ((As.map (pz_cv ad)).toArray) s (.returned v) t' := fun t' ht' hk => ⟨⟨v, σ', rfl, hpost, hti', hk, by rw [ht']; exact hP'⟩, hS'.F ht'⟩
  match v, hra, fin with
  | none, hra, fin => exact W.vret hx hb (hr.trans hra.2) (fun t' ht' _ => fin t' ht' (by rw [hra.2]; exact rfl)) hS'.2.2 hra.1
  | some (.int x), hra, fin =>
    obtain ⟨h1, h2 | ⟨h2, h3⟩⟩ := hra
    · exact W.iret hx hb (hr.trans h2) (fun t' ht' _ => fin t' ht' (by rw [h2]; exact ⟨x, rfl⟩)) hS'.2.2 h1
    · exact W.zret hx hb (hr.trans h2) (pz_narb h3).1 (fun t' ht' _ => fin t' ht' (by rw [h2]; exact ⟨x, rfl⟩)) hS'.2.2 h1
  | some (.long x), hra, fin => exact W.lret hx hb (hr.trans hra.2) (fun t' ht' _ => fin t' ht' (by rw [hra.2]; exact ⟨x, rfl⟩)) hS'.2.2 hra.1
  | some (.float x), hra, fin => exact hra.elim
  | some (.double x), hra, fin => exact hra.elim
  | some .null, hra, fin => exact hra.elim
  | some (.ref x), hra, fin => exact hra.elim
  | some (.retAddr x), hra, fin => exact hra.elim
/-- behind a call -/
theorem pz_back {p : Program} {l : Launch} {e : Env} {R : Room} {s : State} {m : MethodId} {args : Array Value} {below : List Frame} {meth : Method} {c : Code} {H : Heap} {locs : List Loc} {cells slots : Nat} {Qz : State → Prop} {dC : Nat → ClassId} {dI : Nat → Nat → Nat} {cA : FieldType → ClassId} {ad : Nat → Nat} {L : Nat} {xs : Nat → Int32} {ret : Option FieldType} {Q : pz_Ps} {pc : Nat} {ls : Array Slot} {st0 rest : List Value} {aa : Array Value}
    (hr : va_Run p l e R s m args below meth c H locs cells slots 0 0 (F0 m pc ls st0) rest (pz_Q dC dI cA ad L xs ret Q H.size aa) (pz_A ad H.size)) (hS : va_S (pz_A ad s.heap.size) s.heap H locs)
    (kk : ∀ (v : Option Value) (σ' : pz_Sg) (H1 : Heap) (locs1 : List Loc), Q v σ' → pz_ti L xs σ' → pz_vk ret v → va_P (dC, dI) vwCl (pz_ws cA ad σ') H1 → va_S (pz_A ad s.heap.size) s.heap H1 locs1 → W p l e R s m args below meth c H1 locs1 cells slots Qz (F0 m (pc + 3) ls (v.toList ++ rest))) : W p l e R s m args below meth c H locs cells slots Qz (F0 m pc ls st0) := by
  have hA : ∀ q, pz_A ad H.size q → pz_A ad s.heap.size q := fun q h => h.elim Or.inl (fun z => Or.inr (Nat.le_trans hS.1 z))
  intro T hT X
  obtain ⟨v, st₀, t, T', L0, h0, X', hL, e1, e2, ⟨⟨v', σ', hv, hq, hti, hvk, hp⟩, hz, hk⟩, st⟩ := hr T hT X
  cases hv
  rw [h0] at hz hk
  obtain ⟨t2, a1, b1⟩ := kk v σ' T'.heap (locs ++ L0) hq hti hvk (by rw [e1]; exact hp)
    ⟨Nat.le_trans hS.1 (by rw [e1]; exact hz), fun q h1 h2 => by rw [e1, hk q (Nat.lt_of_lt_of_le h1 hS.1) (fun z => h2 (hA q z))]; exact hS.2.1 q h1 h2, fun q hq => by
      rcases List.mem_append.mp hq with h | h
      · exact hS.2.2 q h
      · exact hA _ (hL q h)⟩ T' rfl X'
  exact ⟨t2, st t2 a1, b1⟩
theorem pz_vk_cv {ad : Nat → Nat} {ret : Option FieldType} {v : Option Value} (h : pz_vk ret v) (r : List Value) : v.toList ++ r.map (pz_cv ad) = (v.toList ++ r).map (pz_cv ad) := by
  cases ret with
  | none => cases h; rfl
  | some t => cases t <;> (obtain ⟨x, rfl⟩ := h; rfl)
theorem pz_fd_of : ∀ {is : List pz_Ins} {pc : Nat} {i : pz_Ins}, pz_fd is pc = some i → i ∈ is ∧ i.1 = pc
  | [], _, _, h => by cases h
  | j :: r, pc, i, h => by
    unfold pz_fd at h
    cases hq : (j.1 == pc) with
    | true =>
      rw [hq] at h
      cases h
      exact ⟨List.mem_cons_self, by simpa using hq⟩
    | false =>
      rw [hq] at h
      obtain ⟨h1, h2⟩ := pz_fd_of h
      exact ⟨List.mem_cons_of_mem _ h1, h2⟩
theorem pz_tb_at {K : Nat → Prop} {pc : Nat} {x : Int32} : ∀ {os : List Int} {lo : Int} {j : Nat} {o : Int}, pz_tb K pc x lo os → os[j]? = some o → x = Int32.ofInt (lo + j) → K ((pc : Int) + o).toNat
  | [], _, _, _, _, h, _ => by simp at h
  | o' :: r, lo, 0, o, h, ho, hx => by
    simp at ho
    subst ho
    exact h.1 (by simpa using hx)
  | o' :: r, lo, j + 1, o, h, ho, hx => pz_tb_at (lo := lo + 1) (j := j) h.2 (by simpa using ho) (by rw [hx]; congr 1; push_cast; omega)
theorem pz_ofi {x : Int32} {k : Int} (h1 : -2147483648 ≤ k) (h2 : k < 2147483648) : x = Int32.ofInt k ↔ x.toInt = k := by
  constructor
  · rintro rfl
    exact Int32.toInt_ofInt_of_le (by simpa using h1) (by simpa using h2)
  · intro h
    rw [← h, Int32.ofInt_toInt]
theorem pz_lk_at {K : Nat → Prop} {pc : Nat} {x : Int32} {d : Int} : ∀ {os : List (Int × Int)}, (∀ q ∈ os, -2147483648 ≤ q.1 ∧ q.1 < 2147483648) → pz_lk K pc x d os → ∃ off, Op.lookupswitch.offset os d x.toInt = off ∧ K ((pc : Int) + off).toNat ∧ (off = d ∨ ∃ q ∈ os, off = q.2)
  | [], _, h => ⟨d, rfl, h, Or.inl rfl⟩
  | (a, o) :: r, hb, h => by
    obtain ⟨b1, b2⟩ := hb (a, o) List.mem_cons_self
    rw [Op.lookupswitch.offset_cons]
    by_cases hq : a = x.toInt
    · rw [if_pos hq]
      exact ⟨o, rfl, h.1 ((pz_ofi b1 b2).mpr hq.symm), Or.inr ⟨_, List.mem_cons_self, rfl⟩⟩
    · rw [if_neg hq]
      obtain ⟨off, h1, h2, h3⟩ := pz_lk_at (os := r) (fun q hq => hb q (List.mem_cons_of_mem _ hq)) (h.2 (fun z => hq ((pz_ofi b1 b2).mp z).symm))
      exact ⟨off, h1, h2, h3.imp id (fun ⟨q, g1, g2⟩ => ⟨q, List.mem_cons_of_mem _ g1, g2⟩)⟩
