/-! ===== THE PURE MACHINE IS RIGHT: what it says of a method holds of the machine itself ===== -/
def pz_tl : List Cond := lw_tbl.filter goodWord
theorem pz_tl_at {i : Nat} {w : Cond} (h : lw_tbl[i]? = some w) (g : goodWord w = true) : w ∈ pz_tl := List.mem_filter.mpr ⟨List.mem_of_getElem? h, g⟩
theorem pz_GI {ws : List Cond} (h : ∀ w ∈ ws, w ∈ pz_tl) : GoodIn pz_tl ws := fun w hw => ⟨h w hw, good_of_word (List.mem_filter.mp (h w hw)).2⟩
def pz_wsM (mid : Nat) : List Cond := .code (pz_Mt mid).1.1 (pz_Mt mid).1.2.1 (pz_Mt mid).1.2.2.1 (pz_Mt mid).1.2.2.2 :: pz_tl
def pz_rm (mid : Nat) : Room := { frames := (pz_Mt mid).2.1.2.2.1, cells := 0, slots := 0, locals := (pz_Mt mid).2.1.2.2.2 }
/-! names and addresses -/
def pz_cv (ad : Nat → Nat) (v : Value) : Value := match v with
  | .ref k => .ref (ad k)
  | v => v
theorem pz_cv_cat (ad : Nat → Nat) (v : Value) : (pz_cv ad v).category = v.category := by cases v <;> rfl
theorem pz_cv_sum (ad : Nat → Nat) (r : List Value) : (((r.map (pz_cv ad)).map fun v => v.category)).sum = (r.map Value.category).sum := by
  rw [List.map_map]
  congr 1
  exact List.map_congr_left fun v _ => pz_cv_cat ad v
def pz_fv (ad : Nat → Nat) (σ : pz_Sg) (k j : Nat) (o : Option Nat) : Value := match o with
  | some q => .ref (ad q)
  | none => .int (σ.1 k j)
def pz_ct (σ : pz_Sg) (k : Nat) (ty : FieldType) : (Nat → Int32) ⊕ (Nat → Int64) ⊕ (Nat → UInt32) ⊕ (Nat → UInt64) ⊕ (Nat → Option Nat) := match ty with
  | .long => .inr (.inl (σ.2 k))
  | _ => .inl (σ.1 k)
def pz_ce (cA : FieldType → ClassId) (ad : Nat → Nat) (σ : pz_Sg) (k : Nat) (e : pz_Ce) : va_E := match e with
  | .inl q => .inr (q.1, q.2.mapIdx (pz_fv ad σ k))
  | .inr q => .inl (cA q.1, q.2, pz_ct σ k q.1)
def pz_ws (cA : FieldType → ClassId) (ad : Nat → Nat) (σ : pz_Sg) : va_W := pz_sh.mapIdx fun k e => (ad k, pz_ce cA ad σ k e)
def pz_tys (cA : FieldType → ClassId) : List (ClassId × FieldType) := [(cA .int, .int), (cA .boolean, .boolean), (cA .long, .long)]
theorem pz_ws_at {cA : FieldType → ClassId} {ad : Nat → Nat} {σ : pz_Sg} {a : Nat} {e : pz_Ce} (h : pz_sh[a]? = some e) : (pz_ws cA ad σ)[a]? = some (ad a, pz_ce cA ad σ a e) := by
  unfold pz_ws
  rw [List.getElem?_mapIdx, h]
  rfl
theorem pz_ce_c {cA : FieldType → ClassId} {ad : Nat → Nat} {σ σ' : pz_Sg} {k : Nat} (h1 : σ'.1 k = σ.1 k) (h2 : σ'.2 k = σ.2 k) (e : pz_Ce) : pz_ce cA ad σ' k e = pz_ce cA ad σ k e := by
  have hf : pz_fv ad σ' k = pz_fv ad σ k := by
    funext j o
    cases o with
    | none => unfold pz_fv; rw [h1]
    | some q => rfl
  cases e with
  | inl q => unfold pz_ce; rw [hf]
  | inr q =>
    unfold pz_ce pz_ct
    rw [h1, h2]
theorem pz_sh_lt {a : Nat} {e : pz_Ce} (h : pz_sh[a]? = some e) : a < 103 := by
  have h1 : a < pz_sh.length := (List.getElem?_eq_some_iff.mp h).1
  have h2 : pz_sh.length = 103 := by decide +kernel
  omega
theorem pz_ws_set {cA : FieldType → ClassId} {ad : Nat → Nat} {σ σ' : pz_Sg} {a : Nat} {e : pz_Ce} (h : pz_sh[a]? = some e) (h1 : ∀ x, x ≠ a → σ'.1 x = σ.1 x ∧ σ'.2 x = σ.2 x) {c : va_E} (hc : c = pz_ce cA ad σ' a e) : (pz_ws cA ad σ).set a (ad a, c) = pz_ws cA ad σ' := by
  subst hc
  apply List.ext_getElem?
  intro k
  by_cases hk : k = a
  · subst hk
    rw [List.getElem?_set_self (by unfold pz_ws; rw [List.length_mapIdx]; exact (List.getElem?_eq_some_iff.mp h).1), pz_ws_at h]
  · rw [List.getElem?_set_ne (Ne.symm hk)]
    unfold pz_ws
    rw [List.getElem?_mapIdx, List.getElem?_mapIdx]
    cases pz_sh[k]? with
    | none => rfl
    | some e' =>
      simp only [Option.map_some]
      rw [pz_ce_c (h1 k hk).1 (h1 k hk).2]
theorem pz_up_ne {σ : pz_Sg} {a j : Nat} {v : Int32} : ∀ x, x ≠ a → (pz_up σ a j v).1 x = σ.1 x ∧ (pz_up σ a j v).2 x = σ.2 x := by
  intro x hx
  refine ⟨?_, rfl⟩
  funext y
  show (if x = a ∧ y = j then v else σ.1 x y) = σ.1 x y
  rw [if_neg (fun h => hx h.1)]
theorem pz_uq_ne {σ : pz_Sg} {a j : Nat} {v : Int64} : ∀ x, x ≠ a → (pz_uq σ a j v).1 x = σ.1 x ∧ (pz_uq σ a j v).2 x = σ.2 x := by
  intro x hx
  refine ⟨rfl, ?_⟩
  funext y
  show (if x = a ∧ y = j then v else σ.2 x y) = σ.2 x y
  rw [if_neg (fun h => hx h.1)]
theorem pz_uc_ne {σ : pz_Sg} {a d sp dp n : Nat} : ∀ x, x ≠ d → (pz_uc σ a d sp dp n).1 x = σ.1 x ∧ (pz_uc σ a d sp dp n).2 x = σ.2 x := by
  intro x hx
  refine ⟨?_, rfl⟩
  funext y
  show (if x = d then va_cpy (σ.1 a) (σ.1 d) sp dp n y else σ.1 x y) = σ.1 x y
  rw [if_neg hx]
theorem pz_up_eq {σ : pz_Sg} {a j : Nat} {v : Int32} : (pz_up σ a j v).1 a = upd (σ.1 a) j v := by
  funext y
  show (if a = a ∧ y = j then v else σ.1 a y) = if y = j then v else σ.1 a y
  simp
theorem pz_uq_eq {σ : pz_Sg} {a j : Nat} {v : Int64} : (pz_uq σ a j v).2 a = vp_updL (σ.2 a) j v := by
  funext y
  show (if a = a ∧ y = j then v else σ.2 a y) = if y = j then v else σ.2 a y
  simp
theorem pz_uc_eq {σ : pz_Sg} {a d sp dp n : Nat} : (pz_uc σ a d sp dp n).1 d = va_cpy (σ.1 a) (σ.1 d) sp dp n := by
  funext y
  show (if d = d then va_cpy (σ.1 a) (σ.1 d) sp dp n y else σ.1 d y) = _
  rw [if_pos rfl]
theorem pz_putf {cA : FieldType → ClassId} {ad : Nat → Nat} {σ : pz_Sg} {a k ci : Nat} {fs : List (Option Nat)} {x : Int32} (hk : fs[k]? = some none) : (.inr (ci, (fs.mapIdx (pz_fv ad σ a)).set k (.int x)) : va_E) = pz_ce cA ad (pz_up σ a k x) a (.inl (ci, fs)) := by
  show (.inr (ci, _) : va_E) = .inr (ci, fs.mapIdx (pz_fv ad (pz_up σ a k x) a))
  congr 2
  have hl : k < fs.length := (List.getElem?_eq_some_iff.mp hk).1
  apply List.ext_getElem?
  intro j
  by_cases hj : j = k
  · subst hj
    rw [List.getElem?_set_self (by rw [List.length_mapIdx]; exact hl), List.getElem?_mapIdx, hk]
    show some (Value.int x) = some (.int ((pz_up σ a j x).1 a j))
    rw [pz_up_eq]
    simp [upd]
  · rw [List.getElem?_set_ne (Ne.symm hj), List.getElem?_mapIdx, List.getElem?_mapIdx]
    cases fs[j]? with
    | none => rfl
    | some o =>
      cases o with
      | some q => rfl
      | none =>
        show some (Value.int (σ.1 a j)) = some (.int ((pz_up σ a k x).1 a j))
        rw [pz_up_eq]
        simp [upd, hj]
/-! the script -/
def pz_ti (L : Nat) (xs : Nat → Int32) (σ : pz_Sg) : Prop := σ.1 1001 0 = Int32.ofNat L ∧ ∀ j, j < L → σ.1 1000 j = xs j
theorem pz_ti_k {L : Nat} {xs : Nat → Int32} {σ σ' : pz_Sg} {a : Nat} (h : pz_ti L xs σ) (ha : a < 103) (h1 : ∀ x, x ≠ a → σ'.1 x = σ.1 x ∧ σ'.2 x = σ.2 x) : pz_ti L xs σ' :=
  ⟨by rw [(h1 1001 (by omega)).1]; exact h.1, fun j hj => by rw [(h1 1000 (by omega)).1]; exact h.2 j hj⟩
/-! locals -/
def pz_LH (ad : Nat → Nat) (ls : Array Slot) (nL : Nat) (lv : pz_Lv) : Prop := ls.size = nL ∧ lv_wf ls ∧ ∀ (i : Nat) (v : Value), lv[i]? = some (some v) → ls[i]? = some (.val (pz_cv ad v))
def pz_l0 (ad : Nat → Nat) (lv : pz_Lv) : List (Nat × Value) := (List.range lv.length).filterMap fun j => (lv[j]?).bind fun o => o.map fun w => (j, pz_cv ad w)
theorem pz_l0_in {ad : Nat → Nat} {lv : pz_Lv} {j : Nat} {w : Value} (h : lv[j]? = some (some w)) : (j, pz_cv ad w) ∈ pz_l0 ad lv :=
  List.mem_filterMap.mpr ⟨j, List.mem_range.mpr (List.getElem?_eq_some_iff.mp h).1, by rw [h]; rfl⟩
theorem pz_l0_of {ad : Nat → Nat} {lv : pz_Lv} {q : Nat × Value} (h : q ∈ pz_l0 ad lv) : ∃ w, lv[q.1]? = some (some w) ∧ q.2 = pz_cv ad w := by
  obtain ⟨j, -, hj⟩ := List.mem_filterMap.mp h
  cases he : lv[j]? with
  | none => rw [he] at hj; cases hj
  | some o =>
    rw [he] at hj
    cases o with
    | none => cases hj
    | some w =>
      cases hj
      exact ⟨w, he, rfl⟩
theorem pz_l0_has {ad : Nat → Nat} {ls : Array Slot} {nL : Nat} {lv : pz_Lv} (h : pz_LH ad ls nL lv) : lv_has ls nL (pz_l0 ad lv) :=
  ⟨h.1, h.2.1, fun q hq => by obtain ⟨w, h1, h2⟩ := pz_l0_of hq; rw [h2]; exact h.2.2 _ _ h1⟩
theorem pz_c1_of {o : Option Value} {w : Value} (h : pz_c1 o = some w) : o = some w ∧ ¬ w.category = 2 := by
  cases o with
  | none => cases h
  | some v => cases v <;> first | (cases h; done) | (cases h; exact ⟨rfl, by simp [Value.category]⟩)
theorem pz_s1_of : ∀ {lv : pz_Lv} {i : Nat} {v : Value} {j : Nat} {w : Value}, (pz_s1 lv i v)[j]? = some (some w) → (j = i ∧ w = v) ∨ (j ≠ i ∧ lv[j]? = some (some w) ∧ (j + 1 = i → ¬ w.category = 2))
  | [], _, _, _, _, h => by simp [pz_s1] at h
  | o :: r, 0, v, j, w, h => by
    cases j with
    | zero =>
      simp [pz_s1] at h
      exact Or.inl ⟨rfl, h.symm⟩
    | succ j =>
      simp [pz_s1] at h
      exact Or.inr ⟨by omega, by simpa using h, by omega⟩
  | o :: r, 1, v, j, w, h => by
    cases j with
    | zero =>
      simp [pz_s1] at h
      obtain ⟨h1, h2⟩ := pz_c1_of h
      exact Or.inr ⟨by omega, by simp [h1], fun _ => h2⟩
    | succ j =>
      simp only [pz_s1, List.getElem?_cons_succ] at h
      rcases pz_s1_of h with ⟨h1, h2⟩ | ⟨h1, h2, h3⟩
      · exact Or.inl ⟨by omega, h2⟩
      · exact Or.inr ⟨by omega, by simpa using h2, by omega⟩
  | o :: r, n + 2, v, j, w, h => by
    cases j with
    | zero =>
      simp [pz_s1] at h
      exact Or.inr ⟨by omega, by simp [h], by omega⟩
    | succ j =>
      simp only [pz_s1, List.getElem?_cons_succ] at h
      rcases pz_s1_of h with ⟨h1, h2⟩ | ⟨h1, h2, h3⟩
      · exact Or.inl ⟨by omega, h2⟩
      · exact Or.inr ⟨by omega, by simpa using h2, fun q => h3 (by omega)⟩
theorem pz_s2_of : ∀ {lv : pz_Lv} {i : Nat} {v : Value} {j : Nat} {w : Value}, (pz_s2 lv i v)[j]? = some (some w) → (j = i ∧ w = v) ∨ (j ≠ i ∧ j ≠ i + 1 ∧ lv[j]? = some (some w) ∧ (j + 1 = i → ¬ w.category = 2))
  | [], _, _, _, _, h => by simp [pz_s2] at h
  | [o], 0, v, j, w, h => by
    cases j with
    | zero =>
      simp [pz_s2] at h
      exact Or.inl ⟨rfl, h.symm⟩
    | succ j => simp [pz_s2] at h
  | o :: o2 :: r, 0, v, j, w, h => by
    match j, h with
    | 0, h =>
      simp [pz_s2] at h
      exact Or.inl ⟨rfl, h.symm⟩
    | 1, h => simp [pz_s2] at h
    | j + 2, h =>
      simp [pz_s2] at h
      exact Or.inr ⟨by omega, by omega, by simpa using h, by omega⟩
  | o :: r, 1, v, j, w, h => by
    cases j with
    | zero =>
      simp [pz_s2] at h
      obtain ⟨h1, h2⟩ := pz_c1_of h
      exact Or.inr ⟨by omega, by omega, by simp [h1], fun _ => h2⟩
    | succ j =>
      simp only [pz_s2, List.getElem?_cons_succ] at h
      rcases pz_s2_of h with ⟨h1, h2⟩ | ⟨h1, h2, h3, h4⟩
      · exact Or.inl ⟨by omega, h2⟩
      · exact Or.inr ⟨by omega, by omega, by simpa using h3, by omega⟩
  | o :: r, n + 2, v, j, w, h => by
    cases j with
    | zero =>
      simp [pz_s2] at h
      exact Or.inr ⟨by omega, by omega, by simp [h], by omega⟩
    | succ j =>
      simp only [pz_s2, List.getElem?_cons_succ] at h
      rcases pz_s2_of h with ⟨h1, h2⟩ | ⟨h1, h2, h3, h4⟩
      · exact Or.inl ⟨by omega, h2⟩
      · exact Or.inr ⟨by omega, by omega, by simpa using h3, fun q => h4 (by omega)⟩
theorem pz_LH1 {ad : Nat → Nat} {ls' : Array Slot} {nL : Nat} {lv : pz_Lv} {i : Nat} {v : Value} (h : lv_has ls' nL ((i, pz_cv ad v) :: (pz_l0 ad lv).filter (fun q => !(q.1 == i) && !(q.1 + 1 == i && q.2.category == 2)))) : pz_LH ad ls' nL (pz_s1 lv i v) := by
  refine ⟨h.1, h.2.1, fun j w hj => ?_⟩
  rcases pz_s1_of hj with ⟨rfl, rfl⟩ | ⟨h1, h2, h3⟩
  · exact h.2.2 _ List.mem_cons_self
  · refine h.2.2 (j, pz_cv ad w) (List.mem_cons_of_mem _ (List.mem_filter.mpr ⟨pz_l0_in h2, ?_⟩))
    simp only [pz_cv_cat]
    by_cases q : j + 1 = i
    · have := h3 q
      simp [h1, this]
    · simp [h1, q]
theorem pz_LH2 {ad : Nat → Nat} {ls' : Array Slot} {nL : Nat} {lv : pz_Lv} {i : Nat} {v : Value} (h : lv_has ls' nL ((i, pz_cv ad v) :: (pz_l0 ad lv).filter (fun q => !(q.1 == i) && (!(q.1 == i + 1) && !(q.1 + 1 == i && q.2.category == 2))))) : pz_LH ad ls' nL (pz_s2 lv i v) := by
  refine ⟨h.1, h.2.1, fun j w hj => ?_⟩
  rcases pz_s2_of hj with ⟨rfl, rfl⟩ | ⟨h1, h1', h2, h3⟩
  · exact h.2.2 _ List.mem_cons_self
  · refine h.2.2 (j, pz_cv ad w) (List.mem_cons_of_mem _ (List.mem_filter.mpr ⟨pz_l0_in h2, ?_⟩))
    simp only [pz_cv_cat]
    by_cases q : j + 1 = i
    · have := h3 q
      simp [h1, h1', this]
    · simp [h1, h1', q]
theorem pz_ea_len (ad : Nat → Nat) : ∀ vs : List Value, (pz_ea vs).length = (lg_sl (vs.map (pz_cv ad))).length
  | [] => rfl
  | v :: r => by
    have ih := pz_ea_len ad r
    cases v <;> simp [pz_ea, lg_sl, pz_cv, Value.category] at ih ⊢ <;> omega
theorem pz_ea_in (ad : Nat → Nat) : ∀ (vs : List Value) (k i : Nat) (v : Value), (pz_ea vs)[i]? = some (some v) → (k + i, pz_cv ad v) ∈ lv_args k (vs.map (pz_cv ad))
  | [], _, i, v, h => by simp [pz_ea] at h
  | x :: r, k, i, v, h => by
    have two : ∀ i', (pz_ea r)[i']? = some (some v) → x.category = 2 → (k + (i' + 2), pz_cv ad v) ∈ lv_args k ((x :: r).map (pz_cv ad)) := by
      intro i' h' hc
      have := pz_ea_in ad r (k + 2) i' v h'
      simp only [List.map_cons, lv_args, pz_cv_cat, hc, if_true]
      exact List.mem_cons_of_mem _ (by rw [show k + (i' + 2) = k + 2 + i' by omega]; exact this)
    have one : ∀ i', (pz_ea r)[i']? = some (some v) → ¬ x.category = 2 → (k + (i' + 1), pz_cv ad v) ∈ lv_args k ((x :: r).map (pz_cv ad)) := by
      intro i' h' hc
      have := pz_ea_in ad r (k + 1) i' v h'
      simp only [List.map_cons, lv_args, pz_cv_cat, hc, if_false]
      exact List.mem_cons_of_mem _ (by rw [show k + (i' + 1) = k + 1 + i' by omega]; exact this)
    have zero : x = v → (k + 0, pz_cv ad v) ∈ lv_args k ((x :: r).map (pz_cv ad)) := by
      intro e
      subst e
      simp [lv_args]
    cases x
    case long y =>
      match i, h with
      | 0, h => exact zero (by simpa [pz_ea] using h)
      | 1, h => simp [pz_ea] at h
      | i + 2, h => exact two i (by simpa [pz_ea] using h) rfl
    case double y =>
      match i, h with
      | 0, h => exact zero (by simpa [pz_ea] using h)
      | 1, h => simp [pz_ea] at h
      | i + 2, h => exact two i (by simpa [pz_ea] using h) rfl
    all_goals
      match i, h with
      | 0, h => exact zero (by simpa [pz_ea] using h)
      | i + 1, h => exact one i (by simpa [pz_ea] using h) (by simp [Value.category])
theorem pz_en_LH {ad : Nat → Nat} {n : Nat} {vs : List Value} (h : (pz_ea vs).length ≤ n) : pz_LH ad ((lg_sl (vs.map (pz_cv ad)) ++ List.replicate (n - (lg_sl (vs.map (pz_cv ad))).length) Slot.unset).toArray) n (pz_en n vs) := by
  have hl := lv_entry (vs.map (pz_cv ad)) (n := n) (by rw [← pz_ea_len]; exact h)
  refine ⟨hl.1, hl.2.1, fun i v hi => ?_⟩
  unfold pz_en at hi
  by_cases q : i < (pz_ea vs).length
  · rw [List.getElem?_append_left q] at hi
    have := hl.2.2 _ (pz_ea_in ad vs 0 i v hi)
    simpa using this
  · rw [List.getElem?_append_right (by omega), List.getElem?_replicate] at hi
    split at hi
    · cases hi
    · cases hi
