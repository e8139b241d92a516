/-! ===== growth in the locals and in the end; several steps at once; calls ===== -/
def pz_le (lv lv' : pz_Lv) : Prop := lv.length = lv'.length ∧ ∀ (i : Nat) (v : Value), lv[i]? = some (some v) → lv'[i]? = some (some v)
theorem pz_le_rf (lv : pz_Lv) : pz_le lv lv := ⟨rfl, fun _ _ h => h⟩
theorem pz_s1_len : ∀ (lv : pz_Lv) (i : Nat) (v : Value), (pz_s1 lv i v).length = lv.length
  | [], _, _ => rfl
  | _ :: _, 0, _ => rfl
  | _ :: r, 1, v => congrArg (· + 1) (pz_s1_len r 0 v)
  | _ :: r, n + 2, v => congrArg (· + 1) (pz_s1_len r (n + 1) v)
theorem pz_s2_len : ∀ (lv : pz_Lv) (i : Nat) (v : Value), (pz_s2 lv i v).length = lv.length
  | [], _, _ => rfl
  | [_], 0, _ => rfl
  | _ :: _ :: _, 0, _ => rfl
  | _ :: r, 1, v => by
    rw [show pz_s2 (_ :: r) 1 v = pz_c1 _ :: pz_s2 r 0 v by cases r <;> rfl]
    exact congrArg (· + 1) (pz_s2_len r 0 v)
  | _ :: r, n + 2, v => by
    rw [show ∀ o, pz_s2 (o :: r) (n + 2) v = o :: pz_s2 r (n + 1) v from fun o => by cases r <;> rfl]
    exact congrArg (· + 1) (pz_s2_len r (n + 1) v)
theorem pz_c1_to {o o' : Option Value} {w : Value} (h : pz_c1 o = some w) (g : ∀ v, o = some v → o' = some v) : pz_c1 o' = some w := by
  obtain ⟨h1, h2⟩ := pz_c1_of h
  rw [g w h1]
  cases w <;> first | rfl | exact absurd rfl h2
theorem pz_s1_get : ∀ (lv : pz_Lv) (i : Nat) (v : Value) (j : Nat), (pz_s1 lv i v)[j]? = if j = i then (lv[j]?).map (fun _ => some v) else if j + 1 = i then (lv[j]?).map pz_c1 else lv[j]?
  | [], _, _, j => by simp [pz_s1]
  | o :: r, 0, v, j => by cases j <;> simp [pz_s1]
  | o :: r, 1, v, j => by
    cases j with
    | zero => simp [pz_s1]
    | succ j =>
      have := pz_s1_get r 0 v j
      simp only [pz_s1, List.getElem?_cons_succ, this]
      by_cases q : j = 0 <;> simp [q]
  | o :: r, n + 2, v, j => by
    cases j with
    | zero => simp [pz_s1]
    | succ j =>
      have := pz_s1_get r (n + 1) v j
      simp only [pz_s1, List.getElem?_cons_succ, this]
      by_cases q : j = n + 1
      · simp [q]
      · by_cases q2 : j + 1 = n + 1
        · have : j = n := by omega
          simp [this]
        · rw [if_neg q, if_neg q2, if_neg (by omega), if_neg (by omega)]
theorem pz_s2_get : ∀ (lv : pz_Lv) (i : Nat) (v : Value) (j : Nat), (pz_s2 lv i v)[j]? = if j = i then (lv[j]?).map (fun _ => some v) else if j = i + 1 then (lv[j]?).map (fun _ => none) else if j + 1 = i then (lv[j]?).map pz_c1 else lv[j]?
  | [], _, _, j => by simp [pz_s2]
  | [o], 0, v, j => by
    cases j with
    | zero => simp [pz_s2]
    | succ j => cases j <;> simp [pz_s2]
  | o :: o2 :: r, 0, v, j => by
    match j with
    | 0 => simp [pz_s2]
    | 1 => simp [pz_s2]
    | j + 2 => simp [pz_s2]
  | o :: r, 1, v, j => by
    rw [show pz_s2 (o :: r) 1 v = pz_c1 o :: pz_s2 r 0 v by cases r <;> rfl]
    cases j with
    | zero => simp
    | succ j =>
      have := pz_s2_get r 0 v j
      simp only [List.getElem?_cons_succ, this]
      by_cases q : j = 0
      · simp [q]
      · by_cases q2 : j = 1
        · simp [q2]
        · rw [if_neg q, if_neg (by omega), if_neg (by omega), if_neg (by omega), if_neg (by omega), if_neg (by omega)]
  | o :: r, n + 2, v, j => by
    rw [show pz_s2 (o :: r) (n + 2) v = o :: pz_s2 r (n + 1) v by cases r <;> rfl]
    cases j with
    | zero => simp
    | succ j =>
      have := pz_s2_get r (n + 1) v j
      simp only [List.getElem?_cons_succ, this]
      by_cases q : j = n + 1
      · simp [q]
      · by_cases q2 : j = n + 2
        · simp [q2]
        · by_cases q3 : j = n
          · subst q3
            rw [if_neg (by omega), if_neg (by omega), if_pos rfl, if_neg (by omega), if_neg (by omega), if_pos (by omega)]
          · rw [if_neg q, if_neg (by omega), if_neg (by omega), if_neg (by omega), if_neg (by omega), if_neg (by omega)]
theorem pz_mapn {α β : Type} {o : Option α} {b : β} {w : β} (h : o.map (fun _ => b) = some w) : b = w ∧ ∃ x, o = some x := by
  cases o with
  | none => cases h
  | some x => exact ⟨Option.some.inj h, x, rfl⟩
theorem pz_le_at {lv lv' : pz_Lv} (h : pz_le lv lv') {j : Nat} {o : Option Value} (e : lv[j]? = some o) : ∃ o', lv'[j]? = some o' ∧ ∀ v, o = some v → o' = some v := by
  have hj : j < lv'.length := by rw [← h.1]; exact (List.getElem?_eq_some_iff.mp e).1
  refine ⟨lv'[j], List.getElem?_eq_getElem hj, fun v hv => ?_⟩
  have := h.2 j v (by rw [e, hv])
  rw [List.getElem?_eq_getElem hj] at this
  exact Option.some.inj this
theorem pz_le_s1 {lv lv' : pz_Lv} (h : pz_le lv lv') (i : Nat) (v : Value) : pz_le (pz_s1 lv i v) (pz_s1 lv' i v) := by
  refine ⟨by rw [pz_s1_len, pz_s1_len]; exact h.1, fun j w hj => ?_⟩
  rw [pz_s1_get] at hj ⊢
  split at hj
  · rename_i q
    rw [if_pos q]
    obtain ⟨h1, x, hx⟩ := pz_mapn hj
    obtain ⟨o', e, -⟩ := pz_le_at h hx
    rw [e, h1]
    rfl
  · rename_i q
    rw [if_neg q]
    split at hj
    · rename_i q2
      rw [if_pos q2]
      cases hx : lv[j]? with
      | none => rw [hx] at hj; cases hj
      | some o =>
        rw [hx] at hj
        obtain ⟨o', e, g⟩ := pz_le_at h hx
        rw [e]
        exact congrArg some (pz_c1_to (Option.some.inj hj) g)
    · rename_i q2
      rw [if_neg q2]
      exact h.2 j w hj
theorem pz_le_s2 {lv lv' : pz_Lv} (h : pz_le lv lv') (i : Nat) (v : Value) : pz_le (pz_s2 lv i v) (pz_s2 lv' i v) := by
  refine ⟨by rw [pz_s2_len, pz_s2_len]; exact h.1, fun j w hj => ?_⟩
  rw [pz_s2_get] at hj ⊢
  split at hj
  · rename_i q
    rw [if_pos q]
    obtain ⟨h1, x, hx⟩ := pz_mapn hj
    obtain ⟨o', e, -⟩ := pz_le_at h hx
    rw [e, h1]
    rfl
  · rename_i q
    rw [if_neg q]
    split at hj
    · obtain ⟨h1, -⟩ := pz_mapn hj
      cases h1
    · rename_i q1
      rw [if_neg q1]
      split at hj
      · rename_i q2
        rw [if_pos q2]
        cases hx : lv[j]? with
        | none => rw [hx] at hj; cases hj
        | some o =>
          rw [hx] at hj
          obtain ⟨o', e, g⟩ := pz_le_at h hx
          rw [e]
          exact congrArg some (pz_c1_to (Option.some.inj hj) g)
      · rename_i q2
        rw [if_neg q2]
        exact h.2 j w hj
theorem pz_li_g {lv lv' : pz_Lv} (hle : pz_le lv lv') {i : Nat} {K K' : Int32 → Prop} (g : ∀ x, K x → K' x) (h : pz_li lv i K) : pz_li lv' i K' := by
  obtain ⟨x, e, h⟩ := pz_li_of h
  unfold pz_li
  rw [hle.2 _ _ e]
  exact g x h
theorem pz_ll_g {lv lv' : pz_Lv} (hle : pz_le lv lv') {i : Nat} {K K' : Int64 → Prop} (g : ∀ x, K x → K' x) (h : pz_ll lv i K) : pz_ll lv' i K' := by
  obtain ⟨x, e, h⟩ := pz_ll_of h
  unfold pz_ll
  rw [hle.2 _ _ e]
  exact g x h
theorem pz_la_g {lv lv' : pz_Lv} (hle : pz_le lv lv') {i : Nat} {K K' : Nat → Prop} (g : ∀ x, K x → K' x) (h : pz_la lv i K) : pz_la lv' i K' := by
  obtain ⟨x, e, h⟩ := pz_la_of h
  unfold pz_la
  rw [hle.2 _ _ e]
  exact g x h
set_option maxHeartbeats 4000000 in
theorem pz_ex_g {C P C' P' : pz_Pd} {mid : Nat} {Post Post' : pz_Ps} (gC : ∀ m f σ Q, C m f σ Q → C' m f σ Q) (gP : ∀ pc lv lv' st σ, pz_le lv lv' → P mid (pc, lv, st) σ Post → P' mid (pc, lv', st) σ Post') (gQ : ∀ v σ, Post v σ → Post' v σ) {pc : Nat} {lv lv' : pz_Lv} (hle : pz_le lv lv') {st : List Value} {σ : pz_Sg} {ins : Instr} {nx a1 a2 : Nat} (h : pz_ex C P mid pc lv st σ Post ins nx a1 a2) : pz_ex C' P' mid pc lv' st σ Post' ins nx a1 a2 := by
  have G : ∀ {pc : Nat} {st : List Value} {σ : pz_Sg}, P mid (pc, lv, st) σ Post → P' mid (pc, lv', st) σ Post' := fun h => gP _ _ _ _ _ hle h
  cases ins
  case getfield i =>
    refine pz_pa_m (fun a r h => pz_ob_m (fun fs h => ?_) h) h
    split at h
    · exact G h
    · exact G h
    · exact h.elim
  case putfield i =>
    refine pz_pi_m (fun x r h => pz_pa_m (fun a r h => pz_ob_m (fun fs h => ?_) h) h) h
    split at h
    · split at h
      · exact G h
      · exact ⟨h.1, G h.2⟩
      · exact h.elim
    · exact h.elim
  case invokevirtual i => exact pz_pp_m (fun As r h => pz_pa_m (fun b r h => pz_ob_m (fun fs h => pz_rs_m (pz_ft_m fun ⟨Q, h1, h2⟩ => ⟨Q, gC _ _ _ _ h1, pz_rt_m (fun _ _ => G) h2⟩) h) h) h) h
  case invokestatic i =>
    refine pz_bf_m ?_ (pz_bf_m ?_ ?_) h
    · exact fun h => pz_pi_m (fun y r h => pz_pi_m (fun x r h => pz_rs_m G h) h) h
    · exact fun h => pz_pi_m (fun n r h => pz_pi_m (fun dp r h => pz_pa_m (fun d r h => pz_pi_m (fun sp r h => pz_pa_m (fun a r h => pz_ar_m (fun n0 h => pz_ar_m (fun n1 h => pz_rs_m (fun ⟨h1, h2, h3, h4, h5, h6⟩ => ⟨h1, h2, h3, h4, h5, G h6⟩) h) h) h) h) h) h) h) h
    · exact fun h => pz_pp_m (fun As r h => pz_rs_m (pz_ft_m fun ⟨Q, h1, h2⟩ => ⟨Q, gC _ _ _ _ h1, pz_rt_m (fun _ _ => G) h2⟩) h) h
  case tableswitch d lo hi offs => exact pz_pi_m (fun x r h => ⟨fun z => G (h.1 z), pz_tb_m (fun t => G) h.2⟩) h
  case lookupswitch d ps => exact pz_pi_m (fun x r h => pz_lk_m (fun t => G) h) h
  case iaload => exact pz_pi_m (fun i r h => pz_pa_m (fun a r h => pz_bf_m (fun h => ⟨h.1, G h.2⟩) (pz_bf_m (fun h => ⟨h.1, G h.2⟩) (pz_ar_m (fun n h => ⟨h.1, G h.2⟩))) h) h) h
  case baload => exact pz_pi_m (fun i r h => pz_pa_m (fun a r h => pz_ar_m (fun n h => ⟨h.1, G h.2⟩) h) h) h
  case laload => exact pz_pi_m (fun i r h => pz_pa_m (fun a r h => pz_ar_m (fun n h => ⟨h.1, G h.2⟩) h) h) h
  case iastore => exact pz_pi_m (fun x r h => pz_pi_m (fun i r h => pz_pa_m (fun a r h => pz_ar_m (fun n h => ⟨h.1, G h.2⟩) h) h) h) h
  case bastore => exact pz_pi_m (fun x r h => pz_pi_m (fun i r h => pz_pa_m (fun a r h => pz_ar_m (fun n h => ⟨h.1, h.2.1, G h.2.2⟩) h) h) h) h
  case lastore => exact pz_pl_m (fun x r h => pz_pi_m (fun i r h => pz_pa_m (fun a r h => pz_ar_m (fun n h => ⟨h.1, G h.2⟩) h) h) h) h
  case arraylength => exact pz_pa_m (fun a r h => pz_bf_m G id h) h
  case idiv => exact pz_pi_m (fun y r h => pz_pi_m (fun x r h => ⟨h.1, G h.2⟩) h) h
  case irem => exact pz_pi_m (fun y r h => pz_pi_m (fun x r h => ⟨h.1, G h.2⟩) h) h
  case ifCond c o => exact pz_pi_m (fun x r h => pz_cd_m G G h) h
  case if_icmp c o => exact pz_pi_m (fun y r h => pz_pi_m (fun x r h => pz_cd_m G G h) h) h
  case iload i => exact pz_li_g hle (fun _ => G) h
  case iload_n i => exact pz_li_g hle (fun _ => G) h
  case lload i => exact pz_ll_g hle (fun _ => G) h
  case lload_n i => exact pz_ll_g hle (fun _ => G) h
  case aload i => exact pz_la_g hle (fun _ => G) h
  case aload_n i => exact pz_la_g hle (fun _ => G) h
  case istore i => exact pz_pi_m (fun x r h => gP _ _ _ _ _ (pz_le_s1 hle _ _) h) h
  case istore_n i => exact pz_pi_m (fun x r h => gP _ _ _ _ _ (pz_le_s1 hle _ _) h) h
  case lstore i => exact pz_pl_m (fun x r h => gP _ _ _ _ _ (pz_le_s2 hle _ _) h) h
  case lstore_n i => exact pz_pl_m (fun x r h => gP _ _ _ _ _ (pz_le_s2 hle _ _) h) h
  case astore i => exact pz_pa_m (fun x r h => gP _ _ _ _ _ (pz_le_s1 hle _ _) h) h
  case astore_n i => exact pz_pa_m (fun x r h => gP _ _ _ _ _ (pz_le_s1 hle _ _) h) h
  case iinc i n => exact pz_li_g hle (fun _ h => gP _ _ _ _ _ (pz_le_s1 hle _ _) h) h
  case ireturn =>
    refine pz_pi_m (fun x r h => ⟨h.1, ?_⟩) h
    have h2 := h.2
    split at h2
    · exact gQ _ _ h2
    · exact ⟨h2.1, gQ _ _ h2.2⟩
    · exact h2.elim
  case lreturn =>
    refine pz_pl_m (fun x r h => ⟨h.1, ?_⟩) h
    have h2 := h.2
    split at h2
    · exact gQ _ _ h2
    · exact h2.elim
  case return_ =>
    refine ⟨h.1, ?_⟩
    have h2 := h.2
    split at h2
    · exact gQ _ _ h2
    · exact h2.elim
  all_goals first
    | exact h
    | exact G h
    | exact pz_pi_m (fun _ _ => G) h
    | exact pz_pl_m (fun _ _ => G) h
    | exact pz_pa_m (fun _ _ => G) h
    | exact pz_p1_m (fun _ _ => G) h
    | exact pz_pi_m (fun _ _ h => pz_pi_m (fun _ _ => G) h) h
    | exact pz_pl_m (fun _ _ h => pz_pl_m (fun _ _ => G) h) h
    | exact pz_pi_m (fun _ _ h => pz_pl_m (fun _ _ => G) h) h
    | exact pz_p1_m (fun _ _ h => pz_p1_m (fun _ _ => G) h) h
    | exact pz_p1_m (fun _ _ h => pz_p1_m (fun _ _ h => pz_p1_m (fun _ _ => G) h) h) h
/-- fewer known locals, a narrower end -/
theorem pz_WP_g {mid : Nat} {f : pz_Fr} {σ : pz_Sg} {Post : pz_Ps} (h : pz_WP mid f σ Post) : ∀ (lv' : pz_Lv) (Post' : pz_Ps), pz_le f.2.1 lv' → (∀ v σ', Post v σ' → Post' v σ') → pz_WP mid (f.1, lv', f.2.2) σ Post' := by
  refine h (fun mid f σ Post => ∀ (lv' : pz_Lv) (Post' : pz_Ps), pz_le f.2.1 lv' → (∀ v σ', Post v σ' → Post' v σ') → pz_WP mid (f.1, lv', f.2.2) σ Post') ?_
  intro mid f σ Post h lv' Post' hle hq
  refine pz_in ?_
  unfold pz_stp at h ⊢
  dsimp only at h ⊢
  split at h
  · exact h.elim
  · exact pz_ex_g (fun m f σ Q z => z f.2.1 Q (pz_le_rf _) (fun _ _ z => z)) (fun pc lv lv' st σ hl z => z lv' Post' hl hq) hq hle h
theorem pz_conseq {mid : Nat} {f : pz_Fr} {σ : pz_Sg} {Post Post' : pz_Ps} (h : pz_WP mid f σ Post) (hq : ∀ v σ', Post v σ' → Post' v σ') : pz_WP mid f σ Post' := pz_WP_g h f.2.1 Post' (pz_le_rf _) hq
def pz_fg : List Bool → pz_Lv → pz_Lv
  | b :: bs, o :: os => (bif b then o else none) :: pz_fg bs os
  | _, os => os
theorem pz_fg_le : ∀ (bs : List Bool) (lv : pz_Lv), pz_le (pz_fg bs lv) lv
  | [], lv => by cases lv <;> exact pz_le_rf _
  | b :: bs, [] => pz_le_rf _
  | b :: bs, o :: os => by
    obtain ⟨h1, h2⟩ := pz_fg_le bs os
    refine ⟨by simp [pz_fg, h1], fun i v hi => ?_⟩
    cases i with
    | zero =>
      cases b
      · simp [pz_fg] at hi
      · simpa [pz_fg] using hi
    | succ i =>
      simp only [pz_fg, List.getElem?_cons_succ] at hi ⊢
      exact h2 i v hi
def pz_lu : List (Nat × List Bool) → Nat → Option (List Bool)
  | [], _ => none
  | q :: r, pc => bif q.1 == pc then some q.2 else pz_lu r pc
/-- several steps at once, up to the pcs of 'stops', where only the marked locals are kept -/
def pz_Wm (stops : List (Nat × List Bool)) : Nat → pz_Pd
  | 0 => pz_WP
  | k + 1 => fun mid f σ Post => match pz_lu stops f.1 with
    | some bs => pz_WP mid (f.1, pz_fg bs f.2.1, f.2.2) σ Post
    | none => pz_stp pz_WP (pz_Wm stops k) mid f σ Post
theorem pz_Wm_in {stops : List (Nat × List Bool)} : ∀ {k mid : Nat} {f : pz_Fr} {σ : pz_Sg} {Post : pz_Ps}, pz_Wm stops k mid f σ Post → pz_WP mid f σ Post
  | 0, _, _, _, _, h => h
  | k + 1, mid, f, σ, Post, h => by
    unfold pz_Wm at h
    split at h
    · exact pz_WP_g h f.2.1 Post (pz_fg_le _ _) (fun _ _ z => z)
    · exact pz_in (pz_stp_m (fun _ _ _ _ z => z) (fun _ _ _ _ z => pz_Wm_in z) h)
theorem pz_go (stops : List (Nat × List Bool)) (k : Nat) {mid : Nat} {f : pz_Fr} {σ : pz_Sg} {Post : pz_Ps} (h : pz_stp pz_WP (pz_Wm stops k) mid f σ Post) : pz_WP mid f σ Post :=
  pz_in (pz_stp_m (fun _ _ _ _ z => z) (fun _ _ _ _ z => pz_Wm_in z) h)
/-- an end that is known: the answer, the state -/
def pz_is (r : Option Value) (s : pz_Sg) : pz_Ps := fun v σ => v = r ∧ σ = s
theorem pz_ki {t : Nat} {f : pz_Fr} {σ s : pz_Sg} {r : Int32} {K : Int32 → pz_Sg → Prop} (h : pz_WP t f σ (pz_is (some (.int r)) s)) (k : K r s) : ∃ Q : pz_Ps, pz_WP t f σ Q ∧ ∀ x σ', Q (some (.int x)) σ' → K x σ' :=
  ⟨_, h, fun x σ' hq => by obtain ⟨h1, rfl⟩ := hq; cases h1; exact k⟩
theorem pz_kl {t : Nat} {f : pz_Fr} {σ s : pz_Sg} {r : Int64} {K : Int64 → pz_Sg → Prop} (h : pz_WP t f σ (pz_is (some (.long r)) s)) (k : K r s) : ∃ Q : pz_Ps, pz_WP t f σ Q ∧ ∀ x σ', Q (some (.long x)) σ' → K x σ' :=
  ⟨_, h, fun x σ' hq => by obtain ⟨h1, rfl⟩ := hq; cases h1; exact k⟩
theorem pz_kv {t : Nat} {f : pz_Fr} {σ s : pz_Sg} {K : pz_Sg → Prop} (h : pz_WP t f σ (pz_is none s)) (k : K s) : ∃ Q : pz_Ps, pz_WP t f σ Q ∧ ∀ σ', Q none σ' → K σ' :=
  ⟨_, h, fun σ' hq => by obtain ⟨-, rfl⟩ := hq; exact k⟩
