/-! ===== words of the law ===== -/
theorem ct_w103 : (.instantiable RX6 11 : Cond) ∈ pz_tl := pz_tl_at (i := 103) (by decide +kernel) rfl
theorem ct_w906 : (.instantiable RX7 71 : Cond) ∈ pz_tl := pz_tl_at (i := 906) (by decide +kernel) rfl
theorem ct_w102 : (.classLink R_law 7 RX6 : Cond) ∈ pz_tl := pz_tl_at (i := 102) (by decide +kernel) rfl
theorem ct_w92 : (.initialized RX6 : Cond) ∈ pz_tl := pz_tl_at (i := 92) (by decide +kernel) rfl
theorem ct_w104 : (.methodLink R_law 9 yX6_init : Cond) ∈ pz_tl := pz_tl_at (i := 104) (by decide +kernel) rfl
theorem ct_w105 : (.instanceMethod yX6_init : Cond) ∈ pz_tl := pz_tl_at (i := 105) (by decide +kernel) rfl
theorem ct_w905 : (.classLink R_law 10 RX7 : Cond) ∈ pz_tl := pz_tl_at (i := 905) (by decide +kernel) rfl
theorem ct_w99 : (.initialized RX7 : Cond) ∈ pz_tl := pz_tl_at (i := 99) (by decide +kernel) rfl
theorem ct_w907 : (.methodLink R_law 12 yX7_init : Cond) ∈ pz_tl := pz_tl_at (i := 907) (by decide +kernel) rfl
theorem ct_w908 : (.instanceMethod yX7_init : Cond) ∈ pz_tl := pz_tl_at (i := 908) (by decide +kernel) rfl
theorem st_iv (L : Nat) (xs : Nat → Int32) : iv L xs 0 (st_0 L xs) := by
  refine ⟨⟨rfl, fun j _ => rfl⟩, 0, 0, 0, 0, 0, ⟨⟨⟨rfl, rfl, by decide⟩, ⟨rfl, rfl, by decide⟩, ⟨rfl, rfl, by decide⟩, rfl, rfl, by decide⟩, fun t ht => absurd ht (Nat.not_lt_zero _), ⟨fun t ht => absurd ht (Nat.not_lt_zero _), fun t ht => absurd ht (Nat.not_lt_zero _)⟩, ⟨fun f _ => ⟨rfl, Or.inl rfl⟩, fun f _ _ => rfl, fun s _ => ⟨rfl, Or.inl rfl⟩⟩, ⟨fun t ht => absurd ht (Nat.not_lt_zero _), fun m _ _ => ⟨rfl, rfl⟩⟩, fun t ht => absurd ht (Nat.not_lt_zero _), fun t ht => absurd ht (Nat.not_lt_zero _)⟩, ⟨⟨rfl, rfl, by decide⟩, fun t ht => absurd ht (Nat.not_lt_zero _), fun j hj => absurd hj (by omega), fun s _ => rfl, fun t ht => absurd ht (Nat.not_lt_zero _), fun t ht => absurd ht (Nat.not_lt_zero _)⟩, ⟨0, by decide, rfl, rfl, fun k _ hk => absurd hk (Nat.not_lt_zero _)⟩, ?_, ⟨rfl, Or.inl rfl, fun h => absurd (show (0 : Int32) = 1 from h) (by decide)⟩, Or.inl ⟨rfl, fun k _ => rfl⟩, Or.inl ⟨rfl, rfl⟩, rfl⟩
  intro j hj
  match j, hj with
  | 0, _ => exact ⟨rfl, (by show (0 : Int32) = (-1) + 1; decide), Or.inl rfl⟩
  | 1, _ => exact ⟨rfl, (by show (0 : Int32) = (-1) + 1; decide), Or.inl rfl⟩
  | 2, _ => exact ⟨rfl, (by show (0 : Int32) = (-1) + 1; decide), Or.inl rfl⟩
  | 3, _ => exact ⟨rfl, (by show (0 : Int32) = (-1) + 1; decide), Or.inl rfl⟩
  | 4, _ => exact ⟨rfl, (by show (0 : Int32) = (-1) + 1; decide), Or.inl rfl⟩
  | 5, _ => exact ⟨rfl, (by show (0 : Int32) = (-1) + 1; decide), Or.inl rfl⟩
  | n + 6, h => exact absurd h (by omega)
theorem st_run {L : Nat} {xs : Nat → Int32} (hL : L ≤ 3072) : pz_WP 180 (18, [some (.ref 1000), some (.ref 0), some (.ref 55), some (.int 0)], []) (st_0 L xs) (fun v _ => v = some (.int 1)) :=
  law_loop (I := iv L xs) hL (fun _ _ h => h.1) (fun _ _ h => iv_up h) (op_type L xs) (op_field L xs) (op_shared L xs) (op_method L xs) (op_line L xs) (op_caught L xs) (op_thing L xs) (op_array L xs) (op_put L xs) (op_set L xs) (op_get L xs) (op_stat L xs) (op_kind L xs) (op_arg L xs) (op_analyse L xs) (op_effects L xs) (op_by L xs) (op_may L xs) (op_free L xs) (op_run L xs) (op_did L xs) (op_foreseen L xs) (op_both L xs) (op_printed L xs) (op_count L xs) (L + 1) 0 (by omega) (by omega) (st_0 L xs) (st_iv L xs)
/-- an array's class -/
theorem st_arr {args : Array Value} {s : State} {ty : FieldType} (h : (Cond.arrayClass ty).before args s = true) : ∃ cA : ClassId, ArrOfT s cA ty ∧ s.vm.findClass ("[" ++ ty.toString) = some cA := by
  obtain ⟨cA, kA, comp, h1, h2, h3⟩ := Cond.arrayClass_spec h
  exact ⟨cA, fun n z => ⟨fun k h => (by cases h), kA, h2, comp, h3⟩, h1⟩
/-- what is known of the classes -/
theorem st_known {args : Array Value} {s : State} (htl : ∀ w ∈ pz_tl, w.before args s = true) : ∃ (dC : Nat → ClassId) (dI : Nat → Nat → Nat) (cA : FieldType → ClassId), va_K (dC, dI) vwCl (pz_tys cA) s := by
  obtain ⟨c0, i0, k0⟩ := u_known (C := RX0) (T := TX0) (N := 8) (n := 8) htl (pz_inU (a := 0) (by decide)) (htl _ ct_w290)
  obtain ⟨c1, i1, k1⟩ := u_known (C := RX1) (T := TX1) (N := 9) (n := 9) htl (pz_inU (a := 1) (by decide)) (htl _ ct_w242)
  obtain ⟨c2, i2, k2⟩ := u_known (C := RX2) (T := TX2) (N := 10) (n := 10) htl (pz_inU (a := 2) (by decide)) (htl _ ct_w372)
  obtain ⟨c3, i3, k3⟩ := u_known (C := RX3) (T := TX3) (N := 13) (n := 13) htl (pz_inU (a := 3) (by decide)) (htl _ ct_w284)
  obtain ⟨c4, i4, k4⟩ := u_known (C := RX4) (T := TX4) (N := 18) (n := 18) htl (pz_inU (a := 4) (by decide)) (htl _ ct_w111)
  obtain ⟨c5, i5, k5⟩ := u_known (C := RX5) (T := TX5) (N := 6) (n := 6) htl (pz_inU (a := 5) (by decide)) (htl _ ct_w203)
  obtain ⟨c6, i6, k6⟩ := u_known (C := RX6) (T := TX6) (N := 11) (n := 11) htl (pz_inU (a := 6) (by decide)) (htl _ ct_w103)
  obtain ⟨c7, i7, k7⟩ := u_known (C := RX7) (T := TX7) (N := 71) (n := 71) htl (pz_inU (a := 7) (by decide)) (htl _ ct_w906)
  obtain ⟨cI, aI, nI'⟩ := st_arr (htl _ ct_w200)
  obtain ⟨cB, aB, nB⟩ := st_arr (htl _ ct_w201)
  obtain ⟨cL, aL, nL⟩ := st_arr (htl _ ct_w282)
  refine ⟨fun k => match k with | 0 => c0 | 1 => c1 | 2 => c2 | 3 => c3 | 4 => c4 | 5 => c5 | 6 => c6 | _ => c7, fun k => match k with | 0 => i0 | 1 => i1 | 2 => i2 | 3 => i3 | 4 => i4 | 5 => i5 | 6 => i6 | _ => i7, fun ty => match ty with | .int => cI | .boolean => cB | _ => cL, ?_, ?_⟩
  · intro k q hq
    match k, hq with
    | 0, hq => cases hq; exact k0
    | 1, hq => cases hq; exact k1
    | 2, hq => cases hq; exact k2
    | 3, hq => cases hq; exact k3
    | 4, hq => cases hq; exact k4
    | 5, hq => cases hq; exact k5
    | 6, hq => cases hq; exact k6
    | 7, hq => cases hq; exact k7
    | k + 8, hq => exact absurd hq (by simp [vwCl])
  · intro k q hq
    match k, hq with
    | 0, hq => cases hq; exact ⟨aI, nI'⟩
    | 1, hq => cases hq; exact ⟨aB, nB⟩
    | 2, hq => cases hq; exact ⟨aL, nL⟩
    | k + 3, hq => exact absurd hq (by simp [pz_tys])
theorem st_fl : ∀ j, j < 96 → (Cond.eq (.elem (.static "PurityEffects" "WANTED" "[I") (.int (Int32.ofNat j))) (.int (pz_wn j))) ∈ flatC (Jvm.Cond.and given_1 narrow_1) := by decide +kernel
/-- WANTED -/
theorem st_want {args : Array Value} {s : State} (hts : ∀ w ∈ lw_tbl, w.before args s = true) (hgv : (Jvm.Cond.and given_1 narrow_1).before args s = true) {A : Nat → Prop} (hA : ∀ a : Nat, a < s.heap.size → ¬ A a) : ∃ t : Nat, va_Z "PurityEffects" "WANTED" "[I" (.ref t) A s s.heap ∧ va_T .int t 96 (fun j => .int (pz_wn j)) A s s.heap := by
  have hs := flat_of_before _ hgv
  obtain ⟨t, e, hT⟩ := va_Tof (tm := .static "PurityEffects" "WANTED" "[I") (ty := .int) (N := 96) (f := fun j => .int (pz_wn j)) (A := A) (by decide) (hs _ (by decide +kernel)) (va_eqt (z := 96) (hs _ (by decide +kernel))) (fun j hj => va_eqt (hs _ (st_fl j hj))) hA
  exact ⟨t, va_Zof (hts _ (List.mem_of_getElem? (i := 512) (by decide +kernel))) (hts _ (List.mem_of_getElem? (i := 92) (by decide +kernel))) e hA, hT⟩
theorem dL_law_0 : decode code 0 = .ok (.new 7, 3) := by decide +kernel
theorem dL_law_3 : decode code 3 = .ok (.dup, 1) := by decide +kernel
theorem dL_law_4 : decode code 4 = .ok (.invokespecial 9, 3) := by decide +kernel
theorem dL_law_7 : decode code 7 = .ok (.astore_n 1, 1) := by decide +kernel
theorem dL_law_8 : decode code 8 = .ok (.new 10, 3) := by decide +kernel
theorem dL_law_11 : decode code 11 = .ok (.dup, 1) := by decide +kernel
theorem dL_law_12 : decode code 12 = .ok (.invokespecial 12, 3) := by decide +kernel
theorem dL_law_15 : decode code 15 = .ok (.astore_n 2, 1) := by decide +kernel
theorem dL_law_16 : decode code 16 = .ok (.iconst 0, 1) := by decide +kernel
theorem dL_law_17 : decode code 17 = .ok (.istore_n 3, 1) := by decide +kernel
/-- from the loop's head on -/
theorem st_go {p : Program} {l : Launch} {e : Env} {s : State} {m : MethodId} {below : List Frame} {meth : Method} {c : Code} {b L t : Nat} {xs : Nat → Int32} {dC : Nat → ClassId} {dI : Nat → Nat → Nat} {cA : FieldType → ClassId} {H : Heap} {locs : List Loc} {ls : Array Slot} (ad : Nat → Nat) (hL : L ≤ 3072) (C0 : lw_At p s m meth c b L xs) (hK : va_K (dC, dI) vwCl (pz_tys cA) s) (e0 : ad 1000 = b) (e2 : ad 1002 = t)
    (hZ : va_Z "PurityEffects" "WANTED" "[I" (.ref t) (fun q => s.heap.size ≤ q) s s.heap) (hT : va_T .int t 96 (fun j => .int (pz_wn j)) (fun q => s.heap.size ≤ q) s s.heap) (hN : va_Nw pz_nw s) (hP : va_P (dC, dI) vwCl (ct_W cA ad) H) (hD : va_D (fun q => s.heap.size ≤ q) (ct_W cA ad)) (hS : va_S (fun q => s.heap.size ≤ q) s.heap H locs) (hl : lv_has ls 4 [(3, .int 0), (2, .ref (ad 55)), (1, .ref (ad 0)), (0, .ref b)]) : W p l e room_1 s m #[Value.ref b] below meth c H locs 103 13865 (lw_Z below #[Value.ref b] s) (F0 m 18 ls []) := by
  obtain ⟨hx, hb, hr, hml, hown, hts, hX, hbl, hlocks, hgv⟩ := C0
  have sh : ∀ i, i < 103 → ∃ e, pz_sh[i]? = some e := fun i hi => by
    have h2 : pz_sh.length = 103 := by decide +kernel
    exact ⟨_, List.getElem?_eq_getElem (by omega)⟩
  have at' : ∀ i, i < 103 → ∃ x, (ct_W cA ad)[i]? = some (ad i, x) := fun i hi => by
    obtain ⟨e, he⟩ := sh i hi
    exact ⟨_, ct_ws L xs cA ad i e he⟩
  have hbig : ∀ i, i < 103 → s.heap.size ≤ ad i := fun i hi => by
    obtain ⟨x, hx⟩ := at' i hi
    exact hD.2 i _ hx
  have hinj : ∀ i j, i < 103 → j < 103 → ad i = ad j → i = j := fun i j hi hj h => by
    obtain ⟨x, hx⟩ := at' i hi
    obtain ⟨y, hy⟩ := at' j hj
    exact hD.1 i j _ _ hx hy h
  have hAi : ∀ q, pz_A ad s.heap.size q → s.heap.size ≤ q := fun q h => h.elim (fun ⟨i, hi, e⟩ => e ▸ hbig i hi) id
  have hPw : va_P (dC, dI) vwCl (pz_ws cA ad (st_0 L xs)) H := by
    intro k q hq
    unfold pz_ws at hq
    rw [List.getElem?_mapIdx] at hq
    cases he : pz_sh[k]? with
    | none => rw [he] at hq; cases hq
    | some e =>
      rw [he] at hq
      cases hq
      exact hP k _ (ct_ws L xs cA ad k e he)
  have hSw : va_S (pz_A ad s.heap.size) s.heap H locs := ⟨hS.1, fun q h1 h2 => hS.2.1 q h1 (fun z => h2 (Or.inr z)), fun q hq => Or.inr (hS.2.2 q hq)⟩
  have hCx : pz_Cx dC dI cA ad L xs 180 p room_1 s m #[Value.ref b] meth c 103 13865 :=
    ⟨hx, hb, hml, hown, fun w hw => hts w (List.mem_filter.mp hw).1, rfl, rfl, Nat.le_refl _, Nat.le_refl _, hK, hinj, by rw [e0]; exact hbl, fun i hi h => by have := hbig i hi; rw [← h, e0] at this; omega, by rw [e0]; exact hX, by rw [e2]; exact hZ.narrow hAi, by rw [e2]; exact hT.narrow hAi, hN, hL⟩
  have hLH : pz_LH ad ls 4 [some (.ref 1000), some (.ref 0), some (.ref 55), some (.int 0)] := by
    refine ⟨hl.1, hl.2.1, fun i v hv => ?_⟩
    match i, hv with
    | 0, hv => cases hv; exact (lv_at hl 3 rfl).trans (by show some (Slot.val (.ref b)) = some (Slot.val (.ref (ad 1000))); rw [e0])
    | 1, hv => cases hv; exact lv_at hl 2 rfl
    | 2, hv => cases hv; exact lv_at hl 1 rfl
    | 3, hv => cases hv; exact lv_at hl 0 rfl
    | n + 4, hv => exact absurd hv (by simp)
  refine pz_sound (l := l) (st_run hL) p e room_1 s m #[Value.ref b] below meth c H locs 103 13865 _ ls hCx (st_iv L xs).1 hLH hPw hSw ?_
  intro v σ' H' locs' ls' pc hv _ _ hS' hra
  subst hv
  refine va_forget (fun q hq => hAi _ (hS'.2.2 q hq)) ?_
  exact lw_ret hx hb hr hlocks hra.1
