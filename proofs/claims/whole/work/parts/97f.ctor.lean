set_option maxHeartbeats 8000000 in
set_option maxRecDepth 100000 in
/-- PurityEffects.Likeness() -/
theorem ct_2 (l : Launch) (dC : Nat → ClassId) (dI : Nat → Nat → Nat) (cA : FieldType → ClassId) (h0 sz r1 r2 r3 : Nat) : Met l yX2_init (.code yX2_init cX2_init 4 none :: pz_tl) ({ frames := 1, cells := 5, slots := 188, locals := 12 }) (va_Pc [.ref h0, .ref r1, .ref r2, .ref r3] (fun U => U.heap.size = sz ∧ va_P (dC, dI) vwCl [(h0, .inr (2, [.null, .null, .null, .null, .null, .null, .null, .null, .int 0, .int 0]))] U.heap ∧ va_K (dC, dI) vwCl (pz_tys cA) U ∧ va_D (fun _ => True) [(h0, .inr (2, [.null, .null, .null, .null, .null, .null, .null, .null, .int 0, .int 0]))])) (va_Qv (fun _ : Unit => True) (fun _ t => ∃ (q1 q2 q3 q4 q5 : Nat), va_P (dC, dI) vwCl [(h0, .inr (2, [.ref r1, .ref r2, .ref r3, .ref q1, .ref q2, .ref q3, .ref q4, .ref q5, .int 0, .int 0])), zi cA q1 4, zi cA q2 4, zi cA q3 60, zi cA q4 60, zi cA q5 60] t.heap ∧ va_D (va_A [(h0, .inr (2, [.null, .null, .null, .null, .null, .null, .null, .null, .int 0, .int 0]))] sz) [(h0, .inr (2, [.ref r1, .ref r2, .ref r3, .ref q1, .ref q2, .ref q3, .ref q4, .ref q5, .int 0, .int 0])), zi cA q1 4, zi cA q2 4, zi cA q3 60, zi cA q4 60, zi cA q5 60]) (va_A [(h0, .inr (2, [.null, .null, .null, .null, .null, .null, .null, .null, .int 0, .int 0]))] sz)) 5 188 (va_A [(h0, .inr (2, [.null, .null, .null, .null, .null, .null, .null, .null, .int 0, .int 0]))] sz) := by
  refine Met.ofW (cc := cX2_init) (maxL := 4) (ret := none) (by decide) rfl ?_
  intro p e s m args below meth c s₁ B hml hv
  obtain ⟨rfl, hsz, hP, hK, hD0⟩ := hv
  have hx := B.exec
  have hb := B.bytes
  have hr := B.returns
  have hts := atoms_spec (ws := .code yX2_init cX2_init 4 none :: pz_tl) B.pre
  have htl : ∀ w ∈ pz_tl, w.before _ s = true := fun w hw => hts w (List.mem_cons_of_mem _ hw)
  have hown : s.vm.findClass RX2 = some m.cls := findClass_of_methodNamed B.named
  have hlocks := B.notSynchronized
  have hin : meth.name = "<init>" := (name_of_methodNamed B.named B.method).1
  subst hsz
  have hD := hD0.self (sz := s.heap.size)
  generalize hAe : va_A [(h0, .inr (2, [.null, .null, .null, .null, .null, .null, .null, .null, .int 0, .int 0]))] s.heap.size = A at hD ⊢
  have hA : ∀ q : Nat, s.heap.size ≤ q → A q := fun q h => by rw [← hAe]; exact Or.inr h
  have hS : va_S A s.heap s.heap [] := va_S.rf
  have hP : va_P (dC, dI) vwCl [(h0, .inr (2, [.null, .null, .null, .null, .null, .null, .null, .null, .int 0, .int 0]))] s.heap := hP
  have hl := lv_entry ([.ref h0, .ref r1, .ref r2, .ref r3]) (n := 4) (Nat.le_of_ble_eq_true rfl)
  rw [lg_entry_eq]
  generalize (lg_sl ([.ref h0, .ref r1, .ref r2, .ref r3]) ++ List.replicate (4 - (lg_sl ([.ref h0, .ref r1, .ref r2, .ref r3])).length) Slot.unset).toArray = ls at hl ⊢
  have hl : lv_has ls 4 [(0, .ref h0), (1, .ref r1), (2, .ref r2), (3, .ref r3)] := hl
  refine lv_aload_n hx hb dX2_init_0 rfl (lv_at hl 0 rfl) ?_
  refine W.objInit hx hb hown (htl _ ct_w376) (htl _ ct_w108) (htl _ ct_w109) rfl (by rw [hml]; exact hl.1) rfl dX2_init_1 (Nat.le_of_ble_eq_true rfl) (Nat.le_of_ble_eq_true rfl) ?_
  refine W.eq (g2 := F0 m 4 ls []) rfl ?_
  refine lv_aload_n hx hb dX2_init_4 rfl (lv_at hl 0 rfl) ?_
  refine lv_iconst (v := 4) hx hb dX2_init_5 (by decide) ?_
  refine vc_newa (atype := .int) (ty := .int) (a0 := (4, .inl (fun _ => 0))) (N' := 4) hx hb (htl _ ct_w200) rfl hK 0 rfl (fun _ h => h) hP hD hS hA (fun _ => rfl) (by decide) (by decide) (by decide) (Nat.le_of_ble_eq_true rfl) (Nat.le_of_ble_eq_true rfl) dX2_init_6 (fun q1 H hP hD hS => ?_)
  refine W.widen (k := 1) (n := 4) (by decide) (by decide) ?_
  have hP : va_P (dC, dI) vwCl [(h0, .inr (2, [.null, .null, .null, .null, .null, .null, .null, .null, .int 0, .int 0])), zi cA q1 4] H := hP
  have hD : va_D A [(h0, .inr (2, [.null, .null, .null, .null, .null, .null, .null, .null, .int 0, .int 0])), zi cA q1 4] := hD
  refine va_putF (D := (dC, dI)) (ci := 2) (v := .ref q1) (ty := .array .int) (C := RX2) (T := TX2) (N := 10) hx hb htl (pz_inU (a := 2) (by decide)) tyX2 tyX2_ok nmX2 hown hK hP hD hS 0 rfl rfl 3 (by decide) (htl _ ct_w380) (fun _ h9 => h9) rfl hin rfl (by decide +kernel) rfl rfl (Nat.le_of_ble_eq_true rfl) dX2_init_8 (fun H locs hP hD hS => ?_)
  have hP : va_P (dC, dI) vwCl [(h0, .inr (2, [.null, .null, .null, .ref q1, .null, .null, .null, .null, .int 0, .int 0])), zi cA q1 4] H := hP
  have hD : va_D A [(h0, .inr (2, [.null, .null, .null, .ref q1, .null, .null, .null, .null, .int 0, .int 0])), zi cA q1 4] := hD
  refine lv_aload_n hx hb dX2_init_11 rfl (lv_at hl 0 rfl) ?_
  refine lv_iconst (v := 4) hx hb dX2_init_12 (by decide) ?_
  refine vc_newa (atype := .int) (ty := .int) (a0 := (4, .inl (fun _ => 0))) (N' := 4) hx hb (htl _ ct_w200) rfl hK 0 rfl (fun _ h => h) hP hD hS hA (fun _ => rfl) (by decide) (by decide) (by decide) (Nat.le_of_ble_eq_true rfl) (Nat.le_of_ble_eq_true rfl) dX2_init_13 (fun q2 H hP hD hS => ?_)
  refine W.widen (k := 2) (n := 8) (by decide) (by decide) ?_
  have hP : va_P (dC, dI) vwCl [(h0, .inr (2, [.null, .null, .null, .ref q1, .null, .null, .null, .null, .int 0, .int 0])), zi cA q1 4, zi cA q2 4] H := hP
  have hD : va_D A [(h0, .inr (2, [.null, .null, .null, .ref q1, .null, .null, .null, .null, .int 0, .int 0])), zi cA q1 4, zi cA q2 4] := hD
  refine va_putF (D := (dC, dI)) (ci := 2) (v := .ref q2) (ty := .array .int) (C := RX2) (T := TX2) (N := 10) hx hb htl (pz_inU (a := 2) (by decide)) tyX2 tyX2_ok nmX2 hown hK hP hD hS 0 rfl rfl 4 (by decide) (htl _ ct_w382) (fun _ h9 => h9) rfl hin rfl (by decide +kernel) rfl rfl (Nat.le_of_ble_eq_true rfl) dX2_init_15 (fun H locs hP hD hS => ?_)
  have hP : va_P (dC, dI) vwCl [(h0, .inr (2, [.null, .null, .null, .ref q1, .ref q2, .null, .null, .null, .int 0, .int 0])), zi cA q1 4, zi cA q2 4] H := hP
  have hD : va_D A [(h0, .inr (2, [.null, .null, .null, .ref q1, .ref q2, .null, .null, .null, .int 0, .int 0])), zi cA q1 4, zi cA q2 4] := hD
  refine lv_aload_n hx hb dX2_init_18 rfl (lv_at hl 0 rfl) ?_
  refine lv_bipush (v := 60) hx hb dX2_init_19 (by decide) ?_
  refine vc_newa (atype := .int) (ty := .int) (a0 := (60, .inl (fun _ => 0))) (N' := 60) hx hb (htl _ ct_w200) rfl hK 0 rfl (fun _ h => h) hP hD hS hA (fun _ => rfl) (by decide) (by decide) (by decide) (Nat.le_of_ble_eq_true rfl) (Nat.le_of_ble_eq_true rfl) dX2_init_21 (fun q3 H hP hD hS => ?_)
  refine W.widen (k := 3) (n := 68) (by decide) (by decide) ?_
  have hP : va_P (dC, dI) vwCl [(h0, .inr (2, [.null, .null, .null, .ref q1, .ref q2, .null, .null, .null, .int 0, .int 0])), zi cA q1 4, zi cA q2 4, zi cA q3 60] H := hP
  have hD : va_D A [(h0, .inr (2, [.null, .null, .null, .ref q1, .ref q2, .null, .null, .null, .int 0, .int 0])), zi cA q1 4, zi cA q2 4, zi cA q3 60] := hD
  refine va_putF (D := (dC, dI)) (ci := 2) (v := .ref q3) (ty := .array .int) (C := RX2) (T := TX2) (N := 10) hx hb htl (pz_inU (a := 2) (by decide)) tyX2 tyX2_ok nmX2 hown hK hP hD hS 0 rfl rfl 5 (by decide) (htl _ ct_w384) (fun _ h9 => h9) rfl hin rfl (by decide +kernel) rfl rfl (Nat.le_of_ble_eq_true rfl) dX2_init_23 (fun H locs hP hD hS => ?_)
  have hP : va_P (dC, dI) vwCl [(h0, .inr (2, [.null, .null, .null, .ref q1, .ref q2, .ref q3, .null, .null, .int 0, .int 0])), zi cA q1 4, zi cA q2 4, zi cA q3 60] H := hP
  have hD : va_D A [(h0, .inr (2, [.null, .null, .null, .ref q1, .ref q2, .ref q3, .null, .null, .int 0, .int 0])), zi cA q1 4, zi cA q2 4, zi cA q3 60] := hD
  refine lv_aload_n hx hb dX2_init_26 rfl (lv_at hl 0 rfl) ?_
  refine lv_bipush (v := 60) hx hb dX2_init_27 (by decide) ?_
  refine vc_newa (atype := .int) (ty := .int) (a0 := (60, .inl (fun _ => 0))) (N' := 60) hx hb (htl _ ct_w200) rfl hK 0 rfl (fun _ h => h) hP hD hS hA (fun _ => rfl) (by decide) (by decide) (by decide) (Nat.le_of_ble_eq_true rfl) (Nat.le_of_ble_eq_true rfl) dX2_init_29 (fun q4 H hP hD hS => ?_)
  refine W.widen (k := 4) (n := 128) (by decide) (by decide) ?_
  have hP : va_P (dC, dI) vwCl [(h0, .inr (2, [.null, .null, .null, .ref q1, .ref q2, .ref q3, .null, .null, .int 0, .int 0])), zi cA q1 4, zi cA q2 4, zi cA q3 60, zi cA q4 60] H := hP
  have hD : va_D A [(h0, .inr (2, [.null, .null, .null, .ref q1, .ref q2, .ref q3, .null, .null, .int 0, .int 0])), zi cA q1 4, zi cA q2 4, zi cA q3 60, zi cA q4 60] := hD
  refine va_putF (D := (dC, dI)) (ci := 2) (v := .ref q4) (ty := .array .int) (C := RX2) (T := TX2) (N := 10) hx hb htl (pz_inU (a := 2) (by decide)) tyX2 tyX2_ok nmX2 hown hK hP hD hS 0 rfl rfl 6 (by decide) (htl _ ct_w385) (fun _ h9 => h9) rfl hin rfl (by decide +kernel) rfl rfl (Nat.le_of_ble_eq_true rfl) dX2_init_31 (fun H locs hP hD hS => ?_)
  have hP : va_P (dC, dI) vwCl [(h0, .inr (2, [.null, .null, .null, .ref q1, .ref q2, .ref q3, .ref q4, .null, .int 0, .int 0])), zi cA q1 4, zi cA q2 4, zi cA q3 60, zi cA q4 60] H := hP
  have hD : va_D A [(h0, .inr (2, [.null, .null, .null, .ref q1, .ref q2, .ref q3, .ref q4, .null, .int 0, .int 0])), zi cA q1 4, zi cA q2 4, zi cA q3 60, zi cA q4 60] := hD
  refine lv_aload_n hx hb dX2_init_34 rfl (lv_at hl 0 rfl) ?_
  refine lv_bipush (v := 60) hx hb dX2_init_35 (by decide) ?_
  refine vc_newa (atype := .int) (ty := .int) (a0 := (60, .inl (fun _ => 0))) (N' := 60) hx hb (htl _ ct_w200) rfl hK 0 rfl (fun _ h => h) hP hD hS hA (fun _ => rfl) (by decide) (by decide) (by decide) (Nat.le_of_ble_eq_true rfl) (Nat.le_of_ble_eq_true rfl) dX2_init_37 (fun q5 H hP hD hS => ?_)
  refine W.widen (k := 5) (n := 188) (by decide) (by decide) ?_
  have hP : va_P (dC, dI) vwCl [(h0, .inr (2, [.null, .null, .null, .ref q1, .ref q2, .ref q3, .ref q4, .null, .int 0, .int 0])), zi cA q1 4, zi cA q2 4, zi cA q3 60, zi cA q4 60, zi cA q5 60] H := hP
  have hD : va_D A [(h0, .inr (2, [.null, .null, .null, .ref q1, .ref q2, .ref q3, .ref q4, .null, .int 0, .int 0])), zi cA q1 4, zi cA q2 4, zi cA q3 60, zi cA q4 60, zi cA q5 60] := hD
  refine va_putF (D := (dC, dI)) (ci := 2) (v := .ref q5) (ty := .array .int) (C := RX2) (T := TX2) (N := 10) hx hb htl (pz_inU (a := 2) (by decide)) tyX2 tyX2_ok nmX2 hown hK hP hD hS 0 rfl rfl 7 (by decide) (htl _ ct_w386) (fun _ h9 => h9) rfl hin rfl (by decide +kernel) rfl rfl (Nat.le_of_ble_eq_true rfl) dX2_init_39 (fun H locs hP hD hS => ?_)
  have hP : va_P (dC, dI) vwCl [(h0, .inr (2, [.null, .null, .null, .ref q1, .ref q2, .ref q3, .ref q4, .ref q5, .int 0, .int 0])), zi cA q1 4, zi cA q2 4, zi cA q3 60, zi cA q4 60, zi cA q5 60] H := hP
  have hD : va_D A [(h0, .inr (2, [.null, .null, .null, .ref q1, .ref q2, .ref q3, .ref q4, .ref q5, .int 0, .int 0])), zi cA q1 4, zi cA q2 4, zi cA q3 60, zi cA q4 60, zi cA q5 60] := hD
  refine lv_aload_n hx hb dX2_init_42 rfl (lv_at hl 0 rfl) ?_
  refine lv_aload_n hx hb dX2_init_43 rfl (lv_at hl 1 rfl) ?_
  refine va_putF (D := (dC, dI)) (ci := 2) (v := .ref r1) (ty := .object "PurityEffects$Program") (C := RX2) (T := TX2) (N := 10) hx hb htl (pz_inU (a := 2) (by decide)) tyX2 tyX2_ok nmX2 hown hK hP hD hS 0 rfl rfl 0 (by decide) (htl _ ct_w377) (fun _ h9 => h9) rfl hin rfl (by decide +kernel) rfl rfl (Nat.le_of_ble_eq_true rfl) dX2_init_44 (fun H locs hP hD hS => ?_)
  have hP : va_P (dC, dI) vwCl [(h0, .inr (2, [.ref r1, .null, .null, .ref q1, .ref q2, .ref q3, .ref q4, .ref q5, .int 0, .int 0])), zi cA q1 4, zi cA q2 4, zi cA q3 60, zi cA q4 60, zi cA q5 60] H := hP
  have hD : va_D A [(h0, .inr (2, [.ref r1, .null, .null, .ref q1, .ref q2, .ref q3, .ref q4, .ref q5, .int 0, .int 0])), zi cA q1 4, zi cA q2 4, zi cA q3 60, zi cA q4 60, zi cA q5 60] := hD
  refine lv_aload_n hx hb dX2_init_47 rfl (lv_at hl 0 rfl) ?_
  refine lv_aload_n hx hb dX2_init_48 rfl (lv_at hl 2 rfl) ?_
  refine va_putF (D := (dC, dI)) (ci := 2) (v := .ref r2) (ty := .object "PurityEffects$World") (C := RX2) (T := TX2) (N := 10) hx hb htl (pz_inU (a := 2) (by decide)) tyX2 tyX2_ok nmX2 hown hK hP hD hS 0 rfl rfl 1 (by decide) (htl _ ct_w378) (fun _ h9 => h9) rfl hin rfl (by decide +kernel) rfl rfl (Nat.le_of_ble_eq_true rfl) dX2_init_49 (fun H locs hP hD hS => ?_)
  have hP : va_P (dC, dI) vwCl [(h0, .inr (2, [.ref r1, .ref r2, .null, .ref q1, .ref q2, .ref q3, .ref q4, .ref q5, .int 0, .int 0])), zi cA q1 4, zi cA q2 4, zi cA q3 60, zi cA q4 60, zi cA q5 60] H := hP
  have hD : va_D A [(h0, .inr (2, [.ref r1, .ref r2, .null, .ref q1, .ref q2, .ref q3, .ref q4, .ref q5, .int 0, .int 0])), zi cA q1 4, zi cA q2 4, zi cA q3 60, zi cA q4 60, zi cA q5 60] := hD
  refine lv_aload_n hx hb dX2_init_52 rfl (lv_at hl 0 rfl) ?_
  refine lv_aload_n hx hb dX2_init_53 rfl (lv_at hl 3 rfl) ?_
  refine va_putF (D := (dC, dI)) (ci := 2) (v := .ref r3) (ty := .object "PurityEffects$World") (C := RX2) (T := TX2) (N := 10) hx hb htl (pz_inU (a := 2) (by decide)) tyX2 tyX2_ok nmX2 hown hK hP hD hS 0 rfl rfl 2 (by decide) (htl _ ct_w379) (fun _ h9 => h9) rfl hin rfl (by decide +kernel) rfl rfl (Nat.le_of_ble_eq_true rfl) dX2_init_54 (fun H locs hP hD hS => ?_)
  have hP : va_P (dC, dI) vwCl [(h0, .inr (2, [.ref r1, .ref r2, .ref r3, .ref q1, .ref q2, .ref q3, .ref q4, .ref q5, .int 0, .int 0])), zi cA q1 4, zi cA q2 4, zi cA q3 60, zi cA q4 60, zi cA q5 60] H := hP
  have hD : va_D A [(h0, .inr (2, [.ref r1, .ref r2, .ref r3, .ref q1, .ref q2, .ref q3, .ref q4, .ref q5, .int 0, .int 0])), zi cA q1 4, zi cA q2 4, zi cA q3 60, zi cA q4 60, zi cA q5 60] := hD
  refine W.widen (k := 5) (n := 188) (by decide) (by decide) ?_
  exact W.vret hx hb hr (fun t ht hW => ⟨⟨(), rfl, trivial, q1, q2, q3, q4, q5, by rw [ht]; exact hP, hD⟩, hS.F ht⟩) hS.2.2 dX2_init_57
