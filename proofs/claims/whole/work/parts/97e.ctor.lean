set_option maxHeartbeats 8000000 in
set_option maxRecDepth 100000 in
/-- PurityEffects.Foresight() -/
theorem ct_1 (l : Launch) (dC : Nat → ClassId) (dI : Nat → Nat → Nat) (cA : FieldType → ClassId) (h0 sz r1 : Nat) : Met l yX1_init (.code yX1_init cX1_init 2 none :: pz_tl) ({ frames := 1, cells := 7, slots := 360, locals := 12 }) (va_Pc [.ref h0, .ref r1] (fun U => U.heap.size = sz ∧ va_P (dC, dI) vwCl [(h0, .inr (1, [.null, .null, .null, .null, .null, .null, .null, .null, .int 0]))] U.heap ∧ va_K (dC, dI) vwCl (pz_tys cA) U ∧ va_D (fun _ => True) [(h0, .inr (1, [.null, .null, .null, .null, .null, .null, .null, .null, .int 0]))])) (va_Qv (fun _ : Unit => True) (fun _ t => ∃ (q1 q2 q3 q4 q5 q6 q7 : Nat), va_P (dC, dI) vwCl [(h0, .inr (1, [.ref r1, .ref q1, .ref q2, .ref q3, .ref q4, .ref q5, .ref q6, .ref q7, .int 0])), zl cA q1 240, zi cA q2 40, zi cA q3 40, zi cA q4 10, zi cA q5 10, zb cA q6 10, zb cA q7 10] t.heap ∧ va_D (va_A [(h0, .inr (1, [.null, .null, .null, .null, .null, .null, .null, .null, .int 0]))] sz) [(h0, .inr (1, [.ref r1, .ref q1, .ref q2, .ref q3, .ref q4, .ref q5, .ref q6, .ref q7, .int 0])), zl cA q1 240, zi cA q2 40, zi cA q3 40, zi cA q4 10, zi cA q5 10, zb cA q6 10, zb cA q7 10]) (va_A [(h0, .inr (1, [.null, .null, .null, .null, .null, .null, .null, .null, .int 0]))] sz)) 7 360 (va_A [(h0, .inr (1, [.null, .null, .null, .null, .null, .null, .null, .null, .int 0]))] sz) := by
  refine Met.ofW (cc := cX1_init) (maxL := 2) (ret := none) (by decide) rfl ?_
  intro p e s m args below meth c s₁ B hml hv
  obtain ⟨rfl, hsz, hP, hK, hD0⟩ := hv
  have hx := B.exec
  have hb := B.bytes
  have hr := B.returns
  have hts := atoms_spec (ws := .code yX1_init cX1_init 2 none :: pz_tl) B.pre
  have htl : ∀ w ∈ pz_tl, w.before _ s = true := fun w hw => hts w (List.mem_cons_of_mem _ hw)
  have hown : s.vm.findClass RX1 = some m.cls := findClass_of_methodNamed B.named
  have hlocks := B.notSynchronized
  have hin : meth.name = "<init>" := (name_of_methodNamed B.named B.method).1
  subst hsz
  have hD := hD0.self (sz := s.heap.size)
  generalize hAe : va_A [(h0, .inr (1, [.null, .null, .null, .null, .null, .null, .null, .null, .int 0]))] s.heap.size = A at hD ⊢
  have hA : ∀ q : Nat, s.heap.size ≤ q → A q := fun q h => by rw [← hAe]; exact Or.inr h
  have hS : va_S A s.heap s.heap [] := va_S.rf
  have hP : va_P (dC, dI) vwCl [(h0, .inr (1, [.null, .null, .null, .null, .null, .null, .null, .null, .int 0]))] s.heap := hP
  have hl := lv_entry ([.ref h0, .ref r1]) (n := 2) (Nat.le_of_ble_eq_true rfl)
  rw [lg_entry_eq]
  generalize (lg_sl ([.ref h0, .ref r1]) ++ List.replicate (2 - (lg_sl ([.ref h0, .ref r1])).length) Slot.unset).toArray = ls at hl ⊢
  have hl : lv_has ls 2 [(0, .ref h0), (1, .ref r1)] := hl
  refine lv_aload_n hx hb dX1_init_0 rfl (lv_at hl 0 rfl) ?_
  refine W.objInit hx hb hown (htl _ ct_w246) (htl _ ct_w108) (htl _ ct_w109) rfl (by rw [hml]; exact hl.1) rfl dX1_init_1 (Nat.le_of_ble_eq_true rfl) (Nat.le_of_ble_eq_true rfl) ?_
  refine W.eq (g2 := F0 m 4 ls []) rfl ?_
  refine lv_aload_n hx hb dX1_init_4 rfl (lv_at hl 0 rfl) ?_
  refine lv_sipush (v := 240) hx hb dX1_init_5 (by decide) ?_
  refine vc_newa (atype := .long) (ty := .long) (a0 := (240, .inr (.inl (fun _ => 0)))) (N' := 240) hx hb (htl _ ct_w282) rfl hK 2 rfl (fun _ h => h) hP hD hS hA (fun _ => rfl) (by decide) (by decide) (by decide) (Nat.le_of_ble_eq_true rfl) (Nat.le_of_ble_eq_true rfl) dX1_init_8 (fun q1 H hP hD hS => ?_)
  refine W.widen (k := 1) (n := 240) (by decide) (by decide) ?_
  have hP : va_P (dC, dI) vwCl [(h0, .inr (1, [.null, .null, .null, .null, .null, .null, .null, .null, .int 0])), zl cA q1 240] H := hP
  have hD : va_D A [(h0, .inr (1, [.null, .null, .null, .null, .null, .null, .null, .null, .int 0])), zl cA q1 240] := hD
  refine va_putF (D := (dC, dI)) (ci := 1) (v := .ref q1) (ty := .array .long) (C := RX1) (T := TX1) (N := 9) hx hb htl (pz_inU (a := 1) (by decide)) tyX1 tyX1_ok nmX1 hown hK hP hD hS 0 rfl rfl 1 (by decide) (htl _ ct_w248) (fun _ h9 => h9) rfl hin rfl (by decide +kernel) rfl rfl (Nat.le_of_ble_eq_true rfl) dX1_init_10 (fun H locs hP hD hS => ?_)
  have hP : va_P (dC, dI) vwCl [(h0, .inr (1, [.null, .ref q1, .null, .null, .null, .null, .null, .null, .int 0])), zl cA q1 240] H := hP
  have hD : va_D A [(h0, .inr (1, [.null, .ref q1, .null, .null, .null, .null, .null, .null, .int 0])), zl cA q1 240] := hD
  refine lv_aload_n hx hb dX1_init_13 rfl (lv_at hl 0 rfl) ?_
  refine lv_bipush (v := 40) hx hb dX1_init_14 (by decide) ?_
  refine vc_newa (atype := .int) (ty := .int) (a0 := (40, .inl (fun _ => 0))) (N' := 40) hx hb (htl _ ct_w200) rfl hK 0 rfl (fun _ h => h) hP hD hS hA (fun _ => rfl) (by decide) (by decide) (by decide) (Nat.le_of_ble_eq_true rfl) (Nat.le_of_ble_eq_true rfl) dX1_init_16 (fun q2 H hP hD hS => ?_)
  refine W.widen (k := 2) (n := 280) (by decide) (by decide) ?_
  have hP : va_P (dC, dI) vwCl [(h0, .inr (1, [.null, .ref q1, .null, .null, .null, .null, .null, .null, .int 0])), zl cA q1 240, zi cA q2 40] H := hP
  have hD : va_D A [(h0, .inr (1, [.null, .ref q1, .null, .null, .null, .null, .null, .null, .int 0])), zl cA q1 240, zi cA q2 40] := hD
  refine va_putF (D := (dC, dI)) (ci := 1) (v := .ref q2) (ty := .array .int) (C := RX1) (T := TX1) (N := 9) hx hb htl (pz_inU (a := 1) (by decide)) tyX1 tyX1_ok nmX1 hown hK hP hD hS 0 rfl rfl 2 (by decide) (htl _ ct_w250) (fun _ h9 => h9) rfl hin rfl (by decide +kernel) rfl rfl (Nat.le_of_ble_eq_true rfl) dX1_init_18 (fun H locs hP hD hS => ?_)
  have hP : va_P (dC, dI) vwCl [(h0, .inr (1, [.null, .ref q1, .ref q2, .null, .null, .null, .null, .null, .int 0])), zl cA q1 240, zi cA q2 40] H := hP
  have hD : va_D A [(h0, .inr (1, [.null, .ref q1, .ref q2, .null, .null, .null, .null, .null, .int 0])), zl cA q1 240, zi cA q2 40] := hD
  refine lv_aload_n hx hb dX1_init_21 rfl (lv_at hl 0 rfl) ?_
  refine lv_bipush (v := 40) hx hb dX1_init_22 (by decide) ?_
  refine vc_newa (atype := .int) (ty := .int) (a0 := (40, .inl (fun _ => 0))) (N' := 40) hx hb (htl _ ct_w200) rfl hK 0 rfl (fun _ h => h) hP hD hS hA (fun _ => rfl) (by decide) (by decide) (by decide) (Nat.le_of_ble_eq_true rfl) (Nat.le_of_ble_eq_true rfl) dX1_init_24 (fun q3 H hP hD hS => ?_)
  refine W.widen (k := 3) (n := 320) (by decide) (by decide) ?_
  have hP : va_P (dC, dI) vwCl [(h0, .inr (1, [.null, .ref q1, .ref q2, .null, .null, .null, .null, .null, .int 0])), zl cA q1 240, zi cA q2 40, zi cA q3 40] H := hP
  have hD : va_D A [(h0, .inr (1, [.null, .ref q1, .ref q2, .null, .null, .null, .null, .null, .int 0])), zl cA q1 240, zi cA q2 40, zi cA q3 40] := hD
  refine va_putF (D := (dC, dI)) (ci := 1) (v := .ref q3) (ty := .array .int) (C := RX1) (T := TX1) (N := 9) hx hb htl (pz_inU (a := 1) (by decide)) tyX1 tyX1_ok nmX1 hown hK hP hD hS 0 rfl rfl 3 (by decide) (htl _ ct_w253) (fun _ h9 => h9) rfl hin rfl (by decide +kernel) rfl rfl (Nat.le_of_ble_eq_true rfl) dX1_init_26 (fun H locs hP hD hS => ?_)
  have hP : va_P (dC, dI) vwCl [(h0, .inr (1, [.null, .ref q1, .ref q2, .ref q3, .null, .null, .null, .null, .int 0])), zl cA q1 240, zi cA q2 40, zi cA q3 40] H := hP
  have hD : va_D A [(h0, .inr (1, [.null, .ref q1, .ref q2, .ref q3, .null, .null, .null, .null, .int 0])), zl cA q1 240, zi cA q2 40, zi cA q3 40] := hD
  refine lv_aload_n hx hb dX1_init_29 rfl (lv_at hl 0 rfl) ?_
  refine lv_bipush (v := 10) hx hb dX1_init_30 (by decide) ?_
  refine vc_newa (atype := .int) (ty := .int) (a0 := (10, .inl (fun _ => 0))) (N' := 10) hx hb (htl _ ct_w200) rfl hK 0 rfl (fun _ h => h) hP hD hS hA (fun _ => rfl) (by decide) (by decide) (by decide) (Nat.le_of_ble_eq_true rfl) (Nat.le_of_ble_eq_true rfl) dX1_init_32 (fun q4 H hP hD hS => ?_)
  refine W.widen (k := 4) (n := 330) (by decide) (by decide) ?_
  have hP : va_P (dC, dI) vwCl [(h0, .inr (1, [.null, .ref q1, .ref q2, .ref q3, .null, .null, .null, .null, .int 0])), zl cA q1 240, zi cA q2 40, zi cA q3 40, zi cA q4 10] H := hP
  have hD : va_D A [(h0, .inr (1, [.null, .ref q1, .ref q2, .ref q3, .null, .null, .null, .null, .int 0])), zl cA q1 240, zi cA q2 40, zi cA q3 40, zi cA q4 10] := hD
  refine va_putF (D := (dC, dI)) (ci := 1) (v := .ref q4) (ty := .array .int) (C := RX1) (T := TX1) (N := 9) hx hb htl (pz_inU (a := 1) (by decide)) tyX1 tyX1_ok nmX1 hown hK hP hD hS 0 rfl rfl 4 (by decide) (htl _ ct_w256) (fun _ h9 => h9) rfl hin rfl (by decide +kernel) rfl rfl (Nat.le_of_ble_eq_true rfl) dX1_init_34 (fun H locs hP hD hS => ?_)
  have hP : va_P (dC, dI) vwCl [(h0, .inr (1, [.null, .ref q1, .ref q2, .ref q3, .ref q4, .null, .null, .null, .int 0])), zl cA q1 240, zi cA q2 40, zi cA q3 40, zi cA q4 10] H := hP
  have hD : va_D A [(h0, .inr (1, [.null, .ref q1, .ref q2, .ref q3, .ref q4, .null, .null, .null, .int 0])), zl cA q1 240, zi cA q2 40, zi cA q3 40, zi cA q4 10] := hD
  refine lv_aload_n hx hb dX1_init_37 rfl (lv_at hl 0 rfl) ?_
  refine lv_bipush (v := 10) hx hb dX1_init_38 (by decide) ?_
  refine vc_newa (atype := .int) (ty := .int) (a0 := (10, .inl (fun _ => 0))) (N' := 10) hx hb (htl _ ct_w200) rfl hK 0 rfl (fun _ h => h) hP hD hS hA (fun _ => rfl) (by decide) (by decide) (by decide) (Nat.le_of_ble_eq_true rfl) (Nat.le_of_ble_eq_true rfl) dX1_init_40 (fun q5 H hP hD hS => ?_)
  refine W.widen (k := 5) (n := 340) (by decide) (by decide) ?_
  have hP : va_P (dC, dI) vwCl [(h0, .inr (1, [.null, .ref q1, .ref q2, .ref q3, .ref q4, .null, .null, .null, .int 0])), zl cA q1 240, zi cA q2 40, zi cA q3 40, zi cA q4 10, zi cA q5 10] H := hP
  have hD : va_D A [(h0, .inr (1, [.null, .ref q1, .ref q2, .ref q3, .ref q4, .null, .null, .null, .int 0])), zl cA q1 240, zi cA q2 40, zi cA q3 40, zi cA q4 10, zi cA q5 10] := hD
  refine va_putF (D := (dC, dI)) (ci := 1) (v := .ref q5) (ty := .array .int) (C := RX1) (T := TX1) (N := 9) hx hb htl (pz_inU (a := 1) (by decide)) tyX1 tyX1_ok nmX1 hown hK hP hD hS 0 rfl rfl 5 (by decide) (htl _ ct_w258) (fun _ h9 => h9) rfl hin rfl (by decide +kernel) rfl rfl (Nat.le_of_ble_eq_true rfl) dX1_init_42 (fun H locs hP hD hS => ?_)
  have hP : va_P (dC, dI) vwCl [(h0, .inr (1, [.null, .ref q1, .ref q2, .ref q3, .ref q4, .ref q5, .null, .null, .int 0])), zl cA q1 240, zi cA q2 40, zi cA q3 40, zi cA q4 10, zi cA q5 10] H := hP
  have hD : va_D A [(h0, .inr (1, [.null, .ref q1, .ref q2, .ref q3, .ref q4, .ref q5, .null, .null, .int 0])), zl cA q1 240, zi cA q2 40, zi cA q3 40, zi cA q4 10, zi cA q5 10] := hD
  refine lv_aload_n hx hb dX1_init_45 rfl (lv_at hl 0 rfl) ?_
  refine lv_bipush (v := 10) hx hb dX1_init_46 (by decide) ?_
  refine vc_newa (atype := .boolean) (ty := .boolean) (a0 := (10, .inl (fun _ => 0))) (N' := 10) hx hb (htl _ ct_w201) rfl hK 1 rfl (fun _ h => h) hP hD hS hA (fun _ => rfl) (by decide) (by decide) (by decide) (Nat.le_of_ble_eq_true rfl) (Nat.le_of_ble_eq_true rfl) dX1_init_48 (fun q6 H hP hD hS => ?_)
  refine W.widen (k := 6) (n := 350) (by decide) (by decide) ?_
  have hP : va_P (dC, dI) vwCl [(h0, .inr (1, [.null, .ref q1, .ref q2, .ref q3, .ref q4, .ref q5, .null, .null, .int 0])), zl cA q1 240, zi cA q2 40, zi cA q3 40, zi cA q4 10, zi cA q5 10, zb cA q6 10] H := hP
  have hD : va_D A [(h0, .inr (1, [.null, .ref q1, .ref q2, .ref q3, .ref q4, .ref q5, .null, .null, .int 0])), zl cA q1 240, zi cA q2 40, zi cA q3 40, zi cA q4 10, zi cA q5 10, zb cA q6 10] := hD
  refine va_putF (D := (dC, dI)) (ci := 1) (v := .ref q6) (ty := .array .boolean) (C := RX1) (T := TX1) (N := 9) hx hb htl (pz_inU (a := 1) (by decide)) tyX1 tyX1_ok nmX1 hown hK hP hD hS 0 rfl rfl 6 (by decide) (htl _ ct_w259) (fun _ h9 => h9) rfl hin rfl (by decide +kernel) rfl rfl (Nat.le_of_ble_eq_true rfl) dX1_init_50 (fun H locs hP hD hS => ?_)
  have hP : va_P (dC, dI) vwCl [(h0, .inr (1, [.null, .ref q1, .ref q2, .ref q3, .ref q4, .ref q5, .ref q6, .null, .int 0])), zl cA q1 240, zi cA q2 40, zi cA q3 40, zi cA q4 10, zi cA q5 10, zb cA q6 10] H := hP
  have hD : va_D A [(h0, .inr (1, [.null, .ref q1, .ref q2, .ref q3, .ref q4, .ref q5, .ref q6, .null, .int 0])), zl cA q1 240, zi cA q2 40, zi cA q3 40, zi cA q4 10, zi cA q5 10, zb cA q6 10] := hD
  refine lv_aload_n hx hb dX1_init_53 rfl (lv_at hl 0 rfl) ?_
  refine lv_bipush (v := 10) hx hb dX1_init_54 (by decide) ?_
  refine vc_newa (atype := .boolean) (ty := .boolean) (a0 := (10, .inl (fun _ => 0))) (N' := 10) hx hb (htl _ ct_w201) rfl hK 1 rfl (fun _ h => h) hP hD hS hA (fun _ => rfl) (by decide) (by decide) (by decide) (Nat.le_of_ble_eq_true rfl) (Nat.le_of_ble_eq_true rfl) dX1_init_56 (fun q7 H hP hD hS => ?_)
  refine W.widen (k := 7) (n := 360) (by decide) (by decide) ?_
  have hP : va_P (dC, dI) vwCl [(h0, .inr (1, [.null, .ref q1, .ref q2, .ref q3, .ref q4, .ref q5, .ref q6, .null, .int 0])), zl cA q1 240, zi cA q2 40, zi cA q3 40, zi cA q4 10, zi cA q5 10, zb cA q6 10, zb cA q7 10] H := hP
  have hD : va_D A [(h0, .inr (1, [.null, .ref q1, .ref q2, .ref q3, .ref q4, .ref q5, .ref q6, .null, .int 0])), zl cA q1 240, zi cA q2 40, zi cA q3 40, zi cA q4 10, zi cA q5 10, zb cA q6 10, zb cA q7 10] := hD
  refine va_putF (D := (dC, dI)) (ci := 1) (v := .ref q7) (ty := .array .boolean) (C := RX1) (T := TX1) (N := 9) hx hb htl (pz_inU (a := 1) (by decide)) tyX1 tyX1_ok nmX1 hown hK hP hD hS 0 rfl rfl 7 (by decide) (htl _ ct_w261) (fun _ h9 => h9) rfl hin rfl (by decide +kernel) rfl rfl (Nat.le_of_ble_eq_true rfl) dX1_init_58 (fun H locs hP hD hS => ?_)
  have hP : va_P (dC, dI) vwCl [(h0, .inr (1, [.null, .ref q1, .ref q2, .ref q3, .ref q4, .ref q5, .ref q6, .ref q7, .int 0])), zl cA q1 240, zi cA q2 40, zi cA q3 40, zi cA q4 10, zi cA q5 10, zb cA q6 10, zb cA q7 10] H := hP
  have hD : va_D A [(h0, .inr (1, [.null, .ref q1, .ref q2, .ref q3, .ref q4, .ref q5, .ref q6, .ref q7, .int 0])), zl cA q1 240, zi cA q2 40, zi cA q3 40, zi cA q4 10, zi cA q5 10, zb cA q6 10, zb cA q7 10] := hD
  refine lv_aload_n hx hb dX1_init_61 rfl (lv_at hl 0 rfl) ?_
  refine lv_aload_n hx hb dX1_init_62 rfl (lv_at hl 1 rfl) ?_
  refine va_putF (D := (dC, dI)) (ci := 1) (v := .ref r1) (ty := .object "PurityEffects$Program") (C := RX1) (T := TX1) (N := 9) hx hb htl (pz_inU (a := 1) (by decide)) tyX1 tyX1_ok nmX1 hown hK hP hD hS 0 rfl rfl 0 (by decide) (htl _ ct_w247) (fun _ h9 => h9) rfl hin rfl (by decide +kernel) rfl rfl (Nat.le_of_ble_eq_true rfl) dX1_init_63 (fun H locs hP hD hS => ?_)
  have hP : va_P (dC, dI) vwCl [(h0, .inr (1, [.ref r1, .ref q1, .ref q2, .ref q3, .ref q4, .ref q5, .ref q6, .ref q7, .int 0])), zl cA q1 240, zi cA q2 40, zi cA q3 40, zi cA q4 10, zi cA q5 10, zb cA q6 10, zb cA q7 10] H := hP
  have hD : va_D A [(h0, .inr (1, [.ref r1, .ref q1, .ref q2, .ref q3, .ref q4, .ref q5, .ref q6, .ref q7, .int 0])), zl cA q1 240, zi cA q2 40, zi cA q3 40, zi cA q4 10, zi cA q5 10, zb cA q6 10, zb cA q7 10] := hD
  refine W.widen (k := 7) (n := 360) (by decide) (by decide) ?_
  exact W.vret hx hb hr (fun t ht hW => ⟨⟨(), rfl, trivial, q1, q2, q3, q4, q5, q6, q7, by rw [ht]; exact hP, hD⟩, hS.F ht⟩) hS.2.2 dX1_init_66
