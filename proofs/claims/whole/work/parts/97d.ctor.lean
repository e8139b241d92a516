set_option maxHeartbeats 8000000 in
set_option maxRecDepth 100000 in
/-- PurityEffects.World() -/
theorem ct_5 (l : Launch) (dC : Nat → ClassId) (dI : Nat → Nat → Nat) (cA : FieldType → ClassId) (h0 sz : Nat) : Met l yX5_init (.code yX5_init cX5_init 1 none :: pz_tl) ({ frames := 1, cells := 4, slots := 1228, locals := 12 }) (va_Pc [.ref h0] (fun U => U.heap.size = sz ∧ va_P (dC, dI) vwCl [(h0, .inr (5, [.int 0, .int 0, .null, .null, .null, .null]))] U.heap ∧ va_K (dC, dI) vwCl (pz_tys cA) U ∧ va_D (fun _ => True) [(h0, .inr (5, [.int 0, .int 0, .null, .null, .null, .null]))])) (va_Qv (fun _ : Unit => True) (fun _ t => ∃ (q1 q2 q3 q4 : Nat), va_P (dC, dI) vwCl [(h0, .inr (5, [.int 0, .int 0, .ref q1, .ref q2, .ref q3, .ref q4])), zi cA q1 60, zi cA q2 960, zi cA q3 8, zi cA q4 200] t.heap ∧ va_D (va_A [(h0, .inr (5, [.int 0, .int 0, .null, .null, .null, .null]))] sz) [(h0, .inr (5, [.int 0, .int 0, .ref q1, .ref q2, .ref q3, .ref q4])), zi cA q1 60, zi cA q2 960, zi cA q3 8, zi cA q4 200]) (va_A [(h0, .inr (5, [.int 0, .int 0, .null, .null, .null, .null]))] sz)) 4 1228 (va_A [(h0, .inr (5, [.int 0, .int 0, .null, .null, .null, .null]))] sz) := by
  refine Met.ofW (cc := cX5_init) (maxL := 1) (ret := none) (by decide) rfl ?_
  intro p e s m args below meth c s₁ B hml hv
  obtain ⟨rfl, hsz, hP, hK, hD0⟩ := hv
  have hx := B.exec
  have hb := B.bytes
  have hr := B.returns
  have hts := atoms_spec (ws := .code yX5_init cX5_init 1 none :: pz_tl) B.pre
  have htl : ∀ w ∈ pz_tl, w.before _ s = true := fun w hw => hts w (List.mem_cons_of_mem _ hw)
  have hown : s.vm.findClass RX5 = some m.cls := findClass_of_methodNamed B.named
  have hlocks := B.notSynchronized
  have hin : meth.name = "<init>" := (name_of_methodNamed B.named B.method).1
  subst hsz
  have hD := hD0.self (sz := s.heap.size)
  generalize hAe : va_A [(h0, .inr (5, [.int 0, .int 0, .null, .null, .null, .null]))] s.heap.size = A at hD ⊢
  have hA : ∀ q : Nat, s.heap.size ≤ q → A q := fun q h => by rw [← hAe]; exact Or.inr h
  have hS : va_S A s.heap s.heap [] := va_S.rf
  have hP : va_P (dC, dI) vwCl [(h0, .inr (5, [.int 0, .int 0, .null, .null, .null, .null]))] s.heap := hP
  have hl := lv_entry ([.ref h0]) (n := 1) (Nat.le_of_ble_eq_true rfl)
  rw [lg_entry_eq]
  generalize (lg_sl ([.ref h0]) ++ List.replicate (1 - (lg_sl ([.ref h0])).length) Slot.unset).toArray = ls at hl ⊢
  have hl : lv_has ls 1 [(0, .ref h0)] := hl
  refine lv_aload_n hx hb dX5_init_0 rfl (lv_at hl 0 rfl) ?_
  refine W.objInit hx hb hown (htl _ ct_w207) (htl _ ct_w108) (htl _ ct_w109) rfl (by rw [hml]; exact hl.1) rfl dX5_init_1 (Nat.le_of_ble_eq_true rfl) (Nat.le_of_ble_eq_true rfl) ?_
  refine W.eq (g2 := F0 m 4 ls []) rfl ?_
  refine lv_aload_n hx hb dX5_init_4 rfl (lv_at hl 0 rfl) ?_
  refine lv_bipush (v := 60) hx hb dX5_init_5 (by decide) ?_
  refine vc_newa (atype := .int) (ty := .int) (a0 := (60, .inl (fun _ => 0))) (N' := 60) hx hb (htl _ ct_w200) rfl hK 0 rfl (fun _ h => h) hP hD hS hA (fun _ => rfl) (by decide) (by decide) (by decide) (Nat.le_of_ble_eq_true rfl) (Nat.le_of_ble_eq_true rfl) dX5_init_7 (fun q1 H hP hD hS => ?_)
  refine W.widen (k := 1) (n := 60) (by decide) (by decide) ?_
  have hP : va_P (dC, dI) vwCl [(h0, .inr (5, [.int 0, .int 0, .null, .null, .null, .null])), zi cA q1 60] H := hP
  have hD : va_D A [(h0, .inr (5, [.int 0, .int 0, .null, .null, .null, .null])), zi cA q1 60] := hD
  refine va_putF (D := (dC, dI)) (ci := 5) (v := .ref q1) (ty := .array .int) (C := RX5) (T := TX5) (N := 6) hx hb htl (pz_inU (a := 5) (by decide)) tyX5 tyX5_ok nmX5 hown hK hP hD hS 0 rfl rfl 2 (by decide) (htl _ ct_w214) (fun _ h9 => h9) rfl hin rfl (by decide +kernel) rfl rfl (Nat.le_of_ble_eq_true rfl) dX5_init_9 (fun H locs hP hD hS => ?_)
  have hP : va_P (dC, dI) vwCl [(h0, .inr (5, [.int 0, .int 0, .ref q1, .null, .null, .null])), zi cA q1 60] H := hP
  have hD : va_D A [(h0, .inr (5, [.int 0, .int 0, .ref q1, .null, .null, .null])), zi cA q1 60] := hD
  refine lv_aload_n hx hb dX5_init_12 rfl (lv_at hl 0 rfl) ?_
  refine lv_sipush (v := 960) hx hb dX5_init_13 (by decide) ?_
  refine vc_newa (atype := .int) (ty := .int) (a0 := (960, .inl (fun _ => 0))) (N' := 960) hx hb (htl _ ct_w200) rfl hK 0 rfl (fun _ h => h) hP hD hS hA (fun _ => rfl) (by decide) (by decide) (by decide) (Nat.le_of_ble_eq_true rfl) (Nat.le_of_ble_eq_true rfl) dX5_init_16 (fun q2 H hP hD hS => ?_)
  refine W.widen (k := 2) (n := 1020) (by decide) (by decide) ?_
  have hP : va_P (dC, dI) vwCl [(h0, .inr (5, [.int 0, .int 0, .ref q1, .null, .null, .null])), zi cA q1 60, zi cA q2 960] H := hP
  have hD : va_D A [(h0, .inr (5, [.int 0, .int 0, .ref q1, .null, .null, .null])), zi cA q1 60, zi cA q2 960] := hD
  refine va_putF (D := (dC, dI)) (ci := 5) (v := .ref q2) (ty := .array .int) (C := RX5) (T := TX5) (N := 6) hx hb htl (pz_inU (a := 5) (by decide)) tyX5 tyX5_ok nmX5 hown hK hP hD hS 0 rfl rfl 3 (by decide) (htl _ ct_w217) (fun _ h9 => h9) rfl hin rfl (by decide +kernel) rfl rfl (Nat.le_of_ble_eq_true rfl) dX5_init_18 (fun H locs hP hD hS => ?_)
  have hP : va_P (dC, dI) vwCl [(h0, .inr (5, [.int 0, .int 0, .ref q1, .ref q2, .null, .null])), zi cA q1 60, zi cA q2 960] H := hP
  have hD : va_D A [(h0, .inr (5, [.int 0, .int 0, .ref q1, .ref q2, .null, .null])), zi cA q1 60, zi cA q2 960] := hD
  refine lv_aload_n hx hb dX5_init_21 rfl (lv_at hl 0 rfl) ?_
  refine lv_bipush (v := 8) hx hb dX5_init_22 (by decide) ?_
  refine vc_newa (atype := .int) (ty := .int) (a0 := (8, .inl (fun _ => 0))) (N' := 8) hx hb (htl _ ct_w200) rfl hK 0 rfl (fun _ h => h) hP hD hS hA (fun _ => rfl) (by decide) (by decide) (by decide) (Nat.le_of_ble_eq_true rfl) (Nat.le_of_ble_eq_true rfl) dX5_init_24 (fun q3 H hP hD hS => ?_)
  refine W.widen (k := 3) (n := 1028) (by decide) (by decide) ?_
  have hP : va_P (dC, dI) vwCl [(h0, .inr (5, [.int 0, .int 0, .ref q1, .ref q2, .null, .null])), zi cA q1 60, zi cA q2 960, zi cA q3 8] H := hP
  have hD : va_D A [(h0, .inr (5, [.int 0, .int 0, .ref q1, .ref q2, .null, .null])), zi cA q1 60, zi cA q2 960, zi cA q3 8] := hD
  refine va_putF (D := (dC, dI)) (ci := 5) (v := .ref q3) (ty := .array .int) (C := RX5) (T := TX5) (N := 6) hx hb htl (pz_inU (a := 5) (by decide)) tyX5 tyX5_ok nmX5 hown hK hP hD hS 0 rfl rfl 4 (by decide) (htl _ ct_w221) (fun _ h9 => h9) rfl hin rfl (by decide +kernel) rfl rfl (Nat.le_of_ble_eq_true rfl) dX5_init_26 (fun H locs hP hD hS => ?_)
  have hP : va_P (dC, dI) vwCl [(h0, .inr (5, [.int 0, .int 0, .ref q1, .ref q2, .ref q3, .null])), zi cA q1 60, zi cA q2 960, zi cA q3 8] H := hP
  have hD : va_D A [(h0, .inr (5, [.int 0, .int 0, .ref q1, .ref q2, .ref q3, .null])), zi cA q1 60, zi cA q2 960, zi cA q3 8] := hD
  refine lv_aload_n hx hb dX5_init_29 rfl (lv_at hl 0 rfl) ?_
  refine lv_sipush (v := 200) hx hb dX5_init_30 (by decide) ?_
  refine vc_newa (atype := .int) (ty := .int) (a0 := (200, .inl (fun _ => 0))) (N' := 200) hx hb (htl _ ct_w200) rfl hK 0 rfl (fun _ h => h) hP hD hS hA (fun _ => rfl) (by decide) (by decide) (by decide) (Nat.le_of_ble_eq_true rfl) (Nat.le_of_ble_eq_true rfl) dX5_init_33 (fun q4 H hP hD hS => ?_)
  refine W.widen (k := 4) (n := 1228) (by decide) (by decide) ?_
  have hP : va_P (dC, dI) vwCl [(h0, .inr (5, [.int 0, .int 0, .ref q1, .ref q2, .ref q3, .null])), zi cA q1 60, zi cA q2 960, zi cA q3 8, zi cA q4 200] H := hP
  have hD : va_D A [(h0, .inr (5, [.int 0, .int 0, .ref q1, .ref q2, .ref q3, .null])), zi cA q1 60, zi cA q2 960, zi cA q3 8, zi cA q4 200] := hD
  refine va_putF (D := (dC, dI)) (ci := 5) (v := .ref q4) (ty := .array .int) (C := RX5) (T := TX5) (N := 6) hx hb htl (pz_inU (a := 5) (by decide)) tyX5 tyX5_ok nmX5 hown hK hP hD hS 0 rfl rfl 5 (by decide) (htl _ ct_w225) (fun _ h9 => h9) rfl hin rfl (by decide +kernel) rfl rfl (Nat.le_of_ble_eq_true rfl) dX5_init_35 (fun H locs hP hD hS => ?_)
  have hP : va_P (dC, dI) vwCl [(h0, .inr (5, [.int 0, .int 0, .ref q1, .ref q2, .ref q3, .ref q4])), zi cA q1 60, zi cA q2 960, zi cA q3 8, zi cA q4 200] H := hP
  have hD : va_D A [(h0, .inr (5, [.int 0, .int 0, .ref q1, .ref q2, .ref q3, .ref q4])), zi cA q1 60, zi cA q2 960, zi cA q3 8, zi cA q4 200] := hD
  refine W.widen (k := 4) (n := 1228) (by decide) (by decide) ?_
  exact W.vret hx hb hr (fun t ht hW => ⟨⟨(), rfl, trivial, q1, q2, q3, q4, by rw [ht]; exact hP, hD⟩, hS.F ht⟩) hS.2.2 dX5_init_38
