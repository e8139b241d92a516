/-! ===== every step ===== -/
theorem pz_nfw : nativeFrameWords "java/lang/System" "arraycopy" 5 = 7 := by decide +kernel
set_option maxHeartbeats 16000000 in
theorem pz_close (l : Launch) (dC : Nat → ClassId) (dI : Nat → Nat → Nat) (cA : FieldType → ClassId) (ad : Nat → Nat) (L : Nat) (xs : Nat → Int32) (mid : Nat) (f : pz_Fr) (σ : pz_Sg) (Post : pz_Ps) (h : pz_stp (pz_SP l dC dI cA ad L xs) (pz_SP l dC dI cA ad L xs) mid f σ Post) : pz_SP l dC dI cA ad L xs mid f σ Post := by
  intro p e R s m args below meth c H locs cells slots Qz ls hC hti hl hP hS hret
  obtain ⟨pc, lv, st⟩ := f
  unfold pz_stp at h
  split at h
  · exact h.elim
  rename_i i hi
  obtain ⟨pc0, ins, len, a1, a2, pos⟩ := i
  obtain ⟨hmem, hpc⟩ := pz_fd_of hi
  dsimp only at hpc
  subst hpc
  have hck := List.all_eq_true.mp (pz_ok mid) _ hmem
  unfold pz_c1i at hck
  simp only [Bool.and_eq_true, decide_eq_true_eq] at hck
  obtain ⟨hdg, hci⟩ := hck
  dsimp only at h hl ⊢
  have go : ∀ (f' : pz_Fr) (σ' : pz_Sg), pz_SP l dC dI cA ad L xs mid f' σ' Post → pz_ti L xs σ' → ∀ (H' : Heap) (locs' : List Loc) (ls' : Array Slot), pz_LH ad ls' (pz_Mt mid).1.2.2.1 f'.2.1 → va_P (dC, dI) vwCl (pz_ws cA ad σ') H' → va_S (pz_A ad s.heap.size) s.heap H' locs' → W p l e R s m args below meth c H' locs' cells slots Qz (F0 m f'.1 ls' (f'.2.2.map (pz_cv ad))) :=
    fun f' σ' h' ht' H' locs' ls' hl' hP' hS' => h' p e R s m args below meth c H' locs' cells slots Qz ls' hC ht' hl' hP' hS' hret
  obtain ⟨hx, hb, hml, hown, hts, hRf, hRl, hRc, hRs, hK, hinj, hb1, hb2, hX, hZ, hT, hNw, hL⟩ := id hC
  have hbA : ¬ pz_A ad s.heap.size (ad 1000) := fun q => q.elim (fun ⟨i, h1, h2⟩ => hb2 i h1 h2) (fun q => by omega)
  have hD : ∀ σ : pz_Sg, va_D (pz_A ad s.heap.size) (pz_ws cA ad σ) := fun σ => pz_Dj hinj
  have hl0 := pz_l0_has hl
  have L1 : ∀ {n : Nat}, (len == n) = true → len = n := fun q => by simpa using q
  cases ins
  case iconst n =>
    cases L1 hci
    exact lv_iconst hx hb hdg rfl (go _ _ h hti H locs ls hl hP hS)
  case bipush n =>
    cases L1 hci
    exact lv_bipush hx hb hdg rfl (go _ _ h hti H locs ls hl hP hS)
  case sipush n =>
    cases L1 hci
    exact lv_sipush hx hb hdg rfl (go _ _ h hti H locs ls hl hP hS)
  case lconst n =>
    cases L1 hci
    exact lv_lconst hx hb hdg rfl (go _ _ h hti H locs ls hl hP hS)
  case ldc n =>
    simp only [pz_ci, Bool.and_eq_true, decide_eq_true_eq] at hci
    cases L1 hci.1
    exact lv_ldc hx hb hown (hts _ (pz_tl_at hci.2 rfl)) hdg (go _ _ h hti H locs ls hl hP hS)
  case ldc2_w n =>
    simp only [pz_ci, Bool.and_eq_true, decide_eq_true_eq] at hci
    cases L1 hci.1
    exact lv_ldc2 hx hb hown (hts _ (pz_tl_at hci.2 rfl)) hdg (go _ _ h hti H locs ls hl hP hS)
  case iload i =>
    cases L1 hci
    obtain ⟨x, hv, h⟩ := pz_li_of h
    exact lv_iload hx hb hdg (hl.2.2 _ _ hv) (go _ _ h hti H locs ls hl hP hS)
  case iload_n i =>
    cases L1 hci
    obtain ⟨x, hv, h⟩ := pz_li_of h
    exact lv_iload_n hx hb hdg rfl (hl.2.2 _ _ hv) (go _ _ h hti H locs ls hl hP hS)
  case lload i =>
    cases L1 hci
    obtain ⟨x, hv, h⟩ := pz_ll_of h
    exact lv_lload hx hb hdg (hl.2.2 _ _ hv) (go _ _ h hti H locs ls hl hP hS)
  case lload_n i =>
    cases L1 hci
    obtain ⟨x, hv, h⟩ := pz_ll_of h
    exact lv_lload_n hx hb hdg rfl (hl.2.2 _ _ hv) (go _ _ h hti H locs ls hl hP hS)
  case aload i =>
    cases L1 hci
    obtain ⟨x, hv, h⟩ := pz_la_of h
    exact lv_aload hx hb hdg (hl.2.2 _ _ hv) (go _ _ h hti H locs ls hl hP hS)
  case aload_n i =>
    cases L1 hci
    obtain ⟨x, hv, h⟩ := pz_la_of h
    exact lv_aload_n hx hb hdg rfl (hl.2.2 _ _ hv) (go _ _ h hti H locs ls hl hP hS)
  case istore i =>
    simp only [pz_ci, Bool.and_eq_true, decide_eq_true_eq] at hci
    cases L1 hci.1
    obtain ⟨x, r, rfl, h⟩ := pz_pi_of h
    exact lv_istore hx hb hdg hl0 hci.2 rfl (fun ls' hl' => go _ _ h hti H locs ls' (pz_LH1 (v := .int x) hl') hP hS)
  case istore_n i =>
    simp only [pz_ci, Bool.and_eq_true, decide_eq_true_eq] at hci
    cases L1 hci.1
    obtain ⟨x, r, rfl, h⟩ := pz_pi_of h
    exact lv_istore_n hx hb hdg rfl hl0 hci.2 rfl (fun ls' hl' => go _ _ h hti H locs ls' (pz_LH1 (v := .int x) hl') hP hS)
  case lstore i =>
    simp only [pz_ci, Bool.and_eq_true, decide_eq_true_eq] at hci
    cases L1 hci.1
    obtain ⟨x, r, rfl, h⟩ := pz_pl_of h
    exact lv_lstore hx hb hdg hl0 hci.2 rfl (fun ls' hl' => go _ _ h hti H locs ls' (pz_LH2 (v := .long x) hl') hP hS)
  case lstore_n i =>
    simp only [pz_ci, Bool.and_eq_true, decide_eq_true_eq] at hci
    cases L1 hci.1
    obtain ⟨x, r, rfl, h⟩ := pz_pl_of h
    exact lv_lstore_n hx hb hdg rfl hl0 hci.2 rfl (fun ls' hl' => go _ _ h hti H locs ls' (pz_LH2 (v := .long x) hl') hP hS)
  case astore i =>
    simp only [pz_ci, Bool.and_eq_true, decide_eq_true_eq] at hci
    cases L1 hci.1
    obtain ⟨x, r, rfl, h⟩ := pz_pa_of h
    exact lv_astore hx hb hdg hl0 hci.2 rfl (fun ls' hl' => go _ _ h hti H locs ls' (pz_LH1 (v := .ref x) hl') hP hS)
  case astore_n i =>
    simp only [pz_ci, Bool.and_eq_true, decide_eq_true_eq] at hci
    cases L1 hci.1
    obtain ⟨x, r, rfl, h⟩ := pz_pa_of h
    exact lv_astore_n hx hb hdg rfl hl0 hci.2 rfl (fun ls' hl' => go _ _ h hti H locs ls' (pz_LH1 (v := .ref x) hl') hP hS)
  case iinc i n =>
    simp only [pz_ci, Bool.and_eq_true, Bool.or_eq_true, decide_eq_true_eq] at hci
    obtain ⟨x, hv, h⟩ := pz_li_of h
    obtain ⟨k, hk⟩ := List.getElem?_of_mem (pz_l0_in (ad := ad) hv)
    rcases hci.1 with q | q
    · cases L1 q
      exact lv_iinc (v := x + Int32.ofInt n) hx hb hdg hl0 hk rfl hci.2 rfl (fun ls' hl' => go _ _ h hti H locs ls' (pz_LH1 (v := .int (x + Int32.ofInt n)) hl') hP hS)
    · cases L1 q
      exact lv_iincW (v := x + Int32.ofInt n) hx hb hdg hl0 hk rfl hci.2 rfl (fun ls' hl' => go _ _ h hti H locs ls' (pz_LH1 (v := .int (x + Int32.ofInt n)) hl') hP hS)
  case iadd =>
    cases L1 hci
    obtain ⟨y, r, rfl, h⟩ := pz_pi_of h
    obtain ⟨x, r, rfl, h⟩ := pz_pi_of h
    exact lv_iadd hx hb hdg (go _ _ h hti H locs ls hl hP hS)
  case isub =>
    cases L1 hci
    obtain ⟨y, r, rfl, h⟩ := pz_pi_of h
    obtain ⟨x, r, rfl, h⟩ := pz_pi_of h
    exact lv_isub hx hb hdg (go _ _ h hti H locs ls hl hP hS)
  case imul =>
    cases L1 hci
    obtain ⟨y, r, rfl, h⟩ := pz_pi_of h
    obtain ⟨x, r, rfl, h⟩ := pz_pi_of h
    exact lv_imul hx hb hdg (go _ _ h hti H locs ls hl hP hS)
  case iand =>
    cases L1 hci
    obtain ⟨y, r, rfl, h⟩ := pz_pi_of h
    obtain ⟨x, r, rfl, h⟩ := pz_pi_of h
    exact lv_iand hx hb hdg (go _ _ h hti H locs ls hl hP hS)
  case ior =>
    cases L1 hci
    obtain ⟨y, r, rfl, h⟩ := pz_pi_of h
    obtain ⟨x, r, rfl, h⟩ := pz_pi_of h
    exact lv_ior hx hb hdg (go _ _ h hti H locs ls hl hP hS)
  case ixor =>
    cases L1 hci
    obtain ⟨y, r, rfl, h⟩ := pz_pi_of h
    obtain ⟨x, r, rfl, h⟩ := pz_pi_of h
    exact lv_ixor hx hb hdg (go _ _ h hti H locs ls hl hP hS)
  case idiv =>
    cases L1 hci
    obtain ⟨y, r, rfl, h⟩ := pz_pi_of h
    obtain ⟨x, r, rfl, h⟩ := pz_pi_of h
    exact lv_idiv hx hb hdg h.1 (go _ _ h.2 hti H locs ls hl hP hS)
  case irem =>
    cases L1 hci
    obtain ⟨y, r, rfl, h⟩ := pz_pi_of h
    obtain ⟨x, r, rfl, h⟩ := pz_pi_of h
    exact lv_irem hx hb hdg h.1 (go _ _ h.2 hti H locs ls hl hP hS)
  case ishl =>
    cases L1 hci
    obtain ⟨y, r, rfl, h⟩ := pz_pi_of h
    obtain ⟨x, r, rfl, h⟩ := pz_pi_of h
    exact lv_ishl hx hb hdg (go _ _ h hti H locs ls hl hP hS)
  case ishr =>
    cases L1 hci
    obtain ⟨y, r, rfl, h⟩ := pz_pi_of h
    obtain ⟨x, r, rfl, h⟩ := pz_pi_of h
    exact lv_ishr hx hb hdg (go _ _ h hti H locs ls hl hP hS)
  case land =>
    cases L1 hci
    obtain ⟨y, r, rfl, h⟩ := pz_pl_of h
    obtain ⟨x, r, rfl, h⟩ := pz_pl_of h
    exact lv_land hx hb hdg (go _ _ h hti H locs ls hl hP hS)
  case lor =>
    cases L1 hci
    obtain ⟨y, r, rfl, h⟩ := pz_pl_of h
    obtain ⟨x, r, rfl, h⟩ := pz_pl_of h
    exact lv_lor hx hb hdg (go _ _ h hti H locs ls hl hP hS)
  case lxor =>
    cases L1 hci
    obtain ⟨y, r, rfl, h⟩ := pz_pl_of h
    obtain ⟨x, r, rfl, h⟩ := pz_pl_of h
    exact lv_lxor hx hb hdg (go _ _ h hti H locs ls hl hP hS)
  case lushr =>
    cases L1 hci
    obtain ⟨y, r, rfl, h⟩ := pz_pi_of h
    obtain ⟨x, r, rfl, h⟩ := pz_pl_of h
    exact lv_lushr hx hb hdg rfl (go _ _ h hti H locs ls hl hP hS)
  case lshl =>
    cases L1 hci
    obtain ⟨y, r, rfl, h⟩ := pz_pi_of h
    obtain ⟨x, r, rfl, h⟩ := pz_pl_of h
    exact lv_lshl hx hb hdg rfl (go _ _ h hti H locs ls hl hP hS)
  case lcmp =>
    cases L1 hci
    obtain ⟨y, r, rfl, h⟩ := pz_pl_of h
    obtain ⟨x, r, rfl, h⟩ := pz_pl_of h
    exact W.lcmp hx hb hdg (go _ _ h hti H locs ls hl hP hS)
  case i2l =>
    cases L1 hci
    obtain ⟨x, r, rfl, h⟩ := pz_pi_of h
    exact lv_i2l hx hb hdg rfl (go _ _ h hti H locs ls hl hP hS)
  case l2i =>
    cases L1 hci
    obtain ⟨x, r, rfl, h⟩ := pz_pl_of h
    exact lv_l2i hx hb hdg rfl (go _ _ h hti H locs ls hl hP hS)
  case dup =>
    cases L1 hci
    obtain ⟨v, r, rfl, h1, h⟩ := pz_p1_of h
    exact lv_dup hx hb hdg ((pz_cv_cat ad v).trans h1) (go _ _ h hti H locs ls hl hP hS)
  case pop =>
    cases L1 hci
    obtain ⟨v, r, rfl, h1, h⟩ := pz_p1_of h
    exact lv_pop hx hb hdg ((pz_cv_cat ad v).trans h1) (go _ _ h hti H locs ls hl hP hS)
  case dup_x1 =>
    cases L1 hci
    obtain ⟨v, r, rfl, h1, h⟩ := pz_p1_of h
    obtain ⟨w, r, rfl, h2, h⟩ := pz_p1_of h
    exact lv_dup_x1 hx hb hdg ((pz_cv_cat ad v).trans h1) ((pz_cv_cat ad w).trans h2) (go _ _ h hti H locs ls hl hP hS)
  case dup_x2 =>
    cases L1 hci
    obtain ⟨v, r, rfl, h1, h⟩ := pz_p1_of h
    obtain ⟨w, r, rfl, h2, h⟩ := pz_p1_of h
    obtain ⟨z, r, rfl, h3, h⟩ := pz_p1_of h
    exact lv_dup_x2 hx hb hdg ((pz_cv_cat ad v).trans h1) ((pz_cv_cat ad w).trans h2) ((pz_cv_cat ad z).trans h3) (go _ _ h hti H locs ls hl hP hS)
  case dup2 =>
    cases L1 hci
    obtain ⟨v, r, rfl, h1, h⟩ := pz_p1_of h
    obtain ⟨w, r, rfl, h2, h⟩ := pz_p1_of h
    exact lv_dup2_11 hx hb hdg ((pz_cv_cat ad v).trans h1) ((pz_cv_cat ad w).trans h2) (go _ _ h hti H locs ls hl hP hS)
  case ifCond cd o =>
    simp only [pz_ci, Bool.and_eq_true, decide_eq_true_eq] at hci
    cases L1 hci.1
    obtain ⟨x, r, rfl, h⟩ := pz_pi_of h
    cases cd
    · exact lv_if_eq hx hb hdg hci.2 (fun z => go _ _ (h.1 z) hti H locs ls hl hP hS) (fun z => go _ _ (h.2 z) hti H locs ls hl hP hS)
    · exact lv_if_ne hx hb hdg hci.2 (fun z => go _ _ (h.2 z) hti H locs ls hl hP hS) (fun z => go _ _ (h.1 z) hti H locs ls hl hP hS)
    · exact lv_if_lt hx hb hdg hci.2 (fun z => go _ _ (h.1 z) hti H locs ls hl hP hS) (fun z => go _ _ (h.2 z) hti H locs ls hl hP hS)
    · exact lv_if_ge hx hb hdg hci.2 (fun z => go _ _ (h.1 z) hti H locs ls hl hP hS) (fun z => go _ _ (h.2 z) hti H locs ls hl hP hS)
    · exact lv_if_gt hx hb hdg hci.2 (fun z => go _ _ (h.1 z) hti H locs ls hl hP hS) (fun z => go _ _ (h.2 z) hti H locs ls hl hP hS)
    · exact lv_if_le hx hb hdg hci.2 (fun z => go _ _ (h.1 z) hti H locs ls hl hP hS) (fun z => go _ _ (h.2 z) hti H locs ls hl hP hS)
  case if_icmp cd o =>
    simp only [pz_ci, Bool.and_eq_true, decide_eq_true_eq] at hci
    cases L1 hci.1
    obtain ⟨y, r, rfl, h⟩ := pz_pi_of h
    obtain ⟨x, r, rfl, h⟩ := pz_pi_of h
    cases cd
    · exact lv_icmp_eq hx hb hdg hci.2 (fun z => go _ _ (h.1 z) hti H locs ls hl hP hS) (fun z => go _ _ (h.2 z) hti H locs ls hl hP hS)
    · exact lv_icmp_ne hx hb hdg hci.2 (fun z => go _ _ (h.2 z) hti H locs ls hl hP hS) (fun z => go _ _ (h.1 z) hti H locs ls hl hP hS)
    · exact lv_icmp_lt hx hb hdg hci.2 (fun z => go _ _ (h.1 z) hti H locs ls hl hP hS) (fun z => go _ _ (h.2 z) hti H locs ls hl hP hS)
    · exact lv_icmp_ge hx hb hdg hci.2 (fun z => go _ _ (h.1 z) hti H locs ls hl hP hS) (fun z => go _ _ (h.2 z) hti H locs ls hl hP hS)
    · exact lv_icmp_gt hx hb hdg hci.2 (fun z => go _ _ (h.1 z) hti H locs ls hl hP hS) (fun z => go _ _ (h.2 z) hti H locs ls hl hP hS)
    · exact lv_icmp_le hx hb hdg hci.2 (fun z => go _ _ (h.1 z) hti H locs ls hl hP hS) (fun z => go _ _ (h.2 z) hti H locs ls hl hP hS)
  case goto o =>
    simp only [pz_ci, Bool.and_eq_true, decide_eq_true_eq] at hci
    cases L1 hci.1
    exact lv_goto hx hb hdg hci.2 (go _ _ h hti H locs ls hl hP hS)
  case tableswitch d lo up offs =>
    simp only [pz_ci, Bool.and_eq_true, decide_eq_true_eq] at hci
    obtain ⟨⟨⟨⟨c1, c2⟩, c3⟩, c4⟩, c5⟩ := hci
    obtain ⟨x, r, rfl, h⟩ := pz_pi_of h
    by_cases hq : x.toInt < lo ∨ up < x.toInt
    · exact lv_tableOut (tgt := ((pc0 : Int) + d).toNat) hx hb hdg hq (by omega) (go _ _ (h.1 hq) hti H locs ls hl hP hS)
    · have g1 : ¬ x.toInt < lo := fun z => hq (Or.inl z)
      have g2 : ¬ up < x.toInt := fun z => hq (Or.inr z)
      have hj : (x.toInt - lo).toNat < offs.toList.length := by omega
      have ho : offs.toList[(x.toInt - lo).toNat]? = some (offs.toList[(x.toInt - lo).toNat]) := List.getElem?_eq_getElem hj
      have h0 : 0 ≤ (pc0 : Int) + offs.toList[(x.toInt - lo).toNat] := of_decide_eq_true (List.all_eq_true.mp c2 _ (List.getElem_mem hj))
      have hk := pz_tb_at (x := x) h.2 ho (by rw [show lo + ((x.toInt - lo).toNat : Int) = x.toInt by omega, Int32.ofInt_toInt])
      exact lv_tableIn (tgt := ((pc0 : Int) + offs.toList[(x.toInt - lo).toNat]).toNat) hx hb hdg g1 g2 (by rw [← Array.getElem?_toList]; exact ho) (by omega) (go _ _ hk hti H locs ls hl hP hS)
  case lookupswitch d ps =>
    simp only [pz_ci, Bool.and_eq_true, decide_eq_true_eq] at hci
    obtain ⟨⟨c1, c2⟩, c3⟩ := hci
    obtain ⟨x, r, rfl, h⟩ := pz_pi_of h
    have hb3 : ∀ q ∈ ps.toList, (0 ≤ (pc0 : Int) + q.2) ∧ -2147483648 ≤ q.1 ∧ q.1 < 2147483648 := fun q hq => by
      have := List.all_eq_true.mp c2 q hq
      simp only [Bool.and_eq_true, decide_eq_true_eq] at this
      exact ⟨this.1.1, this.1.2, this.2⟩
    obtain ⟨off, h1, h2, h3⟩ := pz_lk_at (fun q hq => (hb3 q hq).2) h
    have h0 : 0 ≤ (pc0 : Int) + off := by
      rcases h3 with h3 | ⟨q, h3, h4⟩
      · rw [h3]; exact c1
      · rw [h4]; exact (hb3 q h3).1
    exact lv_lookup (tgt := ((pc0 : Int) + off).toNat) hx hb hdg c3 h1 (by omega) (go _ _ h2 hti H locs ls hl hP hS)
  case getfield k =>
    simp only [pz_ci, Bool.and_eq_true, decide_eq_true_eq] at hci
    obtain ⟨⟨⟨⟨c1, c2⟩, c3⟩, c4⟩, c5⟩ := hci
    cases L1 c1
    obtain ⟨a, r, rfl, h⟩ := pz_pa_of h
    obtain ⟨fs, he, h⟩ := pz_ob_of h
    have hsame : ∀ x, s.fieldFound? (pz_T a1 a2).1 (pz_T a1 a2).2.1 (pz_T a1 a2).2.2.1 = some x → s.fieldFound? (pz_nm a1) (pz_T a1 a2).2.1 (pz_T a1 a2).2.2.1 = some x := by
      rw [c4]
      exact fun _ z => z
    cases hf : fs[a2]? with
    | none => rw [hf] at h; exact h.elim
    | some o =>
      rw [hf] at h
      cases o with
      | some q => exact va_get (D := (dC, dI)) hx hb hts (pz_inU c2) hown hK hP a (pz_ws_at he) (pz_vw a1 c2) a2 c3 (hts _ (pz_tl_at c5 rfl)) hsame (v := .ref (ad q)) (by rw [List.getElem?_mapIdx, hf]; rfl) hdg (go _ _ h hti H locs ls hl hP hS)
      | none => exact va_get (D := (dC, dI)) hx hb hts (pz_inU c2) hown hK hP a (pz_ws_at he) (pz_vw a1 c2) a2 c3 (hts _ (pz_tl_at c5 rfl)) hsame (v := .int (σ.1 a a2)) (by rw [List.getElem?_mapIdx, hf]; rfl) hdg (go _ _ h hti H locs ls hl hP hS)
  case putfield k =>
    simp only [pz_ci, Bool.and_eq_true, decide_eq_true_eq] at hci
    obtain ⟨⟨⟨⟨⟨c1, c2⟩, c3⟩, c4⟩, c5⟩, c6⟩ := hci
    cases L1 c1
    obtain ⟨x, r, rfl, h⟩ := pz_pi_of h
    obtain ⟨a, r, rfl, h⟩ := pz_pa_of h
    obtain ⟨fs, he, h⟩ := pz_ob_of h
    have hsame : ∀ x, s.fieldFound? (pz_T a1 a2).1 (pz_T a1 a2).2.1 (pz_T a1 a2).2.2.1 = some x → s.fieldFound? (pz_nm a1) (pz_T a1 a2).2.1 (pz_T a1 a2).2.2.1 = some x := by
      rw [c4]
      exact fun _ z => z
    cases hf : fs[a2]? with
    | none => rw [hf] at h; exact h.elim
    | some o =>
      rw [hf] at h
      cases o with
      | some q => exact h.elim
      | none =>
        have hfl : a2 < fs.length := (List.getElem?_eq_some_iff.mp hf).1
        have fin : ∀ ty : FieldType, pz_ty a1 a2 = ty → narrow ty (.int x) = .int x → fits ty (.int x) = true → pz_SP l dC dI cA ad L xs mid (pc0 + 3, lv, r) (pz_up σ a a2 x) Post → W p l e R s m args below meth c H locs cells slots Qz (F0 m pc0 ls (.int x :: .ref (ad a) :: r.map (pz_cv ad))) := by
          intro ty hty hn hfit h
          refine va_put (D := (dC, dI)) hx hb hts (pz_inU c2) (pz_ty a1) (pz_tyk a1 c2) (pz_nmk a1 c2) hown hK hP (hD σ) hS a (pz_ws_at he) (pz_vw a1 c2) a2 c3 (hts _ (pz_tl_at c5 rfl)) hsame c6 (v := .int x) (by rw [← hty]; exact pz_tyk a1 c2 a2 c3) hn hfit (by rw [List.length_mapIdx]; exact hfl) hdg (fun H1 locs1 hP1 hD1 hS1 => ?_)
          rw [pz_ws_set he pz_up_ne (pz_putf hf)] at hP1
          exact go _ _ h (pz_ti_k hti (pz_sh_lt he) pz_up_ne) H1 locs1 ls hl hP1 hS1
        cases ht : pz_ty a1 a2 <;> rw [ht] at h <;> first
          | exact h.elim
          | exact fin .int ht rfl rfl h
          | exact fin .boolean ht (pz_narb h.1).1 (pz_narb h.1).2.1 h.2
  case getstatic k =>
    simp only [pz_ci, Bool.and_eq_true, decide_eq_true_eq] at hci
    obtain ⟨c1, c2⟩ := hci
    cases L1 c1
    have hN2 : va_Nw (.fieldLinkNest (pz_nm (pz_Mt mid).2.1.1) k "PurityEffects" "WANTED" "[I" "PurityEffects") s := c2 ▸ hNw
    exact va_getsN hx hb hZ hS hown (va_Nw.use rfl hN2) (fun _ z => z) hdg (go _ _ h hti H locs ls hl hP hS)
  case arraylength =>
    cases L1 hci
    obtain ⟨a, r, rfl, k1⟩ := pz_pa_of h
    obtain ⟨h1, k1⟩ := pz_bif k1
    have h1 : a = 1000 := by simpa using h1
    subst h1
    rw [hti.1] at k1
    exact va_slen hx hb hX hb1 hbA hS hdg (go _ _ k1 hti H locs ls hl hP hS)
  case iaload =>
    cases L1 hci
    obtain ⟨i, r, rfl, k1⟩ := pz_pi_of h
    obtain ⟨a, r, rfl, k2⟩ := pz_pa_of k1
    cases q1 : (a == 1000) with
    | true =>
      rw [q1] at k2
      have q1 : a = 1000 := by simpa using q1
      subst q1
      obtain ⟨h1, k2⟩ := k2
      rw [hti.1] at h1
      have hcl : (Int32.ofNat L).toNatClampNeg = L := nI_clamp (by omega)
      rw [hcl] at h1
      have hlt : i.toNatClampNeg < L := Nat.not_le.mp fun q => h1 (Or.inr q)
      rw [hti.2 _ hlt] at k2
      exact va_sld hx hb hX hb1 hbA hS h1 hdg (go _ _ k2 hti H locs ls hl hP hS)
    | false =>
      rw [q1] at k2
      cases q2 : (a == 1002) with
      | true =>
        rw [q2] at k2
        have q2 : a = 1002 := by simpa using q2
        subst q2
        exact va_ti hx hb hT hS k2.1 rfl hdg (go _ _ k2.2 hti H locs ls hl hP hS)
      | false =>
        rw [q2] at k2
        obtain ⟨n, he, h1, k2⟩ := pz_ar_of k2
        exact va_iald (D := (dC, dI)) hx hb hK hP a 0 (pz_ws_at he) rfl h1 hdg (go _ _ k2 hti H locs ls hl hP hS)
  case baload =>
    cases L1 hci
    obtain ⟨i, r, rfl, h⟩ := pz_pi_of h
    obtain ⟨a, r, rfl, h⟩ := pz_pa_of h
    obtain ⟨n, he, h1, h⟩ := pz_ar_of h
    exact va_zald (D := (dC, dI)) hx hb hK hP a 1 (pz_ws_at he) rfl h1 hdg (go _ _ h hti H locs ls hl hP hS)
  case laload =>
    cases L1 hci
    obtain ⟨i, r, rfl, h⟩ := pz_pi_of h
    obtain ⟨a, r, rfl, h⟩ := pz_pa_of h
    obtain ⟨n, he, h1, h⟩ := pz_ar_of h
    exact va_lald (D := (dC, dI)) hx hb hK hP a 2 (pz_ws_at he) rfl h1 hdg (go _ _ h hti H locs ls hl hP hS)
  case iastore =>
    cases L1 hci
    obtain ⟨x, r, rfl, h⟩ := pz_pi_of h
    obtain ⟨i, r, rfl, h⟩ := pz_pi_of h
    obtain ⟨a, r, rfl, h⟩ := pz_pa_of h
    obtain ⟨n, he, h1, h⟩ := pz_ar_of h
    refine va_iast (D := (dC, dI)) hx hb hK hP (hD σ) hS a 0 (pz_ws_at he) rfl h1 hdg (fun H1 locs1 hP1 hD1 hS1 => ?_)
    rw [pz_ws_set (σ' := pz_up σ a i.toNatClampNeg x) he pz_up_ne (by rw [← pz_up_eq]; rfl)] at hP1
    exact go _ _ h (pz_ti_k hti (pz_sh_lt he) pz_up_ne) H1 locs1 ls hl hP1 hS1
  case bastore =>
    cases L1 hci
    obtain ⟨x, r, rfl, h⟩ := pz_pi_of h
    obtain ⟨i, r, rfl, h⟩ := pz_pi_of h
    obtain ⟨a, r, rfl, h⟩ := pz_pa_of h
    obtain ⟨n, he, h1, h2, h⟩ := pz_ar_of h
    refine va_zast (D := (dC, dI)) hx hb hK hP (hD σ) hS a 1 (pz_ws_at he) rfl h1 hdg (fun H1 locs1 hP1 hD1 hS1 => ?_)
    rw [(pz_narb h2).2.2, pz_ws_set (σ' := pz_up σ a i.toNatClampNeg x) he pz_up_ne (by rw [← pz_up_eq]; rfl)] at hP1
    exact go _ _ h (pz_ti_k hti (pz_sh_lt he) pz_up_ne) H1 locs1 ls hl hP1 hS1
  case lastore =>
    cases L1 hci
    obtain ⟨x, r, rfl, h⟩ := pz_pl_of h
    obtain ⟨i, r, rfl, h⟩ := pz_pi_of h
    obtain ⟨a, r, rfl, h⟩ := pz_pa_of h
    obtain ⟨n, he, h1, h⟩ := pz_ar_of h
    refine va_last (D := (dC, dI)) hx hb hK hP (hD σ) hS a 2 (pz_ws_at he) rfl h1 hdg (fun H1 locs1 hP1 hD1 hS1 => ?_)
    rw [pz_ws_set (σ' := pz_uq σ a i.toNatClampNeg x) he pz_uq_ne (by rw [← pz_uq_eq]; rfl)] at hP1
    exact go _ _ h (pz_ti_k hti (pz_sh_lt he) pz_uq_ne) H1 locs1 ls hl hP1 hS1
  case invokevirtual k =>
    simp only [pz_ci, Bool.and_eq_true, decide_eq_true_eq] at hci
    obtain ⟨⟨⟨⟨⟨⟨c1, c2⟩, c3⟩, c4⟩, c5⟩, c6⟩, c7⟩ := hci
    cases L1 c1
    obtain ⟨As, r, hAl, rfl, k1⟩ := pz_pp_of h
    obtain ⟨b, r, rfl, k2⟩ := pz_pa_of k1
    obtain ⟨fs, he, k2⟩ := pz_ob_of k2
    obtain ⟨hrs, k2⟩ := pz_rs_of k2
    obtain ⟨hft, Q, hQ, k2⟩ := pz_ft_of k2
    rw [List.append_nil] at hQ hft
    have hc := pz_cl a1 c2
    unfold pz_cal at hc
    simp only [Bool.and_eq_true, decide_eq_true_eq] at hc
    obtain ⟨⟨⟨⟨⟨⟨d2, d3⟩, d4⟩, d5⟩, d6⟩, d7⟩, d8⟩ := hc
    have d1 := pz_cw a1 c2
    have c4 : (pz_Mt a1).2.1.2.1 = false := by simpa using c4
    rw [c4] at d3
    simp only [cond_false, Bool.and_eq_true, decide_eq_true_eq] at d3
    have hM := pz_met (sz := H.size) hQ c2 hti hinj (Nat.lt_of_lt_of_le hb1 hS.1) hb2 hL hft
    have hGI : GoodIn pz_tl (wsV (pz_nm (pz_Mt mid).2.1.1) k (pz_nm (pz_Mt a1).2.1.1) (pz_Mt a1).1.1 (pz_wsM a1)) := by
      refine pz_GI fun w hw => ?_
      unfold wsV pz_wsM at hw
      simp only [List.cons_append, List.nil_append, List.mem_cons] at hw
      rcases hw with rfl | rfl | rfl | rfl | rfl | hw
      · exact pz_tl_at c7 rfl
      · exact pz_tl_at d3.1 rfl
      · exact pz_tl_at d3.2 rfl
      · exact pz_tl_at d2 rfl
      · exact pz_tl_at d1 rfl
      · exact hw
    have hAB : ∀ q, pz_A ad H.size q → pz_A ad s.heap.size q := fun q k2 => k2.elim Or.inl (fun z => Or.inr (Nat.le_trans hS.1 z))
    have hcw : CallW R s args (pz_nm (pz_Mt mid).2.1.1) (pz_nm (pz_Mt a1).2.1.1) k (pz_Mt a1).1.1 (pz_Mt a1).1.2.1 (pz_Mt a1).1.2.2.1 (pz_Mt a1).1.2.2.2 (pz_wsM a1) (pz_rm a1) 0 0 a2 :=
      cwV a2 hts hGI rfl rfl rfl ⟨d4, d6, d7, by rw [c3]; exact d8⟩ ⟨by rw [hRf]; exact c5, by rw [hRl]; exact c6⟩
    have hrecv := va_recv (q0 := b) hK hP (ci := (pz_Mt a1).2.1.1) (q := (pz_nm (pz_Mt a1).2.1.1, pz_T (pz_Mt a1).2.1.1, pz_N (pz_Mt a1).2.1.1)) (pz_vw _ (pz_own8 a1 c2)) (pz_ws_at he)
    refine pz_back (Q := Q) (rest := r.map (pz_cv ad)) (aa := ((Value.ref (ad b)) :: As.map (pz_cv ad)).toArray) (va_runV (As := As.map (pz_cv ad)) (b := ad b) ⟨hx, hb, hml, hown, hts⟩ hM hcw ⟨?_, hrecv, ?_⟩ rfl (by rw [List.length_map]; exact hAl) hl.1 (by simp [pz_cv]) (lv_room (by rw [pz_cv_sum]; exact hrs)) hdg ⟨hRc, hRs⟩) hS ?_
    · intro a' U g mk q
      obtain ⟨q0, q1, qP, qK, qX, qZ, qT, qN⟩ := q
      exact ⟨q0, q1, qP, va_K.moved (u := U) (U := U.calling g mk a') (Vm.Alike.refl U.vm) qK, va_X.moved (u := U) (U := U.calling g mk a') (Vm.Alike.refl U.vm) qX, va_Z.moved (u := U) (U := U.calling g mk a') (Vm.Alike.refl U.vm) qZ, va_T.moved (u := U) (U := U.calling g mk a') (Vm.Alike.refl U.vm) qT, va_Nw.same (u := U) (U := U.calling g mk a') rfl rfl qN⟩
    · intro U hU hW
      have hk2 : ∀ q : Nat, q < s.heap.size → ¬ pz_A ad s.heap.size q → U.heap[q]? = s.heap[q]? := fun q h1 h2 => by rw [hU]; exact hS.2.1 q h1 h2
      refine ⟨rfl, by rw [hU], by rw [hU]; exact hP, va_K.moved hW.alike hK, va_X.moved hW.alike (hX.kept (hk2 _ hb1 hbA)), va_Z.moved hW.alike ((hZ.kept hk2).narrow hAB), va_T.moved hW.alike ((hT.kept hk2).narrow hAB), va_Nw.warmF hW hNw⟩
    · intro v σ' H1 locs1 hq hti1 hvk hP1 hS1
      rw [pz_vk_cv hvk]
      exact go _ _ (pz_rt_of k2 hvk hq) hti1 H1 locs1 ls hl hP1 hS1
  case invokestatic k =>
    simp only [pz_ci, Bool.and_eq_true] at hci
    obtain ⟨c1, hci⟩ := hci
    cases L1 c1
    obtain ⟨w1, w2, w3, w4, w5, w6⟩ := pz_jw
    cases q1 : (a1 == 900) with
    | true =>
      have h : (pz_pi st fun y r => pz_pi r fun x r => pz_rs r (pz_SP l dC dI cA ad L xs mid (pc0 + 3, lv, .int (if y < x then y else x) :: r) σ Post)) := by
        have h2 := h
        unfold pz_ex at h2
        simp only [q1, cond_true] at h2
        exact h2
      simp only [q1, cond_true, Bool.and_eq_true, decide_eq_true_eq] at hci
      obtain ⟨⟨c2, c3⟩, c4⟩ := hci
      obtain ⟨y, r, rfl, k1⟩ := pz_pi_of h
      obtain ⟨x, r, rfl, k2⟩ := pz_pi_of k1
      obtain ⟨hrs, k3⟩ := pz_rs_of k2
      exact va_mmin hx hb (hml.trans hl.1.symm) hown (hts _ (pz_tl_at c4 rfl)) (hts _ (pz_tl_at w5 rfl)) (hts _ (pz_tl_at w4 rfl)) (hts _ (pz_tl_at w6 rfl)) (by rw [hRf]; exact c2) (by rw [hRl, pz_cv_sum]; omega) hRc hRs hdg (go _ _ k3 hti H locs ls hl hP hS)
    | false =>
      cases q2 : (a1 == 901) with
      | true =>
        unfold pz_ex at h
        simp only [q1, q2, cond_true, cond_false] at h
        simp only [q1, q2, cond_true, cond_false, Bool.and_eq_true, decide_eq_true_eq] at hci
        obtain ⟨⟨c2, c3⟩, c4⟩ := hci
        obtain ⟨n, r, rfl, k1⟩ := pz_pi_of h
        obtain ⟨dp, r, rfl, k2⟩ := pz_pi_of k1
        obtain ⟨d, r, rfl, k3⟩ := pz_pa_of k2
        obtain ⟨sp, r, rfl, k4⟩ := pz_pi_of k3
        obtain ⟨a, r, rfl, k5⟩ := pz_pa_of k4
        obtain ⟨n0, he0, k6⟩ := pz_ar_of k5
        obtain ⟨n1, he1, k7⟩ := pz_ar_of k6
        obtain ⟨hrs, h1, h2, h3, h4, h5, k8⟩ := pz_rs_of k7
        refine va_copyi (D := (dC, dI)) hx hb (hml.trans hl.1.symm) hown (hts _ (pz_tl_at c4 rfl)) (hts _ (pz_tl_at w3 rfl)) (hts _ (pz_tl_at w2 rfl)) (hts _ (pz_tl_at w1 rfl)) hK hP (hD σ) hS a d 0 0 (pz_ws_at he0) (pz_ws_at he1) rfl rfl rfl h1 h2 h3 h4 h5 (fun _ _ => rfl) (by rw [hRf]; exact c2) (by rw [hRl, pz_cv_sum, pz_nfw]; omega) hdg (fun H1 locs1 hP1 hD1 hS1 => ?_)
        rw [pz_ws_set (σ' := pz_uc σ a d sp.toNatClampNeg dp.toNatClampNeg n.toNatClampNeg) he1 pz_uc_ne (by rw [← pz_uc_eq]; rfl)] at hP1
        exact go _ _ k8 (pz_ti_k hti (pz_sh_lt he1) pz_uc_ne) H1 locs1 ls hl hP1 hS1
      | false =>
        unfold pz_ex at h
        simp only [q1, q2, cond_false] at h
        simp only [q1, q2, cond_false, Bool.and_eq_true, decide_eq_true_eq] at hci
        obtain ⟨⟨⟨⟨⟨c2, c3⟩, c4⟩, c5⟩, c6⟩, c7⟩ := hci
        obtain ⟨As, r, hAl, rfl, k1⟩ := pz_pp_of h
        obtain ⟨hrs, k2⟩ := pz_rs_of k1
        obtain ⟨hft, Q, hQ, k3⟩ := pz_ft_of k2
        rw [List.append_nil] at hQ hft
        have hc := pz_cl a1 c2
        unfold pz_cal at hc
        simp only [Bool.and_eq_true, decide_eq_true_eq] at hc
        obtain ⟨⟨⟨⟨⟨⟨d2, d3⟩, d4⟩, d5⟩, d6⟩, d7⟩, d8⟩ := hc
        have d1 := pz_cw a1 c2
        have c4 : (pz_Mt a1).2.1.2.1 = true := by simpa using c4
        rw [c4] at d3
        simp only [cond_true, decide_eq_true_eq] at d3
        have hM := pz_met (sz := H.size) hQ c2 hti hinj (Nat.lt_of_lt_of_le hb1 hS.1) hb2 hL hft
        have hGI : GoodIn pz_tl (va_wsS (pz_nm (pz_Mt mid).2.1.1) k (pz_Mt a1).1.1 (pz_wsM a1)) := by
          refine pz_GI fun w hw => ?_
          unfold va_wsS pz_wsM at hw
          simp only [List.cons_append, List.nil_append, List.mem_cons] at hw
          rcases hw with rfl | rfl | rfl | rfl | hw
          · exact pz_tl_at c7 rfl
          · exact pz_tl_at d3 rfl
          · rw [d4]; exact pz_tl_at d2 rfl
          · exact pz_tl_at d1 rfl
          · exact hw
        have hAB : ∀ q, pz_A ad H.size q → pz_A ad s.heap.size q := fun q h => h.elim Or.inl (fun z => Or.inr (Nat.le_trans hS.1 z))
        have hcw := va_cwS (R := R) (rm := pz_rm a1) (mc := 0) (ms := 0) a2 hts hGI rfl rfl rfl ⟨d6, d7, by rw [c3]; exact d8⟩ ⟨by rw [hRf]; exact c5, by rw [hRl]; exact c6⟩
        refine pz_back (Q := Q) (rest := r.map (pz_cv ad)) (aa := (As.map (pz_cv ad)).toArray) (va_runS (As := As.map (pz_cv ad)) ⟨hx, hb, hml, hown, hts⟩ hM hcw ⟨?_, ?_⟩ rfl (by rw [List.length_map]; exact hAl) hl.1 (by simp) (lv_room (by rw [pz_cv_sum]; exact hrs)) hdg ⟨hRc, hRs⟩) hS ?_
        · intro a' U g mk q
          obtain ⟨q0, q1, qP, qK, qX, qZ, qT, qN⟩ := q
          exact ⟨q0, q1, qP, va_K.moved (u := U) (U := U.calling g mk a') (Vm.Alike.refl U.vm) qK, va_X.moved (u := U) (U := U.calling g mk a') (Vm.Alike.refl U.vm) qX, va_Z.moved (u := U) (U := U.calling g mk a') (Vm.Alike.refl U.vm) qZ, va_T.moved (u := U) (U := U.calling g mk a') (Vm.Alike.refl U.vm) qT, va_Nw.same (u := U) (U := U.calling g mk a') rfl rfl qN⟩
        · intro U hU hW
          have hk2 : ∀ q : Nat, q < s.heap.size → ¬ pz_A ad s.heap.size q → U.heap[q]? = s.heap[q]? := fun q h1 h2 => by rw [hU]; exact hS.2.1 q h1 h2
          refine ⟨rfl, by rw [hU], by rw [hU]; exact hP, va_K.moved hW.alike hK, va_X.moved hW.alike (hX.kept (hk2 _ hb1 hbA)), va_Z.moved hW.alike ((hZ.kept hk2).narrow hAB), va_T.moved hW.alike ((hT.kept hk2).narrow hAB), va_Nw.warmF hW hNw⟩
        · intro v σ' H1 locs1 hq hti1 hvk hP1 hS1
          rw [pz_vk_cv hvk]
          exact go _ _ (pz_rt_of k3 hvk hq) hti1 H1 locs1 ls hl hP1 hS1
  case ireturn =>
    cases L1 hci
    obtain ⟨x, r, rfl, hr0, k⟩ := pz_pi_of h
    clear h
    subst hr0
    cases hq : (pz_Mt mid).1.2.2.2 with
    | none => rw [hq] at k; exact k.elim
    | some ty =>
      rw [hq] at k
      cases ty <;> first
        | exact k.elim
        | exact hret (some (.int x)) σ H locs ls pc0 k hti hP hS ⟨hdg, Or.inl hq⟩
        | exact hret (some (.int x)) σ H locs ls pc0 k.2 hti hP hS ⟨hdg, Or.inr ⟨hq, k.1⟩⟩
  case lreturn =>
    cases L1 hci
    obtain ⟨x, r, rfl, hr0, k⟩ := pz_pl_of h
    clear h
    subst hr0
    cases hq : (pz_Mt mid).1.2.2.2 with
    | none => rw [hq] at k; exact k.elim
    | some ty =>
      rw [hq] at k
      cases ty <;> first
        | exact k.elim
        | exact hret (some (.long x)) σ H locs ls pc0 k hti hP hS ⟨hdg, hq⟩
  case return_ =>
    cases L1 hci
    obtain ⟨hr0, k⟩ := h
    subst hr0
    cases hq : (pz_Mt mid).1.2.2.2 with
    | none =>
      rw [hq] at k
      exact hret none σ H locs ls pc0 k hti hP hS ⟨hdg, hq⟩
    | some ty => rw [hq] at k; exact k.elim
  all_goals exact h.elim
/-- THE PURE MACHINE IS RIGHT -/
theorem pz_sound {l : Launch} {dC : Nat → ClassId} {dI : Nat → Nat → Nat} {cA : FieldType → ClassId} {ad : Nat → Nat} {L : Nat} {xs : Nat → Int32} {mid : Nat} {f : pz_Fr} {σ : pz_Sg} {Post : pz_Ps} (h : pz_WP mid f σ Post) : pz_SP l dC dI cA ad L xs mid f σ Post :=
  h _ (pz_close l dC dI cA ad L xs)
