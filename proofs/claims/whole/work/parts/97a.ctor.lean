/-! ===== the constructors ===== -/
abbrev zi (cA : FieldType → ClassId) (q n : Nat) : Nat × va_E := (q, .inl (cA .int, n, .inl (fun _ => 0)))
abbrev zb (cA : FieldType → ClassId) (q n : Nat) : Nat × va_E := (q, .inl (cA .boolean, n, .inl (fun _ => 0)))
abbrev zl (cA : FieldType → ClassId) (q n : Nat) : Nat × va_E := (q, .inl (cA .long, n, .inr (.inl (fun _ => 0))))
section
variable {p : Program} {l : Launch} {e : Env} {R : Room} {s : State} {m : MethodId} {args : Array Value} {below : List Frame} {meth : Method} {c : Code} {H : Heap} {locs : List Loc} {cells slots : Nat} {Q : State → Prop} {pc : Nat} {ls : Array Slot} {rest : List Value} {cc : ByteArray} {D : va_G} {cl : List vw_C} {tys : List (ClassId × FieldType)} {ws : va_W} {A : Nat → Prop} {H0 : Heap}
/-- a new array, whose class is known -/
theorem vc_newa (hexec : p.tables.exec = Jvm.exec) (hb : c.code = cc) {atype : ArrayType} (harr : (Cond.arrayClass (newarray.typeOf atype)).before args s = true) {ty : FieldType} (hty : newarray.typeOf atype = ty) (hK : va_K D cl tys s) (t0 : Nat) {cT : ClassId} (ht : tys[t0]? = some (cT, ty)) (hra : ∀ c : ClassId, va_RA s c ty → s.vm.findClass ("[" ++ ty.toString) = some c) (hP : va_P D cl ws H) (hD : va_D A ws) (hS : va_S A H0 H locs) (hA : ∀ q, H0.size ≤ q → A q)
    {n : Int32} {N' : Nat} {a0 : vp_A} (ha : ∀ cA : ClassId, vp_cell cA a0 = arrV cA N' (fun _ => defaultValue ty)) (hn : ¬ n < 0) (hN : n.toNatClampNeg = N') (hbytes : N' * componentBytes ty ≤ 536870912) (hcells : cells + 1 ≤ R.cells) (hslots : slots + N' ≤ R.slots) (hdg : decode cc pc = .ok (.newarray atype, 2))
    (kk : ∀ (q : Nat) (H1 : Heap), va_P D cl (ws ++ [(q, .inl (cT, a0))]) H1 → va_D A (ws ++ [(q, .inl (cT, a0))]) → va_S A H0 H1 locs →
      W p l e R s m args below meth c H1 locs (cells + 1) (slots + N') Q (F0 m (pc + 2) ls (.ref q :: rest))) : W p l e R s m args below meth c H locs cells slots Q (F0 m pc ls (.int n :: rest)) := by
  refine va_newa hexec hb harr hty hK hP hD hS hA ha hn hN hbytes hcells hslots hdg (fun q cA H1 hK' hP hD hS => ?_)
  have h1 := hra cA (hK'.2 tys.length (cA, ty) (by simp)).2
  have h2 := hra cT (hK.2 t0 (cT, ty) ht).2
  have e : cA = cT := Option.some.inj (h1.symm.trans h2)
  subst e
  exact kk q H1 hP hD hS
end
theorem dX0_init_0 : decode cX0_init 0 = .ok (.aload_n 0, 1) := by decide +kernel
theorem dX0_init_1 : decode cX0_init 1 = .ok (.invokespecial 1, 3) := by decide +kernel
theorem dX0_init_4 : decode cX0_init 4 = .ok (.return_, 1) := by decide +kernel
theorem ct_w294 : (.methodLink RX0 1 objectInit : Cond) ∈ pz_tl := pz_tl_at (i := 294) (by decide +kernel) rfl
theorem ct_w108 : (.instanceMethod objectInit : Cond) ∈ pz_tl := pz_tl_at (i := 108) (by decide +kernel) rfl
set_option maxRecDepth 1000000 in
theorem ct_w109 : (.code objectInit ⟨#[0xb1]⟩ 1 none : Cond) ∈ pz_tl := pz_tl_at (i := 109) (by rfl) rfl
set_option maxRecDepth 1000000 in
theorem ct_w293 : (.code yX0_init cX0_init 1 none : Cond) ∈ pz_tl := pz_tl_at (i := 293) (by rfl) rfl
theorem ct_g0 : GoodIn pz_tl (.code yX0_init cX0_init 1 none :: pz_tl) := pz_GI (fun w hw => (List.mem_cons.mp hw).elim (fun e => e ▸ ct_w293) id)
theorem ct_v0 : ∀ j, j < 8 → defaultValue (tyX0 j) = vp_V [.int 0, .int 0, .int 0, .int 0, .int 0, .int 0, .int 0, .int 0] j := fun j hj => match j, hj with
  | 0, _ => rfl
  | 1, _ => rfl
  | 2, _ => rfl
  | 3, _ => rfl
  | 4, _ => rfl
  | 5, _ => rfl
  | 6, _ => rfl
  | 7, _ => rfl
  | n + 8, h => absurd h (by omega)
theorem dX4_init_0 : decode cX4_init 0 = .ok (.aload_n 0, 1) := by decide +kernel
theorem dX4_init_1 : decode cX4_init 1 = .ok (.invokespecial 3, 3) := by decide +kernel
theorem dX4_init_4 : decode cX4_init 4 = .ok (.aload_n 0, 1) := by decide +kernel
theorem dX4_init_5 : decode cX4_init 5 = .ok (.bipush 8, 2) := by decide +kernel
theorem dX4_init_7 : decode cX4_init 7 = .ok (.newarray .int, 2) := by decide +kernel
theorem dX4_init_9 : decode cX4_init 9 = .ok (.putfield 9, 3) := by decide +kernel
theorem dX4_init_12 : decode cX4_init 12 = .ok (.aload_n 0, 1) := by decide +kernel
theorem dX4_init_13 : decode cX4_init 13 = .ok (.bipush 8, 2) := by decide +kernel
theorem dX4_init_15 : decode cX4_init 15 = .ok (.newarray .int, 2) := by decide +kernel
theorem dX4_init_17 : decode cX4_init 17 = .ok (.putfield 15, 3) := by decide +kernel
theorem dX4_init_20 : decode cX4_init 20 = .ok (.aload_n 0, 1) := by decide +kernel
theorem dX4_init_21 : decode cX4_init 21 = .ok (.bipush 16, 2) := by decide +kernel
theorem dX4_init_23 : decode cX4_init 23 = .ok (.newarray .boolean, 2) := by decide +kernel
theorem dX4_init_25 : decode cX4_init 25 = .ok (.putfield 18, 3) := by decide +kernel
theorem dX4_init_28 : decode cX4_init 28 = .ok (.aload_n 0, 1) := by decide +kernel
theorem dX4_init_29 : decode cX4_init 29 = .ok (.bipush 8, 2) := by decide +kernel
theorem dX4_init_31 : decode cX4_init 31 = .ok (.newarray .boolean, 2) := by decide +kernel
theorem dX4_init_33 : decode cX4_init 33 = .ok (.putfield 22, 3) := by decide +kernel
theorem dX4_init_36 : decode cX4_init 36 = .ok (.aload_n 0, 1) := by decide +kernel
theorem dX4_init_37 : decode cX4_init 37 = .ok (.bipush 10, 2) := by decide +kernel
theorem dX4_init_39 : decode cX4_init 39 = .ok (.newarray .int, 2) := by decide +kernel
theorem dX4_init_41 : decode cX4_init 41 = .ok (.putfield 25, 3) := by decide +kernel
theorem dX4_init_44 : decode cX4_init 44 = .ok (.aload_n 0, 1) := by decide +kernel
theorem dX4_init_45 : decode cX4_init 45 = .ok (.bipush 10, 2) := by decide +kernel
theorem dX4_init_47 : decode cX4_init 47 = .ok (.newarray .int, 2) := by decide +kernel
theorem dX4_init_49 : decode cX4_init 49 = .ok (.putfield 28, 3) := by decide +kernel
theorem dX4_init_52 : decode cX4_init 52 = .ok (.aload_n 0, 1) := by decide +kernel
theorem dX4_init_53 : decode cX4_init 53 = .ok (.bipush 10, 2) := by decide +kernel
theorem dX4_init_55 : decode cX4_init 55 = .ok (.newarray .int, 2) := by decide +kernel
theorem dX4_init_57 : decode cX4_init 57 = .ok (.putfield 31, 3) := by decide +kernel
theorem dX4_init_60 : decode cX4_init 60 = .ok (.aload_n 0, 1) := by decide +kernel
theorem dX4_init_61 : decode cX4_init 61 = .ok (.bipush 10, 2) := by decide +kernel
theorem dX4_init_63 : decode cX4_init 63 = .ok (.newarray .int, 2) := by decide +kernel
theorem dX4_init_65 : decode cX4_init 65 = .ok (.putfield 34, 3) := by decide +kernel
theorem dX4_init_68 : decode cX4_init 68 = .ok (.aload_n 0, 1) := by decide +kernel
theorem dX4_init_69 : decode cX4_init 69 = .ok (.sipush 240, 3) := by decide +kernel
theorem dX4_init_72 : decode cX4_init 72 = .ok (.newarray .int, 2) := by decide +kernel
theorem dX4_init_74 : decode cX4_init 74 = .ok (.putfield 37, 3) := by decide +kernel
theorem dX4_init_77 : decode cX4_init 77 = .ok (.aload_n 0, 1) := by decide +kernel
theorem dX4_init_78 : decode cX4_init 78 = .ok (.sipush 240, 3) := by decide +kernel
theorem dX4_init_81 : decode cX4_init 81 = .ok (.newarray .int, 2) := by decide +kernel
theorem dX4_init_83 : decode cX4_init 83 = .ok (.putfield 40, 3) := by decide +kernel
theorem dX4_init_86 : decode cX4_init 86 = .ok (.aload_n 0, 1) := by decide +kernel
theorem dX4_init_87 : decode cX4_init 87 = .ok (.sipush 240, 3) := by decide +kernel
theorem dX4_init_90 : decode cX4_init 90 = .ok (.newarray .int, 2) := by decide +kernel
theorem dX4_init_92 : decode cX4_init 92 = .ok (.putfield 43, 3) := by decide +kernel
theorem dX4_init_95 : decode cX4_init 95 = .ok (.aload_n 0, 1) := by decide +kernel
theorem dX4_init_96 : decode cX4_init 96 = .ok (.sipush 240, 3) := by decide +kernel
theorem dX4_init_99 : decode cX4_init 99 = .ok (.newarray .int, 2) := by decide +kernel
theorem dX4_init_101 : decode cX4_init 101 = .ok (.putfield 46, 3) := by decide +kernel
theorem dX4_init_104 : decode cX4_init 104 = .ok (.aload_n 0, 1) := by decide +kernel
theorem dX4_init_105 : decode cX4_init 105 = .ok (.bipush 10, 2) := by decide +kernel
theorem dX4_init_107 : decode cX4_init 107 = .ok (.newarray .int, 2) := by decide +kernel
theorem dX4_init_109 : decode cX4_init 109 = .ok (.putfield 49, 3) := by decide +kernel
theorem dX4_init_112 : decode cX4_init 112 = .ok (.aload_n 0, 1) := by decide +kernel
theorem dX4_init_113 : decode cX4_init 113 = .ok (.sipush 160, 3) := by decide +kernel
theorem dX4_init_116 : decode cX4_init 116 = .ok (.newarray .int, 2) := by decide +kernel
theorem dX4_init_118 : decode cX4_init 118 = .ok (.putfield 52, 3) := by decide +kernel
theorem dX4_init_121 : decode cX4_init 121 = .ok (.return_, 1) := by decide +kernel
theorem ct_w115 : (.methodLink RX4 3 objectInit : Cond) ∈ pz_tl := pz_tl_at (i := 115) (by decide +kernel) rfl
theorem ct_w200 : (.arrayClass .int : Cond) ∈ pz_tl := pz_tl_at (i := 200) (by decide +kernel) rfl
theorem ct_w127 : (.fieldLink "PurityEffects$Program" 9 "PurityEffects$Program" "upward" "[I" : Cond) ∈ pz_tl := pz_tl_at (i := 127) (by decide +kernel) rfl
theorem ct_w128 : (.fieldLink "PurityEffects$Program" 15 "PurityEffects$Program" "fieldsOf" "[I" : Cond) ∈ pz_tl := pz_tl_at (i := 128) (by decide +kernel) rfl
theorem ct_w201 : (.arrayClass .boolean : Cond) ∈ pz_tl := pz_tl_at (i := 201) (by decide +kernel) rfl
theorem ct_w130 : (.fieldLink "PurityEffects$Program" 18 "PurityEffects$Program" "fieldRefers" "[Z" : Cond) ∈ pz_tl := pz_tl_at (i := 130) (by decide +kernel) rfl
theorem ct_w132 : (.fieldLink "PurityEffects$Program" 22 "PurityEffects$Program" "staticRefers" "[Z" : Cond) ∈ pz_tl := pz_tl_at (i := 132) (by decide +kernel) rfl
theorem ct_w135 : (.fieldLink "PurityEffects$Program" 25 "PurityEffects$Program" "numberParams" "[I" : Cond) ∈ pz_tl := pz_tl_at (i := 135) (by decide +kernel) rfl
theorem ct_w137 : (.fieldLink "PurityEffects$Program" 28 "PurityEffects$Program" "thingParams" "[I" : Cond) ∈ pz_tl := pz_tl_at (i := 137) (by decide +kernel) rfl
theorem ct_w140 : (.fieldLink "PurityEffects$Program" 31 "PurityEffects$Program" "results" "[I" : Cond) ∈ pz_tl := pz_tl_at (i := 140) (by decide +kernel) rfl
theorem ct_w144 : (.fieldLink "PurityEffects$Program" 34 "PurityEffects$Program" "lineCounts" "[I" : Cond) ∈ pz_tl := pz_tl_at (i := 144) (by decide +kernel) rfl
theorem ct_w148 : (.fieldLink "PurityEffects$Program" 37 "PurityEffects$Program" "ops" "[I" : Cond) ∈ pz_tl := pz_tl_at (i := 148) (by decide +kernel) rfl
theorem ct_w151 : (.fieldLink "PurityEffects$Program" 40 "PurityEffects$Program" "as" "[I" : Cond) ∈ pz_tl := pz_tl_at (i := 151) (by decide +kernel) rfl
theorem ct_w154 : (.fieldLink "PurityEffects$Program" 43 "PurityEffects$Program" "bs" "[I" : Cond) ∈ pz_tl := pz_tl_at (i := 154) (by decide +kernel) rfl
theorem ct_w157 : (.fieldLink "PurityEffects$Program" 46 "PurityEffects$Program" "cs" "[I" : Cond) ∈ pz_tl := pz_tl_at (i := 157) (by decide +kernel) rfl
theorem ct_w160 : (.fieldLink "PurityEffects$Program" 49 "PurityEffects$Program" "catchCounts" "[I" : Cond) ∈ pz_tl := pz_tl_at (i := 160) (by decide +kernel) rfl
theorem ct_w162 : (.fieldLink "PurityEffects$Program" 52 "PurityEffects$Program" "catches" "[I" : Cond) ∈ pz_tl := pz_tl_at (i := 162) (by decide +kernel) rfl
set_option maxRecDepth 1000000 in
theorem ct_w114 : (.code yX4_init cX4_init 1 none : Cond) ∈ pz_tl := pz_tl_at (i := 114) (by rfl) rfl
theorem ct_g4 : GoodIn pz_tl (.code yX4_init cX4_init 1 none :: pz_tl) := pz_GI (fun w hw => (List.mem_cons.mp hw).elim (fun e => e ▸ ct_w114) id)
theorem ct_v4 : ∀ j, j < 18 → defaultValue (tyX4 j) = vp_V [.int 0, .int 0, .int 0, .int 0, .null, .null, .null, .null, .null, .null, .null, .null, .null, .null, .null, .null, .null, .null] j := fun j hj => match j, hj with
  | 0, _ => rfl
  | 1, _ => rfl
  | 2, _ => rfl
  | 3, _ => rfl
  | 4, _ => rfl
  | 5, _ => rfl
  | 6, _ => rfl
  | 7, _ => rfl
  | 8, _ => rfl
  | 9, _ => rfl
  | 10, _ => rfl
  | 11, _ => rfl
  | 12, _ => rfl
  | 13, _ => rfl
  | 14, _ => rfl
  | 15, _ => rfl
  | 16, _ => rfl
  | 17, _ => rfl
  | n + 18, h => absurd h (by omega)
theorem dX5_init_0 : decode cX5_init 0 = .ok (.aload_n 0, 1) := by decide +kernel
theorem dX5_init_1 : decode cX5_init 1 = .ok (.invokespecial 3, 3) := by decide +kernel
theorem dX5_init_4 : decode cX5_init 4 = .ok (.aload_n 0, 1) := by decide +kernel
theorem dX5_init_5 : decode cX5_init 5 = .ok (.bipush 60, 2) := by decide +kernel
theorem dX5_init_7 : decode cX5_init 7 = .ok (.newarray .int, 2) := by decide +kernel
theorem dX5_init_9 : decode cX5_init 9 = .ok (.putfield 9, 3) := by decide +kernel
theorem dX5_init_12 : decode cX5_init 12 = .ok (.aload_n 0, 1) := by decide +kernel
theorem dX5_init_13 : decode cX5_init 13 = .ok (.sipush 960, 3) := by decide +kernel
theorem dX5_init_16 : decode cX5_init 16 = .ok (.newarray .int, 2) := by decide +kernel
theorem dX5_init_18 : decode cX5_init 18 = .ok (.putfield 15, 3) := by decide +kernel
theorem dX5_init_21 : decode cX5_init 21 = .ok (.aload_n 0, 1) := by decide +kernel
theorem dX5_init_22 : decode cX5_init 22 = .ok (.bipush 8, 2) := by decide +kernel
theorem dX5_init_24 : decode cX5_init 24 = .ok (.newarray .int, 2) := by decide +kernel
theorem dX5_init_26 : decode cX5_init 26 = .ok (.putfield 18, 3) := by decide +kernel
theorem dX5_init_29 : decode cX5_init 29 = .ok (.aload_n 0, 1) := by decide +kernel
theorem dX5_init_30 : decode cX5_init 30 = .ok (.sipush 200, 3) := by decide +kernel
theorem dX5_init_33 : decode cX5_init 33 = .ok (.newarray .int, 2) := by decide +kernel
theorem dX5_init_35 : decode cX5_init 35 = .ok (.putfield 21, 3) := by decide +kernel
theorem dX5_init_38 : decode cX5_init 38 = .ok (.return_, 1) := by decide +kernel
theorem ct_w207 : (.methodLink RX5 3 objectInit : Cond) ∈ pz_tl := pz_tl_at (i := 207) (by decide +kernel) rfl
theorem ct_w214 : (.fieldLink "PurityEffects$World" 9 "PurityEffects$World" "kinds" "[I" : Cond) ∈ pz_tl := pz_tl_at (i := 214) (by decide +kernel) rfl
theorem ct_w217 : (.fieldLink "PurityEffects$World" 15 "PurityEffects$World" "slots" "[I" : Cond) ∈ pz_tl := pz_tl_at (i := 217) (by decide +kernel) rfl
theorem ct_w221 : (.fieldLink "PurityEffects$World" 18 "PurityEffects$World" "statics" "[I" : Cond) ∈ pz_tl := pz_tl_at (i := 221) (by decide +kernel) rfl
theorem ct_w225 : (.fieldLink "PurityEffects$World" 21 "PurityEffects$World" "kept" "[I" : Cond) ∈ pz_tl := pz_tl_at (i := 225) (by decide +kernel) rfl
set_option maxRecDepth 1000000 in
theorem ct_w206 : (.code yX5_init cX5_init 1 none : Cond) ∈ pz_tl := pz_tl_at (i := 206) (by rfl) rfl
theorem ct_g5 : GoodIn pz_tl (.code yX5_init cX5_init 1 none :: pz_tl) := pz_GI (fun w hw => (List.mem_cons.mp hw).elim (fun e => e ▸ ct_w206) id)
theorem ct_v5 : ∀ j, j < 6 → defaultValue (tyX5 j) = vp_V [.int 0, .int 0, .null, .null, .null, .null] j := fun j hj => match j, hj with
  | 0, _ => rfl
  | 1, _ => rfl
  | 2, _ => rfl
  | 3, _ => rfl
  | 4, _ => rfl
  | 5, _ => rfl
  | n + 6, h => absurd h (by omega)
theorem dX1_init_0 : decode cX1_init 0 = .ok (.aload_n 0, 1) := by decide +kernel
theorem dX1_init_1 : decode cX1_init 1 = .ok (.invokespecial 3, 3) := by decide +kernel
theorem dX1_init_4 : decode cX1_init 4 = .ok (.aload_n 0, 1) := by decide +kernel
theorem dX1_init_5 : decode cX1_init 5 = .ok (.sipush 240, 3) := by decide +kernel
theorem dX1_init_8 : decode cX1_init 8 = .ok (.newarray .long, 2) := by decide +kernel
theorem dX1_init_10 : decode cX1_init 10 = .ok (.putfield 9, 3) := by decide +kernel
theorem dX1_init_13 : decode cX1_init 13 = .ok (.aload_n 0, 1) := by decide +kernel
theorem dX1_init_14 : decode cX1_init 14 = .ok (.bipush 40, 2) := by decide +kernel
theorem dX1_init_16 : decode cX1_init 16 = .ok (.newarray .int, 2) := by decide +kernel
theorem dX1_init_18 : decode cX1_init 18 = .ok (.putfield 15, 3) := by decide +kernel
theorem dX1_init_21 : decode cX1_init 21 = .ok (.aload_n 0, 1) := by decide +kernel
theorem dX1_init_22 : decode cX1_init 22 = .ok (.bipush 40, 2) := by decide +kernel
theorem dX1_init_24 : decode cX1_init 24 = .ok (.newarray .int, 2) := by decide +kernel
theorem dX1_init_26 : decode cX1_init 26 = .ok (.putfield 19, 3) := by decide +kernel
theorem dX1_init_29 : decode cX1_init 29 = .ok (.aload_n 0, 1) := by decide +kernel
theorem dX1_init_30 : decode cX1_init 30 = .ok (.bipush 10, 2) := by decide +kernel
theorem dX1_init_32 : decode cX1_init 32 = .ok (.newarray .int, 2) := by decide +kernel
theorem dX1_init_34 : decode cX1_init 34 = .ok (.putfield 22, 3) := by decide +kernel
theorem dX1_init_37 : decode cX1_init 37 = .ok (.aload_n 0, 1) := by decide +kernel
theorem dX1_init_38 : decode cX1_init 38 = .ok (.bipush 10, 2) := by decide +kernel
theorem dX1_init_40 : decode cX1_init 40 = .ok (.newarray .int, 2) := by decide +kernel
theorem dX1_init_42 : decode cX1_init 42 = .ok (.putfield 25, 3) := by decide +kernel
theorem dX1_init_45 : decode cX1_init 45 = .ok (.aload_n 0, 1) := by decide +kernel
theorem dX1_init_46 : decode cX1_init 46 = .ok (.bipush 10, 2) := by decide +kernel
theorem dX1_init_48 : decode cX1_init 48 = .ok (.newarray .boolean, 2) := by decide +kernel
theorem dX1_init_50 : decode cX1_init 50 = .ok (.putfield 28, 3) := by decide +kernel
theorem dX1_init_53 : decode cX1_init 53 = .ok (.aload_n 0, 1) := by decide +kernel
theorem dX1_init_54 : decode cX1_init 54 = .ok (.bipush 10, 2) := by decide +kernel
theorem dX1_init_56 : decode cX1_init 56 = .ok (.newarray .boolean, 2) := by decide +kernel
theorem dX1_init_58 : decode cX1_init 58 = .ok (.putfield 32, 3) := by decide +kernel
theorem dX1_init_61 : decode cX1_init 61 = .ok (.aload_n 0, 1) := by decide +kernel
theorem dX1_init_62 : decode cX1_init 62 = .ok (.aload_n 1, 1) := by decide +kernel
theorem dX1_init_63 : decode cX1_init 63 = .ok (.putfield 35, 3) := by decide +kernel
theorem dX1_init_66 : decode cX1_init 66 = .ok (.return_, 1) := by decide +kernel
theorem ct_w246 : (.methodLink RX1 3 objectInit : Cond) ∈ pz_tl := pz_tl_at (i := 246) (by decide +kernel) rfl
theorem ct_w282 : (.arrayClass .long : Cond) ∈ pz_tl := pz_tl_at (i := 282) (by decide +kernel) rfl
theorem ct_w248 : (.fieldLink "PurityEffects$Foresight" 9 "PurityEffects$Foresight" "before" "[J" : Cond) ∈ pz_tl := pz_tl_at (i := 248) (by decide +kernel) rfl
theorem ct_w250 : (.fieldLink "PurityEffects$Foresight" 15 "PurityEffects$Foresight" "reads" "[I" : Cond) ∈ pz_tl := pz_tl_at (i := 250) (by decide +kernel) rfl
theorem ct_w253 : (.fieldLink "PurityEffects$Foresight" 19 "PurityEffects$Foresight" "writes" "[I" : Cond) ∈ pz_tl := pz_tl_at (i := 253) (by decide +kernel) rfl
theorem ct_w256 : (.fieldLink "PurityEffects$Foresight" 22 "PurityEffects$Foresight" "faults" "[I" : Cond) ∈ pz_tl := pz_tl_at (i := 256) (by decide +kernel) rfl
theorem ct_w258 : (.fieldLink "PurityEffects$Foresight" 25 "PurityEffects$Foresight" "results" "[I" : Cond) ∈ pz_tl := pz_tl_at (i := 258) (by decide +kernel) rfl
theorem ct_w259 : (.fieldLink "PurityEffects$Foresight" 28 "PurityEffects$Foresight" "prints" "[Z" : Cond) ∈ pz_tl := pz_tl_at (i := 259) (by decide +kernel) rfl
theorem ct_w261 : (.fieldLink "PurityEffects$Foresight" 32 "PurityEffects$Foresight" "ends" "[Z" : Cond) ∈ pz_tl := pz_tl_at (i := 261) (by decide +kernel) rfl
theorem ct_w247 : (.fieldLink "PurityEffects$Foresight" 35 "PurityEffects$Foresight" "program" "LPurityEffects$Program;" : Cond) ∈ pz_tl := pz_tl_at (i := 247) (by decide +kernel) rfl
set_option maxRecDepth 1000000 in
theorem ct_w245 : (.code yX1_init cX1_init 2 none : Cond) ∈ pz_tl := pz_tl_at (i := 245) (by rfl) rfl
theorem ct_g1 : GoodIn pz_tl (.code yX1_init cX1_init 2 none :: pz_tl) := pz_GI (fun w hw => (List.mem_cons.mp hw).elim (fun e => e ▸ ct_w245) id)
theorem ct_v1 : ∀ j, j < 9 → defaultValue (tyX1 j) = vp_V [.null, .null, .null, .null, .null, .null, .null, .null, .int 0] j := fun j hj => match j, hj with
  | 0, _ => rfl
  | 1, _ => rfl
  | 2, _ => rfl
  | 3, _ => rfl
  | 4, _ => rfl
  | 5, _ => rfl
  | 6, _ => rfl
  | 7, _ => rfl
  | 8, _ => rfl
  | n + 9, h => absurd h (by omega)
theorem dX2_init_0 : decode cX2_init 0 = .ok (.aload_n 0, 1) := by decide +kernel
theorem dX2_init_1 : decode cX2_init 1 = .ok (.invokespecial 3, 3) := by decide +kernel
theorem dX2_init_4 : decode cX2_init 4 = .ok (.aload_n 0, 1) := by decide +kernel
theorem dX2_init_5 : decode cX2_init 5 = .ok (.iconst 4, 1) := by decide +kernel
theorem dX2_init_6 : decode cX2_init 6 = .ok (.newarray .int, 2) := by decide +kernel
theorem dX2_init_8 : decode cX2_init 8 = .ok (.putfield 9, 3) := by decide +kernel
theorem dX2_init_11 : decode cX2_init 11 = .ok (.aload_n 0, 1) := by decide +kernel
theorem dX2_init_12 : decode cX2_init 12 = .ok (.iconst 4, 1) := by decide +kernel
theorem dX2_init_13 : decode cX2_init 13 = .ok (.newarray .int, 2) := by decide +kernel
theorem dX2_init_15 : decode cX2_init 15 = .ok (.putfield 15, 3) := by decide +kernel
theorem dX2_init_18 : decode cX2_init 18 = .ok (.aload_n 0, 1) := by decide +kernel
theorem dX2_init_19 : decode cX2_init 19 = .ok (.bipush 60, 2) := by decide +kernel
theorem dX2_init_21 : decode cX2_init 21 = .ok (.newarray .int, 2) := by decide +kernel
theorem dX2_init_23 : decode cX2_init 23 = .ok (.putfield 18, 3) := by decide +kernel
theorem dX2_init_26 : decode cX2_init 26 = .ok (.aload_n 0, 1) := by decide +kernel
theorem dX2_init_27 : decode cX2_init 27 = .ok (.bipush 60, 2) := by decide +kernel
theorem dX2_init_29 : decode cX2_init 29 = .ok (.newarray .int, 2) := by decide +kernel
theorem dX2_init_31 : decode cX2_init 31 = .ok (.putfield 21, 3) := by decide +kernel
theorem dX2_init_34 : decode cX2_init 34 = .ok (.aload_n 0, 1) := by decide +kernel
theorem dX2_init_35 : decode cX2_init 35 = .ok (.bipush 60, 2) := by decide +kernel
theorem dX2_init_37 : decode cX2_init 37 = .ok (.newarray .int, 2) := by decide +kernel
theorem dX2_init_39 : decode cX2_init 39 = .ok (.putfield 24, 3) := by decide +kernel
theorem dX2_init_42 : decode cX2_init 42 = .ok (.aload_n 0, 1) := by decide +kernel
theorem dX2_init_43 : decode cX2_init 43 = .ok (.aload_n 1, 1) := by decide +kernel
theorem dX2_init_44 : decode cX2_init 44 = .ok (.putfield 27, 3) := by decide +kernel
theorem dX2_init_47 : decode cX2_init 47 = .ok (.aload_n 0, 1) := by decide +kernel
theorem dX2_init_48 : decode cX2_init 48 = .ok (.aload_n 2, 1) := by decide +kernel
theorem dX2_init_49 : decode cX2_init 49 = .ok (.putfield 31, 3) := by decide +kernel
theorem dX2_init_52 : decode cX2_init 52 = .ok (.aload_n 0, 1) := by decide +kernel
theorem dX2_init_53 : decode cX2_init 53 = .ok (.aload_n 3, 1) := by decide +kernel
theorem dX2_init_54 : decode cX2_init 54 = .ok (.putfield 35, 3) := by decide +kernel
theorem dX2_init_57 : decode cX2_init 57 = .ok (.return_, 1) := by decide +kernel
theorem ct_w376 : (.methodLink RX2 3 objectInit : Cond) ∈ pz_tl := pz_tl_at (i := 376) (by decide +kernel) rfl
theorem ct_w380 : (.fieldLink "PurityEffects$Likeness" 9 "PurityEffects$Likeness" "endsOne" "[I" : Cond) ∈ pz_tl := pz_tl_at (i := 380) (by decide +kernel) rfl
theorem ct_w382 : (.fieldLink "PurityEffects$Likeness" 15 "PurityEffects$Likeness" "endsTwo" "[I" : Cond) ∈ pz_tl := pz_tl_at (i := 382) (by decide +kernel) rfl
theorem ct_w384 : (.fieldLink "PurityEffects$Likeness" 18 "PurityEffects$Likeness" "inTwo" "[I" : Cond) ∈ pz_tl := pz_tl_at (i := 384) (by decide +kernel) rfl
theorem ct_w385 : (.fieldLink "PurityEffects$Likeness" 21 "PurityEffects$Likeness" "inOne" "[I" : Cond) ∈ pz_tl := pz_tl_at (i := 385) (by decide +kernel) rfl
theorem ct_w386 : (.fieldLink "PurityEffects$Likeness" 24 "PurityEffects$Likeness" "met" "[I" : Cond) ∈ pz_tl := pz_tl_at (i := 386) (by decide +kernel) rfl
theorem ct_w377 : (.fieldLink "PurityEffects$Likeness" 27 "PurityEffects$Likeness" "program" "LPurityEffects$Program;" : Cond) ∈ pz_tl := pz_tl_at (i := 377) (by decide +kernel) rfl
theorem ct_w378 : (.fieldLink "PurityEffects$Likeness" 31 "PurityEffects$Likeness" "one" "LPurityEffects$World;" : Cond) ∈ pz_tl := pz_tl_at (i := 378) (by decide +kernel) rfl
theorem ct_w379 : (.fieldLink "PurityEffects$Likeness" 35 "PurityEffects$Likeness" "two" "LPurityEffects$World;" : Cond) ∈ pz_tl := pz_tl_at (i := 379) (by decide +kernel) rfl
set_option maxRecDepth 1000000 in
theorem ct_w375 : (.code yX2_init cX2_init 4 none : Cond) ∈ pz_tl := pz_tl_at (i := 375) (by rfl) rfl
theorem ct_g2 : GoodIn pz_tl (.code yX2_init cX2_init 4 none :: pz_tl) := pz_GI (fun w hw => (List.mem_cons.mp hw).elim (fun e => e ▸ ct_w375) id)
theorem ct_v2 : ∀ j, j < 10 → defaultValue (tyX2 j) = vp_V [.null, .null, .null, .null, .null, .null, .null, .null, .int 0, .int 0] j := fun j hj => match j, hj with
  | 0, _ => rfl
  | 1, _ => rfl
  | 2, _ => rfl
  | 3, _ => rfl
  | 4, _ => rfl
  | 5, _ => rfl
  | 6, _ => rfl
  | 7, _ => rfl
  | 8, _ => rfl
  | 9, _ => rfl
  | n + 10, h => absurd h (by omega)
abbrev nw_3_11 : Cond := .methodLinkNest RX3 11 yX0_init "PurityEffects"
theorem dX3_init_0 : decode cX3_init 0 = .ok (.aload_n 0, 1) := by decide +kernel
theorem dX3_init_1 : decode cX3_init 1 = .ok (.invokespecial 3, 3) := by decide +kernel
theorem dX3_init_4 : decode cX3_init 4 = .ok (.aload_n 0, 1) := by decide +kernel
theorem dX3_init_5 : decode cX3_init 5 = .ok (.new 9, 3) := by decide +kernel
theorem dX3_init_8 : decode cX3_init 8 = .ok (.dup, 1) := by decide +kernel
theorem dX3_init_9 : decode cX3_init 9 = .ok (.invokespecial 11, 3) := by decide +kernel
theorem dX3_init_12 : decode cX3_init 12 = .ok (.putfield 12, 3) := by decide +kernel
theorem dX3_init_15 : decode cX3_init 15 = .ok (.aload_n 0, 1) := by decide +kernel
theorem dX3_init_16 : decode cX3_init 16 = .ok (.bipush 12, 2) := by decide +kernel
theorem dX3_init_18 : decode cX3_init 18 = .ok (.newarray .int, 2) := by decide +kernel
theorem dX3_init_20 : decode cX3_init 20 = .ok (.putfield 18, 3) := by decide +kernel
theorem dX3_init_23 : decode cX3_init 23 = .ok (.aload_n 0, 1) := by decide +kernel
theorem dX3_init_24 : decode cX3_init 24 = .ok (.bipush 12, 2) := by decide +kernel
theorem dX3_init_26 : decode cX3_init 26 = .ok (.newarray .int, 2) := by decide +kernel
theorem dX3_init_28 : decode cX3_init 28 = .ok (.putfield 22, 3) := by decide +kernel
theorem dX3_init_31 : decode cX3_init 31 = .ok (.aload_n 0, 1) := by decide +kernel
theorem dX3_init_32 : decode cX3_init 32 = .ok (.bipush 96, 2) := by decide +kernel
theorem dX3_init_34 : decode cX3_init 34 = .ok (.newarray .int, 2) := by decide +kernel
theorem dX3_init_36 : decode cX3_init 36 = .ok (.putfield 25, 3) := by decide +kernel
theorem dX3_init_39 : decode cX3_init 39 = .ok (.aload_n 0, 1) := by decide +kernel
theorem dX3_init_40 : decode cX3_init 40 = .ok (.bipush 96, 2) := by decide +kernel
theorem dX3_init_42 : decode cX3_init 42 = .ok (.newarray .int, 2) := by decide +kernel
theorem dX3_init_44 : decode cX3_init 44 = .ok (.putfield 28, 3) := by decide +kernel
theorem dX3_init_47 : decode cX3_init 47 = .ok (.aload_n 0, 1) := by decide +kernel
theorem dX3_init_48 : decode cX3_init 48 = .ok (.iconst 3, 1) := by decide +kernel
theorem dX3_init_49 : decode cX3_init 49 = .ok (.newarray .int, 2) := by decide +kernel
theorem dX3_init_51 : decode cX3_init 51 = .ok (.putfield 31, 3) := by decide +kernel
theorem dX3_init_54 : decode cX3_init 54 = .ok (.aload_n 0, 1) := by decide +kernel
theorem dX3_init_55 : decode cX3_init 55 = .ok (.aload_n 1, 1) := by decide +kernel
theorem dX3_init_56 : decode cX3_init 56 = .ok (.putfield 34, 3) := by decide +kernel
theorem dX3_init_59 : decode cX3_init 59 = .ok (.aload_n 0, 1) := by decide +kernel
theorem dX3_init_60 : decode cX3_init 60 = .ok (.aload_n 2, 1) := by decide +kernel
theorem dX3_init_61 : decode cX3_init 61 = .ok (.putfield 38, 3) := by decide +kernel
theorem dX3_init_64 : decode cX3_init 64 = .ok (.aload_n 0, 1) := by decide +kernel
theorem dX3_init_65 : decode cX3_init 65 = .ok (.aload_n 3, 1) := by decide +kernel
theorem dX3_init_66 : decode cX3_init 66 = .ok (.putfield 42, 3) := by decide +kernel
theorem dX3_init_69 : decode cX3_init 69 = .ok (.return_, 1) := by decide +kernel
theorem ct_w288 : (.methodLink RX3 3 objectInit : Cond) ∈ pz_tl := pz_tl_at (i := 288) (by decide +kernel) rfl
theorem ct_w289 : (.classLink RX3 9 RX0 : Cond) ∈ pz_tl := pz_tl_at (i := 289) (by decide +kernel) rfl
theorem ct_w290 : (.instantiable RX0 8 : Cond) ∈ pz_tl := pz_tl_at (i := 290) (by decide +kernel) rfl
theorem ct_w97 : (.initialized RX0 : Cond) ∈ pz_tl := pz_tl_at (i := 97) (by decide +kernel) rfl
theorem ct_w292 : (.instanceMethod yX0_init : Cond) ∈ pz_tl := pz_tl_at (i := 292) (by decide +kernel) rfl
theorem ct_w333 : (.fieldLink "PurityEffects$Machine" 12 "PurityEffects$Machine" "deeds" "LPurityEffects$Deeds;" : Cond) ∈ pz_tl := pz_tl_at (i := 333) (by decide +kernel) rfl
theorem ct_w335 : (.fieldLink "PurityEffects$Machine" 18 "PurityEffects$Machine" "methodAt" "[I" : Cond) ∈ pz_tl := pz_tl_at (i := 335) (by decide +kernel) rfl
theorem ct_w336 : (.fieldLink "PurityEffects$Machine" 22 "PurityEffects$Machine" "lineAt" "[I" : Cond) ∈ pz_tl := pz_tl_at (i := 336) (by decide +kernel) rfl
theorem ct_w337 : (.fieldLink "PurityEffects$Machine" 25 "PurityEffects$Machine" "numbers" "[I" : Cond) ∈ pz_tl := pz_tl_at (i := 337) (by decide +kernel) rfl
theorem ct_w338 : (.fieldLink "PurityEffects$Machine" 28 "PurityEffects$Machine" "refs" "[I" : Cond) ∈ pz_tl := pz_tl_at (i := 338) (by decide +kernel) rfl
theorem ct_w343 : (.fieldLink "PurityEffects$Machine" 31 "PurityEffects$Machine" "given" "[I" : Cond) ∈ pz_tl := pz_tl_at (i := 343) (by decide +kernel) rfl
theorem ct_w330 : (.fieldLink "PurityEffects$Machine" 34 "PurityEffects$Machine" "program" "LPurityEffects$Program;" : Cond) ∈ pz_tl := pz_tl_at (i := 330) (by decide +kernel) rfl
theorem ct_w331 : (.fieldLink "PurityEffects$Machine" 38 "PurityEffects$Machine" "world" "LPurityEffects$World;" : Cond) ∈ pz_tl := pz_tl_at (i := 331) (by decide +kernel) rfl
theorem ct_w332 : (.fieldLink "PurityEffects$Machine" 42 "PurityEffects$Machine" "foresight" "LPurityEffects$Foresight;" : Cond) ∈ pz_tl := pz_tl_at (i := 332) (by decide +kernel) rfl
set_option maxRecDepth 1000000 in
theorem ct_w287 : (.code yX3_init cX3_init 4 none : Cond) ∈ pz_tl := pz_tl_at (i := 287) (by rfl) rfl
theorem ct_g3 : GoodIn pz_tl (.code yX3_init cX3_init 4 none :: pz_tl) := pz_GI (fun w hw => (List.mem_cons.mp hw).elim (fun e => e ▸ ct_w287) id)
theorem ct_v3 : ∀ j, j < 13 → defaultValue (tyX3 j) = vp_V [.null, .null, .null, .null, .null, .null, .null, .null, .int 0, .int 0, .int 0, .int 0, .null] j := fun j hj => match j, hj with
  | 0, _ => rfl
  | 1, _ => rfl
  | 2, _ => rfl
  | 3, _ => rfl
  | 4, _ => rfl
  | 5, _ => rfl
  | 6, _ => rfl
  | 7, _ => rfl
  | 8, _ => rfl
  | 9, _ => rfl
  | 10, _ => rfl
  | 11, _ => rfl
  | 12, _ => rfl
  | n + 13, h => absurd h (by omega)
abbrev nw_6_9 : Cond := .methodLinkNest RX6 9 yX4_init "PurityEffects"
abbrev nw_6_18 : Cond := .methodLinkNest RX6 18 yX5_init "PurityEffects"
abbrev nw_6_58 : Cond := .methodLinkNest RX6 58 yX0_init "PurityEffects"
theorem dX6_init_0 : decode cX6_init 0 = .ok (.aload_n 0, 1) := by decide +kernel
theorem dX6_init_1 : decode cX6_init 1 = .ok (.invokespecial 1, 3) := by decide +kernel
theorem dX6_init_4 : decode cX6_init 4 = .ok (.aload_n 0, 1) := by decide +kernel
theorem dX6_init_5 : decode cX6_init 5 = .ok (.new 7, 3) := by decide +kernel
theorem dX6_init_8 : decode cX6_init 8 = .ok (.dup, 1) := by decide +kernel
theorem dX6_init_9 : decode cX6_init 9 = .ok (.invokespecial 9, 3) := by decide +kernel
theorem dX6_init_12 : decode cX6_init 12 = .ok (.putfield 10, 3) := by decide +kernel
theorem dX6_init_15 : decode cX6_init 15 = .ok (.aload_n 0, 1) := by decide +kernel
theorem dX6_init_16 : decode cX6_init 16 = .ok (.new 16, 3) := by decide +kernel
theorem dX6_init_19 : decode cX6_init 19 = .ok (.dup, 1) := by decide +kernel
theorem dX6_init_20 : decode cX6_init 20 = .ok (.invokespecial 18, 3) := by decide +kernel
theorem dX6_init_23 : decode cX6_init 23 = .ok (.putfield 19, 3) := by decide +kernel
theorem dX6_init_26 : decode cX6_init 26 = .ok (.aload_n 0, 1) := by decide +kernel
theorem dX6_init_27 : decode cX6_init 27 = .ok (.new 16, 3) := by decide +kernel
theorem dX6_init_30 : decode cX6_init 30 = .ok (.dup, 1) := by decide +kernel
theorem dX6_init_31 : decode cX6_init 31 = .ok (.invokespecial 18, 3) := by decide +kernel
theorem dX6_init_34 : decode cX6_init 34 = .ok (.putfield 23, 3) := by decide +kernel
theorem dX6_init_37 : decode cX6_init 37 = .ok (.aload_n 0, 1) := by decide +kernel
theorem dX6_init_38 : decode cX6_init 38 = .ok (.new 16, 3) := by decide +kernel
theorem dX6_init_41 : decode cX6_init 41 = .ok (.dup, 1) := by decide +kernel
theorem dX6_init_42 : decode cX6_init 42 = .ok (.invokespecial 18, 3) := by decide +kernel
theorem dX6_init_45 : decode cX6_init 45 = .ok (.putfield 26, 3) := by decide +kernel
theorem dX6_init_48 : decode cX6_init 48 = .ok (.aload_n 0, 1) := by decide +kernel
theorem dX6_init_49 : decode cX6_init 49 = .ok (.new 29, 3) := by decide +kernel
theorem dX6_init_52 : decode cX6_init 52 = .ok (.dup, 1) := by decide +kernel
theorem dX6_init_53 : decode cX6_init 53 = .ok (.aload_n 0, 1) := by decide +kernel
theorem dX6_init_54 : decode cX6_init 54 = .ok (.getfield 10, 3) := by decide +kernel
theorem dX6_init_57 : decode cX6_init 57 = .ok (.invokespecial 31, 3) := by decide +kernel
theorem dX6_init_60 : decode cX6_init 60 = .ok (.putfield 34, 3) := by decide +kernel
theorem dX6_init_63 : decode cX6_init 63 = .ok (.aload_n 0, 1) := by decide +kernel
theorem dX6_init_64 : decode cX6_init 64 = .ok (.new 38, 3) := by decide +kernel
theorem dX6_init_67 : decode cX6_init 67 = .ok (.dup, 1) := by decide +kernel
theorem dX6_init_68 : decode cX6_init 68 = .ok (.aload_n 0, 1) := by decide +kernel
theorem dX6_init_69 : decode cX6_init 69 = .ok (.getfield 10, 3) := by decide +kernel
theorem dX6_init_72 : decode cX6_init 72 = .ok (.aload_n 0, 1) := by decide +kernel
theorem dX6_init_73 : decode cX6_init 73 = .ok (.getfield 19, 3) := by decide +kernel
theorem dX6_init_76 : decode cX6_init 76 = .ok (.aload_n 0, 1) := by decide +kernel
theorem dX6_init_77 : decode cX6_init 77 = .ok (.getfield 34, 3) := by decide +kernel
theorem dX6_init_80 : decode cX6_init 80 = .ok (.invokespecial 40, 3) := by decide +kernel
theorem dX6_init_83 : decode cX6_init 83 = .ok (.putfield 43, 3) := by decide +kernel
theorem dX6_init_86 : decode cX6_init 86 = .ok (.aload_n 0, 1) := by decide +kernel
theorem dX6_init_87 : decode cX6_init 87 = .ok (.new 47, 3) := by decide +kernel
theorem dX6_init_90 : decode cX6_init 90 = .ok (.dup, 1) := by decide +kernel
theorem dX6_init_91 : decode cX6_init 91 = .ok (.aload_n 0, 1) := by decide +kernel
theorem dX6_init_92 : decode cX6_init 92 = .ok (.getfield 10, 3) := by decide +kernel
theorem dX6_init_95 : decode cX6_init 95 = .ok (.aload_n 0, 1) := by decide +kernel
theorem dX6_init_96 : decode cX6_init 96 = .ok (.getfield 26, 3) := by decide +kernel
theorem dX6_init_99 : decode cX6_init 99 = .ok (.aload_n 0, 1) := by decide +kernel
theorem dX6_init_100 : decode cX6_init 100 = .ok (.getfield 19, 3) := by decide +kernel
theorem dX6_init_103 : decode cX6_init 103 = .ok (.invokespecial 49, 3) := by decide +kernel
theorem dX6_init_106 : decode cX6_init 106 = .ok (.putfield 52, 3) := by decide +kernel
theorem dX6_init_109 : decode cX6_init 109 = .ok (.aload_n 0, 1) := by decide +kernel
theorem dX6_init_110 : decode cX6_init 110 = .ok (.new 56, 3) := by decide +kernel
theorem dX6_init_113 : decode cX6_init 113 = .ok (.dup, 1) := by decide +kernel
theorem dX6_init_114 : decode cX6_init 114 = .ok (.invokespecial 58, 3) := by decide +kernel
theorem dX6_init_117 : decode cX6_init 117 = .ok (.putfield 59, 3) := by decide +kernel
theorem dX6_init_120 : decode cX6_init 120 = .ok (.aload_n 0, 1) := by decide +kernel
theorem dX6_init_121 : decode cX6_init 121 = .ok (.bipush 6, 2) := by decide +kernel
theorem dX6_init_123 : decode cX6_init 123 = .ok (.newarray .int, 2) := by decide +kernel
theorem dX6_init_125 : decode cX6_init 125 = .ok (.putfield 63, 3) := by decide +kernel
theorem dX6_init_128 : decode cX6_init 128 = .ok (.aload_n 0, 1) := by decide +kernel
theorem dX6_init_129 : decode cX6_init 129 = .ok (.bipush 6, 2) := by decide +kernel
theorem dX6_init_131 : decode cX6_init 131 = .ok (.newarray .int, 2) := by decide +kernel
theorem dX6_init_133 : decode cX6_init 133 = .ok (.putfield 67, 3) := by decide +kernel
theorem dX6_init_136 : decode cX6_init 136 = .ok (.iconst 0, 1) := by decide +kernel
theorem dX6_init_137 : decode cX6_init 137 = .ok (.istore_n 1, 1) := by decide +kernel
theorem dX6_init_138 : decode cX6_init 138 = .ok (.iload_n 1, 1) := by decide +kernel
theorem dX6_init_139 : decode cX6_init 139 = .ok (.bipush 6, 2) := by decide +kernel
theorem dX6_init_141 : decode cX6_init 141 = .ok (.if_icmp .ge 16, 3) := by decide +kernel
theorem dX6_init_144 : decode cX6_init 144 = .ok (.aload_n 0, 1) := by decide +kernel
theorem dX6_init_145 : decode cX6_init 145 = .ok (.getfield 67, 3) := by decide +kernel
theorem dX6_init_148 : decode cX6_init 148 = .ok (.iload_n 1, 1) := by decide +kernel
theorem dX6_init_149 : decode cX6_init 149 = .ok (.iconst (-1), 1) := by decide +kernel
theorem dX6_init_150 : decode cX6_init 150 = .ok (.iastore, 1) := by decide +kernel
theorem dX6_init_151 : decode cX6_init 151 = .ok (.iinc 1 1, 3) := by decide +kernel
theorem dX6_init_154 : decode cX6_init 154 = .ok (.goto (-16), 3) := by decide +kernel
theorem dX6_init_157 : decode cX6_init 157 = .ok (.return_, 1) := by decide +kernel
theorem ct_w107 : (.methodLink RX6 1 objectInit : Cond) ∈ pz_tl := pz_tl_at (i := 107) (by decide +kernel) rfl
theorem ct_w110 : (.classLink RX6 7 RX4 : Cond) ∈ pz_tl := pz_tl_at (i := 110) (by decide +kernel) rfl
theorem ct_w111 : (.instantiable RX4 18 : Cond) ∈ pz_tl := pz_tl_at (i := 111) (by decide +kernel) rfl
theorem ct_w93 : (.initialized RX4 : Cond) ∈ pz_tl := pz_tl_at (i := 93) (by decide +kernel) rfl
theorem ct_w113 : (.instanceMethod yX4_init : Cond) ∈ pz_tl := pz_tl_at (i := 113) (by decide +kernel) rfl
theorem ct_w412 : (.fieldLink "PurityEffects" 10 "PurityEffects" "program" "LPurityEffects$Program;" : Cond) ∈ pz_tl := pz_tl_at (i := 412) (by decide +kernel) rfl
theorem ct_w202 : (.classLink RX6 16 RX5 : Cond) ∈ pz_tl := pz_tl_at (i := 202) (by decide +kernel) rfl
theorem ct_w203 : (.instantiable RX5 6 : Cond) ∈ pz_tl := pz_tl_at (i := 203) (by decide +kernel) rfl
theorem ct_w94 : (.initialized RX5 : Cond) ∈ pz_tl := pz_tl_at (i := 94) (by decide +kernel) rfl
theorem ct_w205 : (.instanceMethod yX5_init : Cond) ∈ pz_tl := pz_tl_at (i := 205) (by decide +kernel) rfl
theorem ct_w413 : (.fieldLink "PurityEffects" 19 "PurityEffects" "world" "LPurityEffects$World;" : Cond) ∈ pz_tl := pz_tl_at (i := 413) (by decide +kernel) rfl
theorem ct_w414 : (.fieldLink "PurityEffects" 23 "PurityEffects" "before" "LPurityEffects$World;" : Cond) ∈ pz_tl := pz_tl_at (i := 414) (by decide +kernel) rfl
theorem ct_w415 : (.fieldLink "PurityEffects" 26 "PurityEffects" "otherEnd" "LPurityEffects$World;" : Cond) ∈ pz_tl := pz_tl_at (i := 415) (by decide +kernel) rfl
theorem ct_w241 : (.classLink RX6 29 RX1 : Cond) ∈ pz_tl := pz_tl_at (i := 241) (by decide +kernel) rfl
theorem ct_w242 : (.instantiable RX1 9 : Cond) ∈ pz_tl := pz_tl_at (i := 242) (by decide +kernel) rfl
theorem ct_w95 : (.initialized RX1 : Cond) ∈ pz_tl := pz_tl_at (i := 95) (by decide +kernel) rfl
theorem ct_w243 : (.methodLink RX6 31 yX1_init : Cond) ∈ pz_tl := pz_tl_at (i := 243) (by decide +kernel) rfl
theorem ct_w244 : (.instanceMethod yX1_init : Cond) ∈ pz_tl := pz_tl_at (i := 244) (by decide +kernel) rfl
theorem ct_w416 : (.fieldLink "PurityEffects" 34 "PurityEffects" "foresight" "LPurityEffects$Foresight;" : Cond) ∈ pz_tl := pz_tl_at (i := 416) (by decide +kernel) rfl
theorem ct_w283 : (.classLink RX6 38 RX3 : Cond) ∈ pz_tl := pz_tl_at (i := 283) (by decide +kernel) rfl
theorem ct_w284 : (.instantiable RX3 13 : Cond) ∈ pz_tl := pz_tl_at (i := 284) (by decide +kernel) rfl
theorem ct_w96 : (.initialized RX3 : Cond) ∈ pz_tl := pz_tl_at (i := 96) (by decide +kernel) rfl
theorem ct_w285 : (.methodLink RX6 40 yX3_init : Cond) ∈ pz_tl := pz_tl_at (i := 285) (by decide +kernel) rfl
theorem ct_w286 : (.instanceMethod yX3_init : Cond) ∈ pz_tl := pz_tl_at (i := 286) (by decide +kernel) rfl
theorem ct_w417 : (.fieldLink "PurityEffects" 43 "PurityEffects" "machine" "LPurityEffects$Machine;" : Cond) ∈ pz_tl := pz_tl_at (i := 417) (by decide +kernel) rfl
theorem ct_w371 : (.classLink RX6 47 RX2 : Cond) ∈ pz_tl := pz_tl_at (i := 371) (by decide +kernel) rfl
theorem ct_w372 : (.instantiable RX2 10 : Cond) ∈ pz_tl := pz_tl_at (i := 372) (by decide +kernel) rfl
theorem ct_w98 : (.initialized RX2 : Cond) ∈ pz_tl := pz_tl_at (i := 98) (by decide +kernel) rfl
theorem ct_w373 : (.methodLink RX6 49 yX2_init : Cond) ∈ pz_tl := pz_tl_at (i := 373) (by decide +kernel) rfl
theorem ct_w374 : (.instanceMethod yX2_init : Cond) ∈ pz_tl := pz_tl_at (i := 374) (by decide +kernel) rfl
theorem ct_w418 : (.fieldLink "PurityEffects" 52 "PurityEffects" "likeness" "LPurityEffects$Likeness;" : Cond) ∈ pz_tl := pz_tl_at (i := 418) (by decide +kernel) rfl
theorem ct_w410 : (.classLink RX6 56 RX0 : Cond) ∈ pz_tl := pz_tl_at (i := 410) (by decide +kernel) rfl
theorem ct_w419 : (.fieldLink "PurityEffects" 59 "PurityEffects" "latest" "LPurityEffects$Deeds;" : Cond) ∈ pz_tl := pz_tl_at (i := 419) (by decide +kernel) rfl
theorem ct_w420 : (.fieldLink "PurityEffects" 63 "PurityEffects" "numberArgs" "[I" : Cond) ∈ pz_tl := pz_tl_at (i := 420) (by decide +kernel) rfl
theorem ct_w421 : (.fieldLink "PurityEffects" 67 "PurityEffects" "thingArgs" "[I" : Cond) ∈ pz_tl := pz_tl_at (i := 421) (by decide +kernel) rfl
set_option maxRecDepth 1000000 in
theorem ct_w106 : (.code yX6_init cX6_init 2 none : Cond) ∈ pz_tl := pz_tl_at (i := 106) (by rfl) rfl
theorem ct_g6 : GoodIn pz_tl (.code yX6_init cX6_init 2 none :: pz_tl) := pz_GI (fun w hw => (List.mem_cons.mp hw).elim (fun e => e ▸ ct_w106) id)
theorem ct_v6 : ∀ j, j < 11 → defaultValue (tyX6 j) = vp_V [.null, .null, .null, .null, .null, .null, .null, .null, .null, .null, .int 0] j := fun j hj => match j, hj with
  | 0, _ => rfl
  | 1, _ => rfl
  | 2, _ => rfl
  | 3, _ => rfl
  | 4, _ => rfl
  | 5, _ => rfl
  | 6, _ => rfl
  | 7, _ => rfl
  | 8, _ => rfl
  | 9, _ => rfl
  | 10, _ => rfl
  | n + 11, h => absurd h (by omega)
theorem dX7_init_0 : decode cX7_init 0 = .ok (.aload_n 0, 1) := by decide +kernel
theorem dX7_init_1 : decode cX7_init 1 = .ok (.invokespecial 1, 3) := by decide +kernel
theorem dX7_init_4 : decode cX7_init 4 = .ok (.aload_n 0, 1) := by decide +kernel
theorem dX7_init_5 : decode cX7_init 5 = .ok (.bipush 8, 2) := by decide +kernel
theorem dX7_init_7 : decode cX7_init 7 = .ok (.newarray .int, 2) := by decide +kernel
theorem dX7_init_9 : decode cX7_init 9 = .ok (.putfield 7, 3) := by decide +kernel
theorem dX7_init_12 : decode cX7_init 12 = .ok (.aload_n 0, 1) := by decide +kernel
theorem dX7_init_13 : decode cX7_init 13 = .ok (.bipush 16, 2) := by decide +kernel
theorem dX7_init_15 : decode cX7_init 15 = .ok (.newarray .int, 2) := by decide +kernel
theorem dX7_init_17 : decode cX7_init 17 = .ok (.putfield 13, 3) := by decide +kernel
theorem dX7_init_20 : decode cX7_init 20 = .ok (.aload_n 0, 1) := by decide +kernel
theorem dX7_init_21 : decode cX7_init 21 = .ok (.bipush 16, 2) := by decide +kernel
theorem dX7_init_23 : decode cX7_init 23 = .ok (.newarray .boolean, 2) := by decide +kernel
theorem dX7_init_25 : decode cX7_init 25 = .ok (.putfield 16, 3) := by decide +kernel
theorem dX7_init_28 : decode cX7_init 28 = .ok (.aload_n 0, 1) := by decide +kernel
theorem dX7_init_29 : decode cX7_init 29 = .ok (.bipush 8, 2) := by decide +kernel
theorem dX7_init_31 : decode cX7_init 31 = .ok (.newarray .boolean, 2) := by decide +kernel
theorem dX7_init_33 : decode cX7_init 33 = .ok (.putfield 20, 3) := by decide +kernel
theorem dX7_init_36 : decode cX7_init 36 = .ok (.aload_n 0, 1) := by decide +kernel
theorem dX7_init_37 : decode cX7_init 37 = .ok (.bipush 10, 2) := by decide +kernel
theorem dX7_init_39 : decode cX7_init 39 = .ok (.newarray .int, 2) := by decide +kernel
theorem dX7_init_41 : decode cX7_init 41 = .ok (.putfield 23, 3) := by decide +kernel
theorem dX7_init_44 : decode cX7_init 44 = .ok (.aload_n 0, 1) := by decide +kernel
theorem dX7_init_45 : decode cX7_init 45 = .ok (.bipush 10, 2) := by decide +kernel
theorem dX7_init_47 : decode cX7_init 47 = .ok (.newarray .int, 2) := by decide +kernel
theorem dX7_init_49 : decode cX7_init 49 = .ok (.putfield 26, 3) := by decide +kernel
theorem dX7_init_52 : decode cX7_init 52 = .ok (.aload_n 0, 1) := by decide +kernel
theorem dX7_init_53 : decode cX7_init 53 = .ok (.bipush 10, 2) := by decide +kernel
theorem dX7_init_55 : decode cX7_init 55 = .ok (.newarray .int, 2) := by decide +kernel
theorem dX7_init_57 : decode cX7_init 57 = .ok (.putfield 29, 3) := by decide +kernel
theorem dX7_init_60 : decode cX7_init 60 = .ok (.aload_n 0, 1) := by decide +kernel
theorem dX7_init_61 : decode cX7_init 61 = .ok (.bipush 10, 2) := by decide +kernel
theorem dX7_init_63 : decode cX7_init 63 = .ok (.newarray .int, 2) := by decide +kernel
theorem dX7_init_65 : decode cX7_init 65 = .ok (.putfield 32, 3) := by decide +kernel
theorem dX7_init_68 : decode cX7_init 68 = .ok (.aload_n 0, 1) := by decide +kernel
theorem dX7_init_69 : decode cX7_init 69 = .ok (.sipush 240, 3) := by decide +kernel
theorem dX7_init_72 : decode cX7_init 72 = .ok (.newarray .int, 2) := by decide +kernel
theorem dX7_init_74 : decode cX7_init 74 = .ok (.putfield 35, 3) := by decide +kernel
theorem dX7_init_77 : decode cX7_init 77 = .ok (.aload_n 0, 1) := by decide +kernel
theorem dX7_init_78 : decode cX7_init 78 = .ok (.sipush 240, 3) := by decide +kernel
theorem dX7_init_81 : decode cX7_init 81 = .ok (.newarray .int, 2) := by decide +kernel
theorem dX7_init_83 : decode cX7_init 83 = .ok (.putfield 38, 3) := by decide +kernel
theorem dX7_init_86 : decode cX7_init 86 = .ok (.aload_n 0, 1) := by decide +kernel
theorem dX7_init_87 : decode cX7_init 87 = .ok (.sipush 240, 3) := by decide +kernel
theorem dX7_init_90 : decode cX7_init 90 = .ok (.newarray .int, 2) := by decide +kernel
theorem dX7_init_92 : decode cX7_init 92 = .ok (.putfield 41, 3) := by decide +kernel
theorem dX7_init_95 : decode cX7_init 95 = .ok (.aload_n 0, 1) := by decide +kernel
theorem dX7_init_96 : decode cX7_init 96 = .ok (.sipush 240, 3) := by decide +kernel
theorem dX7_init_99 : decode cX7_init 99 = .ok (.newarray .int, 2) := by decide +kernel
theorem dX7_init_101 : decode cX7_init 101 = .ok (.putfield 44, 3) := by decide +kernel
theorem dX7_init_104 : decode cX7_init 104 = .ok (.aload_n 0, 1) := by decide +kernel
theorem dX7_init_105 : decode cX7_init 105 = .ok (.bipush 10, 2) := by decide +kernel
theorem dX7_init_107 : decode cX7_init 107 = .ok (.newarray .int, 2) := by decide +kernel
theorem dX7_init_109 : decode cX7_init 109 = .ok (.putfield 47, 3) := by decide +kernel
theorem dX7_init_112 : decode cX7_init 112 = .ok (.aload_n 0, 1) := by decide +kernel
theorem dX7_init_113 : decode cX7_init 113 = .ok (.bipush 40, 2) := by decide +kernel
theorem dX7_init_115 : decode cX7_init 115 = .ok (.newarray .int, 2) := by decide +kernel
theorem dX7_init_117 : decode cX7_init 117 = .ok (.putfield 50, 3) := by decide +kernel
theorem dX7_init_120 : decode cX7_init 120 = .ok (.aload_n 0, 1) := by decide +kernel
theorem dX7_init_121 : decode cX7_init 121 = .ok (.bipush 40, 2) := by decide +kernel
theorem dX7_init_123 : decode cX7_init 123 = .ok (.newarray .int, 2) := by decide +kernel
theorem dX7_init_125 : decode cX7_init 125 = .ok (.putfield 53, 3) := by decide +kernel
theorem dX7_init_128 : decode cX7_init 128 = .ok (.aload_n 0, 1) := by decide +kernel
theorem dX7_init_129 : decode cX7_init 129 = .ok (.bipush 40, 2) := by decide +kernel
theorem dX7_init_131 : decode cX7_init 131 = .ok (.newarray .int, 2) := by decide +kernel
theorem dX7_init_133 : decode cX7_init 133 = .ok (.putfield 56, 3) := by decide +kernel
theorem dX7_init_136 : decode cX7_init 136 = .ok (.aload_n 0, 1) := by decide +kernel
theorem dX7_init_137 : decode cX7_init 137 = .ok (.bipush 40, 2) := by decide +kernel
theorem dX7_init_139 : decode cX7_init 139 = .ok (.newarray .int, 2) := by decide +kernel
theorem dX7_init_141 : decode cX7_init 141 = .ok (.putfield 59, 3) := by decide +kernel
theorem dX7_init_144 : decode cX7_init 144 = .ok (.aload_n 0, 1) := by decide +kernel
theorem dX7_init_145 : decode cX7_init 145 = .ok (.bipush 60, 2) := by decide +kernel
theorem dX7_init_147 : decode cX7_init 147 = .ok (.newarray .int, 2) := by decide +kernel
theorem dX7_init_149 : decode cX7_init 149 = .ok (.putfield 62, 3) := by decide +kernel
theorem dX7_init_152 : decode cX7_init 152 = .ok (.aload_n 0, 1) := by decide +kernel
theorem dX7_init_153 : decode cX7_init 153 = .ok (.bipush 60, 2) := by decide +kernel
theorem dX7_init_155 : decode cX7_init 155 = .ok (.newarray .int, 2) := by decide +kernel
theorem dX7_init_157 : decode cX7_init 157 = .ok (.putfield 65, 3) := by decide +kernel
theorem dX7_init_160 : decode cX7_init 160 = .ok (.aload_n 0, 1) := by decide +kernel
theorem dX7_init_161 : decode cX7_init 161 = .ok (.sipush 960, 3) := by decide +kernel
theorem dX7_init_164 : decode cX7_init 164 = .ok (.newarray .int, 2) := by decide +kernel
theorem dX7_init_166 : decode cX7_init 166 = .ok (.putfield 68, 3) := by decide +kernel
theorem dX7_init_169 : decode cX7_init 169 = .ok (.aload_n 0, 1) := by decide +kernel
theorem dX7_init_170 : decode cX7_init 170 = .ok (.bipush 8, 2) := by decide +kernel
theorem dX7_init_172 : decode cX7_init 172 = .ok (.newarray .int, 2) := by decide +kernel
theorem dX7_init_174 : decode cX7_init 174 = .ok (.putfield 71, 3) := by decide +kernel
theorem dX7_init_177 : decode cX7_init 177 = .ok (.aload_n 0, 1) := by decide +kernel
theorem dX7_init_178 : decode cX7_init 178 = .ok (.sipush 200, 3) := by decide +kernel
theorem dX7_init_181 : decode cX7_init 181 = .ok (.newarray .int, 2) := by decide +kernel
theorem dX7_init_183 : decode cX7_init 183 = .ok (.putfield 74, 3) := by decide +kernel
theorem dX7_init_186 : decode cX7_init 186 = .ok (.aload_n 0, 1) := by decide +kernel
theorem dX7_init_187 : decode cX7_init 187 = .ok (.bipush 6, 2) := by decide +kernel
theorem dX7_init_189 : decode cX7_init 189 = .ok (.newarray .int, 2) := by decide +kernel
theorem dX7_init_191 : decode cX7_init 191 = .ok (.putfield 77, 3) := by decide +kernel
theorem dX7_init_194 : decode cX7_init 194 = .ok (.aload_n 0, 1) := by decide +kernel
theorem dX7_init_195 : decode cX7_init 195 = .ok (.bipush 6, 2) := by decide +kernel
theorem dX7_init_197 : decode cX7_init 197 = .ok (.newarray .int, 2) := by decide +kernel
theorem dX7_init_199 : decode cX7_init 199 = .ok (.putfield 80, 3) := by decide +kernel
theorem dX7_init_202 : decode cX7_init 202 = .ok (.aload_n 0, 1) := by decide +kernel
theorem dX7_init_203 : decode cX7_init 203 = .ok (.sipush 2000, 3) := by decide +kernel
theorem dX7_init_206 : decode cX7_init 206 = .ok (.newarray .int, 2) := by decide +kernel
theorem dX7_init_208 : decode cX7_init 208 = .ok (.putfield 83, 3) := by decide +kernel
theorem dX7_init_211 : decode cX7_init 211 = .ok (.aload_n 0, 1) := by decide +kernel
theorem dX7_init_212 : decode cX7_init 212 = .ok (.sipush 250, 3) := by decide +kernel
theorem dX7_init_215 : decode cX7_init 215 = .ok (.newarray .boolean, 2) := by decide +kernel
theorem dX7_init_217 : decode cX7_init 217 = .ok (.putfield 86, 3) := by decide +kernel
theorem dX7_init_220 : decode cX7_init 220 = .ok (.aload_n 0, 1) := by decide +kernel
theorem dX7_init_221 : decode cX7_init 221 = .ok (.bipush 10, 2) := by decide +kernel
theorem dX7_init_223 : decode cX7_init 223 = .ok (.newarray .boolean, 2) := by decide +kernel
theorem dX7_init_225 : decode cX7_init 225 = .ok (.putfield 89, 3) := by decide +kernel
theorem dX7_init_228 : decode cX7_init 228 = .ok (.aload_n 0, 1) := by decide +kernel
theorem dX7_init_229 : decode cX7_init 229 = .ok (.bipush 10, 2) := by decide +kernel
theorem dX7_init_231 : decode cX7_init 231 = .ok (.newarray .boolean, 2) := by decide +kernel
theorem dX7_init_233 : decode cX7_init 233 = .ok (.putfield 92, 3) := by decide +kernel
theorem dX7_init_236 : decode cX7_init 236 = .ok (.aload_n 0, 1) := by decide +kernel
theorem dX7_init_237 : decode cX7_init 237 = .ok (.bipush 10, 2) := by decide +kernel
theorem dX7_init_239 : decode cX7_init 239 = .ok (.newarray .int, 2) := by decide +kernel
theorem dX7_init_241 : decode cX7_init 241 = .ok (.putfield 95, 3) := by decide +kernel
theorem dX7_init_244 : decode cX7_init 244 = .ok (.aload_n 0, 1) := by decide +kernel
theorem dX7_init_245 : decode cX7_init 245 = .ok (.bipush 10, 2) := by decide +kernel
theorem dX7_init_247 : decode cX7_init 247 = .ok (.newarray .int, 2) := by decide +kernel
theorem dX7_init_249 : decode cX7_init 249 = .ok (.putfield 98, 3) := by decide +kernel
theorem dX7_init_252 : decode cX7_init 252 = .ok (.aload_n 0, 1) := by decide +kernel
theorem dX7_init_253 : decode cX7_init 253 = .ok (.bipush 40, 2) := by decide +kernel
theorem dX7_init_255 : decode cX7_init 255 = .ok (.newarray .int, 2) := by decide +kernel
theorem dX7_init_257 : decode cX7_init 257 = .ok (.putfield 101, 3) := by decide +kernel
theorem dX7_init_260 : decode cX7_init 260 = .ok (.aload_n 0, 1) := by decide +kernel
theorem dX7_init_261 : decode cX7_init 261 = .ok (.bipush 40, 2) := by decide +kernel
theorem dX7_init_263 : decode cX7_init 263 = .ok (.newarray .int, 2) := by decide +kernel
theorem dX7_init_265 : decode cX7_init 265 = .ok (.putfield 104, 3) := by decide +kernel
theorem dX7_init_268 : decode cX7_init 268 = .ok (.aload_n 0, 1) := by decide +kernel
theorem dX7_init_269 : decode cX7_init 269 = .ok (.bipush 8, 2) := by decide +kernel
theorem dX7_init_271 : decode cX7_init 271 = .ok (.newarray .int, 2) := by decide +kernel
theorem dX7_init_273 : decode cX7_init 273 = .ok (.putfield 107, 3) := by decide +kernel
theorem dX7_init_276 : decode cX7_init 276 = .ok (.aload_n 0, 1) := by decide +kernel
theorem dX7_init_277 : decode cX7_init 277 = .ok (.bipush 12, 2) := by decide +kernel
theorem dX7_init_279 : decode cX7_init 279 = .ok (.newarray .int, 2) := by decide +kernel
theorem dX7_init_281 : decode cX7_init 281 = .ok (.putfield 110, 3) := by decide +kernel
theorem dX7_init_284 : decode cX7_init 284 = .ok (.aload_n 0, 1) := by decide +kernel
theorem dX7_init_285 : decode cX7_init 285 = .ok (.bipush 12, 2) := by decide +kernel
theorem dX7_init_287 : decode cX7_init 287 = .ok (.newarray .int, 2) := by decide +kernel
theorem dX7_init_289 : decode cX7_init 289 = .ok (.putfield 113, 3) := by decide +kernel
theorem dX7_init_292 : decode cX7_init 292 = .ok (.aload_n 0, 1) := by decide +kernel
theorem dX7_init_293 : decode cX7_init 293 = .ok (.bipush 96, 2) := by decide +kernel
theorem dX7_init_295 : decode cX7_init 295 = .ok (.newarray .int, 2) := by decide +kernel
theorem dX7_init_297 : decode cX7_init 297 = .ok (.putfield 116, 3) := by decide +kernel
theorem dX7_init_300 : decode cX7_init 300 = .ok (.aload_n 0, 1) := by decide +kernel
theorem dX7_init_301 : decode cX7_init 301 = .ok (.bipush 96, 2) := by decide +kernel
theorem dX7_init_303 : decode cX7_init 303 = .ok (.newarray .int, 2) := by decide +kernel
theorem dX7_init_305 : decode cX7_init 305 = .ok (.putfield 119, 3) := by decide +kernel
theorem dX7_init_308 : decode cX7_init 308 = .ok (.aload_n 0, 1) := by decide +kernel
theorem dX7_init_309 : decode cX7_init 309 = .ok (.bipush 60, 2) := by decide +kernel
theorem dX7_init_311 : decode cX7_init 311 = .ok (.newarray .int, 2) := by decide +kernel
theorem dX7_init_313 : decode cX7_init 313 = .ok (.putfield 122, 3) := by decide +kernel
theorem dX7_init_316 : decode cX7_init 316 = .ok (.aload_n 0, 1) := by decide +kernel
theorem dX7_init_317 : decode cX7_init 317 = .ok (.bipush 60, 2) := by decide +kernel
theorem dX7_init_319 : decode cX7_init 319 = .ok (.newarray .int, 2) := by decide +kernel
theorem dX7_init_321 : decode cX7_init 321 = .ok (.putfield 125, 3) := by decide +kernel
theorem dX7_init_324 : decode cX7_init 324 = .ok (.aload_n 0, 1) := by decide +kernel
theorem dX7_init_325 : decode cX7_init 325 = .ok (.sipush 1300, 3) := by decide +kernel
theorem dX7_init_328 : decode cX7_init 328 = .ok (.newarray .int, 2) := by decide +kernel
theorem dX7_init_330 : decode cX7_init 330 = .ok (.putfield 128, 3) := by decide +kernel
theorem dX7_init_333 : decode cX7_init 333 = .ok (.aload_n 0, 1) := by decide +kernel
theorem dX7_init_334 : decode cX7_init 334 = .ok (.sipush 1300, 3) := by decide +kernel
theorem dX7_init_337 : decode cX7_init 337 = .ok (.newarray .int, 2) := by decide +kernel
theorem dX7_init_339 : decode cX7_init 339 = .ok (.putfield 131, 3) := by decide +kernel
theorem dX7_init_342 : decode cX7_init 342 = .ok (.aload_n 0, 1) := by decide +kernel
theorem dX7_init_343 : decode cX7_init 343 = .ok (.bipush 6, 2) := by decide +kernel
theorem dX7_init_345 : decode cX7_init 345 = .ok (.newarray .int, 2) := by decide +kernel
theorem dX7_init_347 : decode cX7_init 347 = .ok (.putfield 134, 3) := by decide +kernel
theorem dX7_init_350 : decode cX7_init 350 = .ok (.aload_n 0, 1) := by decide +kernel
theorem dX7_init_351 : decode cX7_init 351 = .ok (.iconst 1, 1) := by decide +kernel
theorem dX7_init_352 : decode cX7_init 352 = .ok (.putfield 137, 3) := by decide +kernel
theorem dX7_init_355 : decode cX7_init 355 = .ok (.aload_n 0, 1) := by decide +kernel
theorem dX7_init_356 : decode cX7_init 356 = .ok (.iconst 4, 1) := by decide +kernel
theorem dX7_init_357 : decode cX7_init 357 = .ok (.newarray .int, 2) := by decide +kernel
theorem dX7_init_359 : decode cX7_init 359 = .ok (.putfield 141, 3) := by decide +kernel
theorem dX7_init_362 : decode cX7_init 362 = .ok (.aload_n 0, 1) := by decide +kernel
theorem dX7_init_363 : decode cX7_init 363 = .ok (.iconst 4, 1) := by decide +kernel
theorem dX7_init_364 : decode cX7_init 364 = .ok (.newarray .int, 2) := by decide +kernel
theorem dX7_init_366 : decode cX7_init 366 = .ok (.putfield 144, 3) := by decide +kernel
theorem dX7_init_369 : decode cX7_init 369 = .ok (.aload_n 0, 1) := by decide +kernel
theorem dX7_init_370 : decode cX7_init 370 = .ok (.bipush 60, 2) := by decide +kernel
theorem dX7_init_372 : decode cX7_init 372 = .ok (.newarray .int, 2) := by decide +kernel
theorem dX7_init_374 : decode cX7_init 374 = .ok (.putfield 147, 3) := by decide +kernel
theorem dX7_init_377 : decode cX7_init 377 = .ok (.aload_n 0, 1) := by decide +kernel
theorem dX7_init_378 : decode cX7_init 378 = .ok (.bipush 60, 2) := by decide +kernel
theorem dX7_init_380 : decode cX7_init 380 = .ok (.newarray .boolean, 2) := by decide +kernel
theorem dX7_init_382 : decode cX7_init 382 = .ok (.putfield 150, 3) := by decide +kernel
theorem dX7_init_385 : decode cX7_init 385 = .ok (.aload_n 0, 1) := by decide +kernel
theorem dX7_init_386 : decode cX7_init 386 = .ok (.bipush 60, 2) := by decide +kernel
theorem dX7_init_388 : decode cX7_init 388 = .ok (.newarray .int, 2) := by decide +kernel
theorem dX7_init_390 : decode cX7_init 390 = .ok (.putfield 153, 3) := by decide +kernel
theorem dX7_init_393 : decode cX7_init 393 = .ok (.return_, 1) := by decide +kernel
theorem ct_w910 : (.methodLink RX7 1 objectInit : Cond) ∈ pz_tl := pz_tl_at (i := 910) (by decide +kernel) rfl
theorem ct_w912 : (.fieldLink "PurityEffectsModel" 7 "PurityEffectsModel" "above" "[I" : Cond) ∈ pz_tl := pz_tl_at (i := 912) (by decide +kernel) rfl
theorem ct_w914 : (.fieldLink "PurityEffectsModel" 13 "PurityEffectsModel" "fieldType" "[I" : Cond) ∈ pz_tl := pz_tl_at (i := 914) (by decide +kernel) rfl
theorem ct_w915 : (.fieldLink "PurityEffectsModel" 16 "PurityEffectsModel" "isRef" "[Z" : Cond) ∈ pz_tl := pz_tl_at (i := 915) (by decide +kernel) rfl
theorem ct_w917 : (.fieldLink "PurityEffectsModel" 20 "PurityEffectsModel" "isRefStatic" "[Z" : Cond) ∈ pz_tl := pz_tl_at (i := 917) (by decide +kernel) rfl
theorem ct_w919 : (.fieldLink "PurityEffectsModel" 23 "PurityEffectsModel" "pOf" "[I" : Cond) ∈ pz_tl := pz_tl_at (i := 919) (by decide +kernel) rfl
theorem ct_w920 : (.fieldLink "PurityEffectsModel" 26 "PurityEffectsModel" "qOf" "[I" : Cond) ∈ pz_tl := pz_tl_at (i := 920) (by decide +kernel) rfl
theorem ct_w921 : (.fieldLink "PurityEffectsModel" 29 "PurityEffectsModel" "resultOf" "[I" : Cond) ∈ pz_tl := pz_tl_at (i := 921) (by decide +kernel) rfl
theorem ct_w922 : (.fieldLink "PurityEffectsModel" 32 "PurityEffectsModel" "lines" "[I" : Cond) ∈ pz_tl := pz_tl_at (i := 922) (by decide +kernel) rfl
theorem ct_w923 : (.fieldLink "PurityEffectsModel" 35 "PurityEffectsModel" "op" "[I" : Cond) ∈ pz_tl := pz_tl_at (i := 923) (by decide +kernel) rfl
theorem ct_w924 : (.fieldLink "PurityEffectsModel" 38 "PurityEffectsModel" "opA" "[I" : Cond) ∈ pz_tl := pz_tl_at (i := 924) (by decide +kernel) rfl
theorem ct_w925 : (.fieldLink "PurityEffectsModel" 41 "PurityEffectsModel" "opB" "[I" : Cond) ∈ pz_tl := pz_tl_at (i := 925) (by decide +kernel) rfl
theorem ct_w926 : (.fieldLink "PurityEffectsModel" 44 "PurityEffectsModel" "opC" "[I" : Cond) ∈ pz_tl := pz_tl_at (i := 926) (by decide +kernel) rfl
theorem ct_w927 : (.fieldLink "PurityEffectsModel" 47 "PurityEffectsModel" "catches" "[I" : Cond) ∈ pz_tl := pz_tl_at (i := 927) (by decide +kernel) rfl
theorem ct_w928 : (.fieldLink "PurityEffectsModel" 50 "PurityEffectsModel" "catchFrom" "[I" : Cond) ∈ pz_tl := pz_tl_at (i := 928) (by decide +kernel) rfl
theorem ct_w929 : (.fieldLink "PurityEffectsModel" 53 "PurityEffectsModel" "catchTo" "[I" : Cond) ∈ pz_tl := pz_tl_at (i := 929) (by decide +kernel) rfl
theorem ct_w930 : (.fieldLink "PurityEffectsModel" 56 "PurityEffectsModel" "catchFault" "[I" : Cond) ∈ pz_tl := pz_tl_at (i := 930) (by decide +kernel) rfl
theorem ct_w931 : (.fieldLink "PurityEffectsModel" 59 "PurityEffectsModel" "catchLine" "[I" : Cond) ∈ pz_tl := pz_tl_at (i := 931) (by decide +kernel) rfl
theorem ct_w934 : (.fieldLink "PurityEffectsModel" 62 "PurityEffectsModel" "kind" "[I" : Cond) ∈ pz_tl := pz_tl_at (i := 934) (by decide +kernel) rfl
theorem ct_w935 : (.fieldLink "PurityEffectsModel" 65 "PurityEffectsModel" "items" "[I" : Cond) ∈ pz_tl := pz_tl_at (i := 935) (by decide +kernel) rfl
theorem ct_w936 : (.fieldLink "PurityEffectsModel" 68 "PurityEffectsModel" "has" "[I" : Cond) ∈ pz_tl := pz_tl_at (i := 936) (by decide +kernel) rfl
theorem ct_w937 : (.fieldLink "PurityEffectsModel" 71 "PurityEffectsModel" "stat" "[I" : Cond) ∈ pz_tl := pz_tl_at (i := 937) (by decide +kernel) rfl
theorem ct_w939 : (.fieldLink "PurityEffectsModel" 74 "PurityEffectsModel" "prints" "[I" : Cond) ∈ pz_tl := pz_tl_at (i := 939) (by decide +kernel) rfl
theorem ct_w940 : (.fieldLink "PurityEffectsModel" 77 "PurityEffectsModel" "numbers" "[I" : Cond) ∈ pz_tl := pz_tl_at (i := 940) (by decide +kernel) rfl
theorem ct_w941 : (.fieldLink "PurityEffectsModel" 80 "PurityEffectsModel" "refs" "[I" : Cond) ∈ pz_tl := pz_tl_at (i := 941) (by decide +kernel) rfl
theorem ct_w942 : (.fieldLink "PurityEffectsModel" 83 "PurityEffectsModel" "mayBe" "[I" : Cond) ∈ pz_tl := pz_tl_at (i := 942) (by decide +kernel) rfl
theorem ct_w943 : (.fieldLink "PurityEffectsModel" 86 "PurityEffectsModel" "isReached" "[Z" : Cond) ∈ pz_tl := pz_tl_at (i := 943) (by decide +kernel) rfl
theorem ct_w944 : (.fieldLink "PurityEffectsModel" 89 "PurityEffectsModel" "ends" "[Z" : Cond) ∈ pz_tl := pz_tl_at (i := 944) (by decide +kernel) rfl
theorem ct_w945 : (.fieldLink "PurityEffectsModel" 92 "PurityEffectsModel" "mayPrint" "[Z" : Cond) ∈ pz_tl := pz_tl_at (i := 945) (by decide +kernel) rfl
theorem ct_w946 : (.fieldLink "PurityEffectsModel" 95 "PurityEffectsModel" "faultsOf" "[I" : Cond) ∈ pz_tl := pz_tl_at (i := 946) (by decide +kernel) rfl
theorem ct_w947 : (.fieldLink "PurityEffectsModel" 98 "PurityEffectsModel" "resultIs" "[I" : Cond) ∈ pz_tl := pz_tl_at (i := 947) (by decide +kernel) rfl
theorem ct_w948 : (.fieldLink "PurityEffectsModel" 101 "PurityEffectsModel" "reads" "[I" : Cond) ∈ pz_tl := pz_tl_at (i := 948) (by decide +kernel) rfl
theorem ct_w949 : (.fieldLink "PurityEffectsModel" 104 "PurityEffectsModel" "writes" "[I" : Cond) ∈ pz_tl := pz_tl_at (i := 949) (by decide +kernel) rfl
theorem ct_w951 : (.fieldLink "PurityEffectsModel" 107 "PurityEffectsModel" "now" "[I" : Cond) ∈ pz_tl := pz_tl_at (i := 951) (by decide +kernel) rfl
theorem ct_w953 : (.fieldLink "PurityEffectsModel" 110 "PurityEffectsModel" "fMethod" "[I" : Cond) ∈ pz_tl := pz_tl_at (i := 953) (by decide +kernel) rfl
theorem ct_w954 : (.fieldLink "PurityEffectsModel" 113 "PurityEffectsModel" "fLine" "[I" : Cond) ∈ pz_tl := pz_tl_at (i := 954) (by decide +kernel) rfl
theorem ct_w955 : (.fieldLink "PurityEffectsModel" 116 "PurityEffectsModel" "fN" "[I" : Cond) ∈ pz_tl := pz_tl_at (i := 955) (by decide +kernel) rfl
theorem ct_w956 : (.fieldLink "PurityEffectsModel" 119 "PurityEffectsModel" "fR" "[I" : Cond) ∈ pz_tl := pz_tl_at (i := 956) (by decide +kernel) rfl
theorem ct_w967 : (.fieldLink "PurityEffectsModel" 122 "PurityEffectsModel" "readOf" "[I" : Cond) ∈ pz_tl := pz_tl_at (i := 967) (by decide +kernel) rfl
theorem ct_w968 : (.fieldLink "PurityEffectsModel" 125 "PurityEffectsModel" "wroteOf" "[I" : Cond) ∈ pz_tl := pz_tl_at (i := 968) (by decide +kernel) rfl
theorem ct_w971 : (.fieldLink "PurityEffectsModel" 128 "PurityEffectsModel" "kept" "[I" : Cond) ∈ pz_tl := pz_tl_at (i := 971) (by decide +kernel) rfl
theorem ct_w972 : (.fieldLink "PurityEffectsModel" 131 "PurityEffectsModel" "first" "[I" : Cond) ∈ pz_tl := pz_tl_at (i := 972) (by decide +kernel) rfl
theorem ct_w974 : (.fieldLink "PurityEffectsModel" 134 "PurityEffectsModel" "didTell" "[I" : Cond) ∈ pz_tl := pz_tl_at (i := 974) (by decide +kernel) rfl
theorem ct_w975 : (.fieldLink "PurityEffectsModel" 137 "PurityEffectsModel" "wasForeseen" "Z" : Cond) ∈ pz_tl := pz_tl_at (i := 975) (by decide +kernel) rfl
theorem ct_w976 : (.fieldLink "PurityEffectsModel" 141 "PurityEffectsModel" "fault2" "[I" : Cond) ∈ pz_tl := pz_tl_at (i := 976) (by decide +kernel) rfl
theorem ct_w977 : (.fieldLink "PurityEffectsModel" 144 "PurityEffectsModel" "result2" "[I" : Cond) ∈ pz_tl := pz_tl_at (i := 977) (by decide +kernel) rfl
theorem ct_w978 : (.fieldLink "PurityEffectsModel" 147 "PurityEffectsModel" "twin" "[I" : Cond) ∈ pz_tl := pz_tl_at (i := 978) (by decide +kernel) rfl
theorem ct_w979 : (.fieldLink "PurityEffectsModel" 150 "PurityEffectsModel" "isTwin" "[Z" : Cond) ∈ pz_tl := pz_tl_at (i := 979) (by decide +kernel) rfl
theorem ct_w980 : (.fieldLink "PurityEffectsModel" 153 "PurityEffectsModel" "work" "[I" : Cond) ∈ pz_tl := pz_tl_at (i := 980) (by decide +kernel) rfl
set_option maxRecDepth 1000000 in
theorem ct_w909 : (.code yX7_init cX7_init 1 none : Cond) ∈ pz_tl := pz_tl_at (i := 909) (by rfl) rfl
theorem ct_g7 : GoodIn pz_tl (.code yX7_init cX7_init 1 none :: pz_tl) := pz_GI (fun w hw => (List.mem_cons.mp hw).elim (fun e => e ▸ ct_w909) id)
theorem ct_v7 : ∀ j, j < 71 → defaultValue (tyX7 j) = vp_V [.int 0, .null, .int 0, .null, .null, .int 0, .null, .int 0, .null, .null, .null, .null, .null, .null, .null, .null, .null, .null, .null, .null, .null, .int 0, .int 0, .null, .null, .null, .null, .int 0, .null, .null, .null, .null, .null, .null, .null, .null, .null, .null, .null, .int 0, .null, .int 0, .null, .null, .null, .null, .int 0, .int 0, .int 0, .int 0, .int 0, .int 0, .int 0, .int 0, .int 0, .int 0, .null, .null, .int 0, .int 0, .null, .null, .int 0, .null, .int 0, .null, .null, .null, .null, .null, .int 0] j := fun j hj => match j, hj with
  | 0, _ => rfl
  | 1, _ => rfl
  | 2, _ => rfl
  | 3, _ => rfl
  | 4, _ => rfl
  | 5, _ => rfl
  | 6, _ => rfl
  | 7, _ => rfl
  | 8, _ => rfl
  | 9, _ => rfl
  | 10, _ => rfl
  | 11, _ => rfl
  | 12, _ => rfl
  | 13, _ => rfl
  | 14, _ => rfl
  | 15, _ => rfl
  | 16, _ => rfl
  | 17, _ => rfl
  | 18, _ => rfl
  | 19, _ => rfl
  | 20, _ => rfl
  | 21, _ => rfl
  | 22, _ => rfl
  | 23, _ => rfl
  | 24, _ => rfl
  | 25, _ => rfl
  | 26, _ => rfl
  | 27, _ => rfl
  | 28, _ => rfl
  | 29, _ => rfl
  | 30, _ => rfl
  | 31, _ => rfl
  | 32, _ => rfl
  | 33, _ => rfl
  | 34, _ => rfl
  | 35, _ => rfl
  | 36, _ => rfl
  | 37, _ => rfl
  | 38, _ => rfl
  | 39, _ => rfl
  | 40, _ => rfl
  | 41, _ => rfl
  | 42, _ => rfl
  | 43, _ => rfl
  | 44, _ => rfl
  | 45, _ => rfl
  | 46, _ => rfl
  | 47, _ => rfl
  | 48, _ => rfl
  | 49, _ => rfl
  | 50, _ => rfl
  | 51, _ => rfl
  | 52, _ => rfl
  | 53, _ => rfl
  | 54, _ => rfl
  | 55, _ => rfl
  | 56, _ => rfl
  | 57, _ => rfl
  | 58, _ => rfl
  | 59, _ => rfl
  | 60, _ => rfl
  | 61, _ => rfl
  | 62, _ => rfl
  | 63, _ => rfl
  | 64, _ => rfl
  | 65, _ => rfl
  | 66, _ => rfl
  | 67, _ => rfl
  | 68, _ => rfl
  | 69, _ => rfl
  | 70, _ => rfl
  | n + 71, h => absurd h (by omega)
