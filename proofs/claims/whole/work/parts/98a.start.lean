/-! THE CLAIM OUT OF ONE WALK OF THE LAW'S BODY. Your part is whole_start (and what it stands on); all else here is the same for every law, but numbers. -/
def R_law : String := "PurityEffectsLaw"
def lw_P (b : Addr) (xs : List Int32) (args : Array Value) (s : State) : Prop := args = #[.ref b] ∧ s.IntsAt b xs ∧ xs.length ≤ 3072 ∧ (Jvm.Cond.and given_1 narrow_1).before args s = true
def lw_Q (_ : Array Value) (s : State) (o : Outcome) (t : State) : Prop := o = .returned (some (.int 1)) ∧ Framed s o t [] 103 13865
def lw_Z (below : List Frame) (a : Array Value) (s : State) : State → Prop := fun t => ∃ o, t.status = .running ∧ Ended t below o ∧ lw_Q a s o t
/-- the law's own end, with 1 on the stack, nothing written that was there before, its room as the claim has it -/
theorem lw_ret {p : Program} {l : Launch} {e : Env} {s : State} {m : MethodId} {below : List Frame} {meth : Method} {c : Code} {b : Nat} (hx : p.tables.exec = Jvm.exec) (hb : c.code = code) (hr : meth.sig.returnType = ret) (hlocks : meth.locks = false) {pc : Nat} {H : Heap} {ls : Array Slot} (hdg : decode code pc = .ok (.ireturn, 1)) : W p l e room_1 s m #[Value.ref b] below meth c H [] 103 13865 (lw_Z below #[Value.ref b] s) (F0 m pc ls [.int 1]) := by
  intro T hT X
  obtain ⟨fs, hret, hrun, hended, hW, hframe⟩ := X.leave (v := some (.int 1)) (hlocks := hlocks) (fun h => by rw [hr] at h; cases h)
  have hmeth' : T.vm.method? m = some meth := X.method'
  refine ⟨T.setFrames fs, ?_, .returned (some (.int 1)), hrun, hended, rfl, ⟨_, rfl⟩, hW, hframe⟩
  jvm_step X.here [X.here.top, hx, hb, hdg, hmeth', hr, ret, narrow_b1]
  (try refine ⟨rfl, ?_⟩); (try refine ⟨rfl, ?_⟩)
  first | (intro acts; rw [hret _ acts rfl rfl rfl]) | rw [hret _ _ rfl rfl rfl]
  exact Steps.refl _
/-- what holds at the law's entry: the machine, the code, the tables' words (any of lw_tbl by 'hts w (by decide +kernel)'), the script of L ints xs at the cell b, what the Statement gives of the start (any of its parts by flat_of_before) -/
def lw_At (p : Program) (s : State) (m : MethodId) (meth : Method) (c : Code) (b L : Nat) (xs : Nat → Int32) : Prop :=
  p.tables.exec = Jvm.exec ∧ c.code = code ∧ meth.sig.returnType = ret ∧ c.maxLocals = 4 ∧ s.vm.findClass R_law = some m.cls ∧ (∀ w ∈ lw_tbl, w.before #[Value.ref b] s = true) ∧ va_X b L xs s s.heap ∧ b < s.heap.size ∧ meth.locks = false ∧ (Jvm.Cond.and given_1 narrow_1).before #[Value.ref b] s = true
/-- all cells, as they are behind the constructors -/
def st_0 (L : Nat) (xs : Nat → Int32) : pz_Sg := (fun k => if k = 1000 then xs else if k = 1001 then (fun _ => Int32.ofNat L) else if k = 54 then (upd (upd (upd (upd (upd (upd (fun _ => 0) 0 (-1)) 1 (-1)) 2 (-1)) 3 (-1)) 4 (-1)) 5 (-1)) else if k = 55 then (fun j => if j = 64 then 1 else 0) else (fun _ => 0), fun _ _ => 0)
def ct_W (cA : FieldType → ClassId) (ad : Nat → Nat) : va_W := [((ad 0), .inr (6, [.ref (ad 1), .ref (ad 16), .ref (ad 21), .ref (ad 26), .ref (ad 31), .ref (ad 39), .ref (ad 46), .ref (ad 52), .ref (ad 53), .ref (ad 54), .int 0])),
  ((ad 1), .inr (4, [.int 0, .int 0, .int 0, .int 0, .ref (ad 2), .ref (ad 3), .ref (ad 4), .ref (ad 5), .ref (ad 6), .ref (ad 7), .ref (ad 8), .ref (ad 9), .ref (ad 10), .ref (ad 11), .ref (ad 12), .ref (ad 13), .ref (ad 14), .ref (ad 15)])),
  zi cA (ad 2) 8,
  zi cA (ad 3) 8,
  zb cA (ad 4) 16,
  zb cA (ad 5) 8,
  zi cA (ad 6) 10,
  zi cA (ad 7) 10,
  zi cA (ad 8) 10,
  zi cA (ad 9) 10,
  zi cA (ad 10) 240,
  zi cA (ad 11) 240,
  zi cA (ad 12) 240,
  zi cA (ad 13) 240,
  zi cA (ad 14) 10,
  zi cA (ad 15) 160,
  ((ad 16), .inr (5, [.int 0, .int 0, .ref (ad 17), .ref (ad 18), .ref (ad 19), .ref (ad 20)])),
  zi cA (ad 17) 60,
  zi cA (ad 18) 960,
  zi cA (ad 19) 8,
  zi cA (ad 20) 200,
  ((ad 21), .inr (5, [.int 0, .int 0, .ref (ad 22), .ref (ad 23), .ref (ad 24), .ref (ad 25)])),
  zi cA (ad 22) 60,
  zi cA (ad 23) 960,
  zi cA (ad 24) 8,
  zi cA (ad 25) 200,
  ((ad 26), .inr (5, [.int 0, .int 0, .ref (ad 27), .ref (ad 28), .ref (ad 29), .ref (ad 30)])),
  zi cA (ad 27) 60,
  zi cA (ad 28) 960,
  zi cA (ad 29) 8,
  zi cA (ad 30) 200,
  ((ad 31), .inr (1, [.ref (ad 1), .ref (ad 32), .ref (ad 33), .ref (ad 34), .ref (ad 35), .ref (ad 36), .ref (ad 37), .ref (ad 38), .int 0])),
  zl cA (ad 32) 240,
  zi cA (ad 33) 40,
  zi cA (ad 34) 40,
  zi cA (ad 35) 10,
  zi cA (ad 36) 10,
  zb cA (ad 37) 10,
  zb cA (ad 38) 10,
  ((ad 39), .inr (3, [.ref (ad 1), .ref (ad 16), .ref (ad 31), .ref (ad 40), .ref (ad 41), .ref (ad 42), .ref (ad 43), .ref (ad 44), .int 0, .int 0, .int 0, .int 0, .ref (ad 45)])),
  ((ad 40), .inr (0, [.int 0, .int 0, .int 0, .int 0, .int 0, .int 0, .int 0, .int 0])),
  zi cA (ad 41) 12,
  zi cA (ad 42) 12,
  zi cA (ad 43) 96,
  zi cA (ad 44) 96,
  zi cA (ad 45) 3,
  ((ad 46), .inr (2, [.ref (ad 1), .ref (ad 26), .ref (ad 16), .ref (ad 47), .ref (ad 48), .ref (ad 49), .ref (ad 50), .ref (ad 51), .int 0, .int 0])),
  zi cA (ad 47) 4,
  zi cA (ad 48) 4,
  zi cA (ad 49) 60,
  zi cA (ad 50) 60,
  zi cA (ad 51) 60,
  ((ad 52), .inr (0, [.int 0, .int 0, .int 0, .int 0, .int 0, .int 0, .int 0, .int 0])),
  zi cA (ad 53) 6,
  ((ad 54), .inl (cA .int, 6, .inl (upd (upd (upd (upd (upd (upd (fun _ => 0) 0 (-1)) 1 (-1)) 2 (-1)) 3 (-1)) 4 (-1)) 5 (-1)))),
  ((ad 55), .inr (7, [.int 0, .ref (ad 56), .int 0, .ref (ad 57), .ref (ad 58), .int 0, .ref (ad 59), .int 0, .ref (ad 60), .ref (ad 61), .ref (ad 62), .ref (ad 63), .ref (ad 64), .ref (ad 65), .ref (ad 66), .ref (ad 67), .ref (ad 68), .ref (ad 69), .ref (ad 70), .ref (ad 71), .ref (ad 72), .int 0, .int 0, .ref (ad 73), .ref (ad 74), .ref (ad 75), .ref (ad 76), .int 0, .ref (ad 77), .ref (ad 78), .ref (ad 79), .ref (ad 80), .ref (ad 81), .ref (ad 82), .ref (ad 83), .ref (ad 84), .ref (ad 85), .ref (ad 86), .ref (ad 87), .int 0, .ref (ad 88), .int 0, .ref (ad 89), .ref (ad 90), .ref (ad 91), .ref (ad 92), .int 0, .int 0, .int 0, .int 0, .int 0, .int 0, .int 0, .int 0, .int 0, .int 0, .ref (ad 93), .ref (ad 94), .int 0, .int 0, .ref (ad 95), .ref (ad 96), .int 0, .ref (ad 97), .int 1, .ref (ad 98), .ref (ad 99), .ref (ad 100), .ref (ad 101), .ref (ad 102), .int 0])),
  zi cA (ad 56) 8,
  zi cA (ad 57) 16,
  zb cA (ad 58) 16,
  zb cA (ad 59) 8,
  zi cA (ad 60) 10,
  zi cA (ad 61) 10,
  zi cA (ad 62) 10,
  zi cA (ad 63) 10,
  zi cA (ad 64) 240,
  zi cA (ad 65) 240,
  zi cA (ad 66) 240,
  zi cA (ad 67) 240,
  zi cA (ad 68) 10,
  zi cA (ad 69) 40,
  zi cA (ad 70) 40,
  zi cA (ad 71) 40,
  zi cA (ad 72) 40,
  zi cA (ad 73) 60,
  zi cA (ad 74) 60,
  zi cA (ad 75) 960,
  zi cA (ad 76) 8,
  zi cA (ad 77) 200,
  zi cA (ad 78) 6,
  zi cA (ad 79) 6,
  zi cA (ad 80) 2000,
  zb cA (ad 81) 250,
  zb cA (ad 82) 10,
  zb cA (ad 83) 10,
  zi cA (ad 84) 10,
  zi cA (ad 85) 10,
  zi cA (ad 86) 40,
  zi cA (ad 87) 40,
  zi cA (ad 88) 8,
  zi cA (ad 89) 12,
  zi cA (ad 90) 12,
  zi cA (ad 91) 96,
  zi cA (ad 92) 96,
  zi cA (ad 93) 60,
  zi cA (ad 94) 60,
  zi cA (ad 95) 1300,
  zi cA (ad 96) 1300,
  zi cA (ad 97) 6,
  zi cA (ad 98) 4,
  zi cA (ad 99) 4,
  zi cA (ad 100) 60,
  zb cA (ad 101) 60,
  zi cA (ad 102) 60]
def ct_ad (qs : List Nat) (b t : Nat) : Nat → Nat := fun k => if k = 1000 then b else if k = 1002 then t else qs.getD k 0
def ct_mi (f : Nat → Option Nat → Value) : Nat → List (Option Nat) → List Value
  | _, [] => []
  | k, a :: r => f k a :: ct_mi f (k + 1) r
theorem ct_mk (f : Nat → Option Nat → Value) : ∀ (l : List (Option Nat)) (k : Nat), ct_mi f k l = l.mapIdx (fun i => f (k + i))
  | [], _ => rfl
  | a :: r, k => by
    show f k a :: ct_mi f (k + 1) r = _
    rw [ct_mk f r (k + 1), List.mapIdx_cons]
    congr 1
    congr 1
    funext i
    rw [Nat.add_assoc, Nat.add_comm 1 i]
theorem ct_m0 (f : Nat → Option Nat → Value) (l : List (Option Nat)) : l.mapIdx f = ct_mi f 0 l := by
  rw [ct_mk]
  congr 1
  funext i
  rw [Nat.zero_add]
theorem ct_e0 (L : Nat) (xs : Nat → Int32) (cA : FieldType → ClassId) (ad : Nat → Nat) (e : pz_Ce) (h : pz_sh[0]? = some e) : (ct_W cA ad)[0]? = some (ad 0, pz_ce cA ad (st_0 L xs) 0 e) := by
  have h' : e = (.inl (6, [some 1, some 16, some 21, some 26, some 31, some 39, some 46, some 52, some 53, some 54, none]) : pz_Ce) := (Option.some.inj (h.symm.trans (by rfl : pz_sh[0]? = some (.inl (6, [some 1, some 16, some 21, some 26, some 31, some 39, some 46, some 52, some 53, some 54, none])))))
  subst h'
  show _ = some (ad 0, (.inr (6, List.mapIdx (pz_fv ad (st_0 L xs) 0) [some 1, some 16, some 21, some 26, some 31, some 39, some 46, some 52, some 53, some 54, none]) : va_E))
  rw [ct_m0]
  rfl
theorem ct_e1 (L : Nat) (xs : Nat → Int32) (cA : FieldType → ClassId) (ad : Nat → Nat) (e : pz_Ce) (h : pz_sh[1]? = some e) : (ct_W cA ad)[1]? = some (ad 1, pz_ce cA ad (st_0 L xs) 1 e) := by
  have h' : e = (.inl (4, [none, none, none, none, some 2, some 3, some 4, some 5, some 6, some 7, some 8, some 9, some 10, some 11, some 12, some 13, some 14, some 15]) : pz_Ce) := (Option.some.inj (h.symm.trans (by rfl : pz_sh[1]? = some (.inl (4, [none, none, none, none, some 2, some 3, some 4, some 5, some 6, some 7, some 8, some 9, some 10, some 11, some 12, some 13, some 14, some 15])))))
  subst h'
  show _ = some (ad 1, (.inr (4, List.mapIdx (pz_fv ad (st_0 L xs) 1) [none, none, none, none, some 2, some 3, some 4, some 5, some 6, some 7, some 8, some 9, some 10, some 11, some 12, some 13, some 14, some 15]) : va_E))
  rw [ct_m0]
  rfl
theorem ct_e2 (L : Nat) (xs : Nat → Int32) (cA : FieldType → ClassId) (ad : Nat → Nat) (e : pz_Ce) (h : pz_sh[2]? = some e) : (ct_W cA ad)[2]? = some (ad 2, pz_ce cA ad (st_0 L xs) 2 e) := by
  have h' : e = (.inr (.int, 8) : pz_Ce) := (Option.some.inj (h.symm.trans (by rfl : pz_sh[2]? = some (.inr (.int, 8)))))
  subst h'
  rfl
theorem ct_e3 (L : Nat) (xs : Nat → Int32) (cA : FieldType → ClassId) (ad : Nat → Nat) (e : pz_Ce) (h : pz_sh[3]? = some e) : (ct_W cA ad)[3]? = some (ad 3, pz_ce cA ad (st_0 L xs) 3 e) := by
  have h' : e = (.inr (.int, 8) : pz_Ce) := (Option.some.inj (h.symm.trans (by rfl : pz_sh[3]? = some (.inr (.int, 8)))))
  subst h'
  rfl
theorem ct_e4 (L : Nat) (xs : Nat → Int32) (cA : FieldType → ClassId) (ad : Nat → Nat) (e : pz_Ce) (h : pz_sh[4]? = some e) : (ct_W cA ad)[4]? = some (ad 4, pz_ce cA ad (st_0 L xs) 4 e) := by
  have h' : e = (.inr (.boolean, 16) : pz_Ce) := (Option.some.inj (h.symm.trans (by rfl : pz_sh[4]? = some (.inr (.boolean, 16)))))
  subst h'
  rfl
theorem ct_e5 (L : Nat) (xs : Nat → Int32) (cA : FieldType → ClassId) (ad : Nat → Nat) (e : pz_Ce) (h : pz_sh[5]? = some e) : (ct_W cA ad)[5]? = some (ad 5, pz_ce cA ad (st_0 L xs) 5 e) := by
  have h' : e = (.inr (.boolean, 8) : pz_Ce) := (Option.some.inj (h.symm.trans (by rfl : pz_sh[5]? = some (.inr (.boolean, 8)))))
  subst h'
  rfl
theorem ct_e6 (L : Nat) (xs : Nat → Int32) (cA : FieldType → ClassId) (ad : Nat → Nat) (e : pz_Ce) (h : pz_sh[6]? = some e) : (ct_W cA ad)[6]? = some (ad 6, pz_ce cA ad (st_0 L xs) 6 e) := by
  have h' : e = (.inr (.int, 10) : pz_Ce) := (Option.some.inj (h.symm.trans (by rfl : pz_sh[6]? = some (.inr (.int, 10)))))
  subst h'
  rfl
theorem ct_e7 (L : Nat) (xs : Nat → Int32) (cA : FieldType → ClassId) (ad : Nat → Nat) (e : pz_Ce) (h : pz_sh[7]? = some e) : (ct_W cA ad)[7]? = some (ad 7, pz_ce cA ad (st_0 L xs) 7 e) := by
  have h' : e = (.inr (.int, 10) : pz_Ce) := (Option.some.inj (h.symm.trans (by rfl : pz_sh[7]? = some (.inr (.int, 10)))))
  subst h'
  rfl
theorem ct_e8 (L : Nat) (xs : Nat → Int32) (cA : FieldType → ClassId) (ad : Nat → Nat) (e : pz_Ce) (h : pz_sh[8]? = some e) : (ct_W cA ad)[8]? = some (ad 8, pz_ce cA ad (st_0 L xs) 8 e) := by
  have h' : e = (.inr (.int, 10) : pz_Ce) := (Option.some.inj (h.symm.trans (by rfl : pz_sh[8]? = some (.inr (.int, 10)))))
  subst h'
  rfl
theorem ct_e9 (L : Nat) (xs : Nat → Int32) (cA : FieldType → ClassId) (ad : Nat → Nat) (e : pz_Ce) (h : pz_sh[9]? = some e) : (ct_W cA ad)[9]? = some (ad 9, pz_ce cA ad (st_0 L xs) 9 e) := by
  have h' : e = (.inr (.int, 10) : pz_Ce) := (Option.some.inj (h.symm.trans (by rfl : pz_sh[9]? = some (.inr (.int, 10)))))
  subst h'
  rfl
theorem ct_e10 (L : Nat) (xs : Nat → Int32) (cA : FieldType → ClassId) (ad : Nat → Nat) (e : pz_Ce) (h : pz_sh[10]? = some e) : (ct_W cA ad)[10]? = some (ad 10, pz_ce cA ad (st_0 L xs) 10 e) := by
  have h' : e = (.inr (.int, 240) : pz_Ce) := (Option.some.inj (h.symm.trans (by rfl : pz_sh[10]? = some (.inr (.int, 240)))))
  subst h'
  rfl
theorem ct_e11 (L : Nat) (xs : Nat → Int32) (cA : FieldType → ClassId) (ad : Nat → Nat) (e : pz_Ce) (h : pz_sh[11]? = some e) : (ct_W cA ad)[11]? = some (ad 11, pz_ce cA ad (st_0 L xs) 11 e) := by
  have h' : e = (.inr (.int, 240) : pz_Ce) := (Option.some.inj (h.symm.trans (by rfl : pz_sh[11]? = some (.inr (.int, 240)))))
  subst h'
  rfl
theorem ct_e12 (L : Nat) (xs : Nat → Int32) (cA : FieldType → ClassId) (ad : Nat → Nat) (e : pz_Ce) (h : pz_sh[12]? = some e) : (ct_W cA ad)[12]? = some (ad 12, pz_ce cA ad (st_0 L xs) 12 e) := by
  have h' : e = (.inr (.int, 240) : pz_Ce) := (Option.some.inj (h.symm.trans (by rfl : pz_sh[12]? = some (.inr (.int, 240)))))
  subst h'
  rfl
theorem ct_e13 (L : Nat) (xs : Nat → Int32) (cA : FieldType → ClassId) (ad : Nat → Nat) (e : pz_Ce) (h : pz_sh[13]? = some e) : (ct_W cA ad)[13]? = some (ad 13, pz_ce cA ad (st_0 L xs) 13 e) := by
  have h' : e = (.inr (.int, 240) : pz_Ce) := (Option.some.inj (h.symm.trans (by rfl : pz_sh[13]? = some (.inr (.int, 240)))))
  subst h'
  rfl
theorem ct_e14 (L : Nat) (xs : Nat → Int32) (cA : FieldType → ClassId) (ad : Nat → Nat) (e : pz_Ce) (h : pz_sh[14]? = some e) : (ct_W cA ad)[14]? = some (ad 14, pz_ce cA ad (st_0 L xs) 14 e) := by
  have h' : e = (.inr (.int, 10) : pz_Ce) := (Option.some.inj (h.symm.trans (by rfl : pz_sh[14]? = some (.inr (.int, 10)))))
  subst h'
  rfl
theorem ct_e15 (L : Nat) (xs : Nat → Int32) (cA : FieldType → ClassId) (ad : Nat → Nat) (e : pz_Ce) (h : pz_sh[15]? = some e) : (ct_W cA ad)[15]? = some (ad 15, pz_ce cA ad (st_0 L xs) 15 e) := by
  have h' : e = (.inr (.int, 160) : pz_Ce) := (Option.some.inj (h.symm.trans (by rfl : pz_sh[15]? = some (.inr (.int, 160)))))
  subst h'
  rfl
theorem ct_e16 (L : Nat) (xs : Nat → Int32) (cA : FieldType → ClassId) (ad : Nat → Nat) (e : pz_Ce) (h : pz_sh[16]? = some e) : (ct_W cA ad)[16]? = some (ad 16, pz_ce cA ad (st_0 L xs) 16 e) := by
  have h' : e = (.inl (5, [none, none, some 17, some 18, some 19, some 20]) : pz_Ce) := (Option.some.inj (h.symm.trans (by rfl : pz_sh[16]? = some (.inl (5, [none, none, some 17, some 18, some 19, some 20])))))
  subst h'
  show _ = some (ad 16, (.inr (5, List.mapIdx (pz_fv ad (st_0 L xs) 16) [none, none, some 17, some 18, some 19, some 20]) : va_E))
  rw [ct_m0]
  rfl
theorem ct_e17 (L : Nat) (xs : Nat → Int32) (cA : FieldType → ClassId) (ad : Nat → Nat) (e : pz_Ce) (h : pz_sh[17]? = some e) : (ct_W cA ad)[17]? = some (ad 17, pz_ce cA ad (st_0 L xs) 17 e) := by
  have h' : e = (.inr (.int, 60) : pz_Ce) := (Option.some.inj (h.symm.trans (by rfl : pz_sh[17]? = some (.inr (.int, 60)))))
  subst h'
  rfl
theorem ct_e18 (L : Nat) (xs : Nat → Int32) (cA : FieldType → ClassId) (ad : Nat → Nat) (e : pz_Ce) (h : pz_sh[18]? = some e) : (ct_W cA ad)[18]? = some (ad 18, pz_ce cA ad (st_0 L xs) 18 e) := by
  have h' : e = (.inr (.int, 960) : pz_Ce) := (Option.some.inj (h.symm.trans (by rfl : pz_sh[18]? = some (.inr (.int, 960)))))
  subst h'
  rfl
theorem ct_e19 (L : Nat) (xs : Nat → Int32) (cA : FieldType → ClassId) (ad : Nat → Nat) (e : pz_Ce) (h : pz_sh[19]? = some e) : (ct_W cA ad)[19]? = some (ad 19, pz_ce cA ad (st_0 L xs) 19 e) := by
  have h' : e = (.inr (.int, 8) : pz_Ce) := (Option.some.inj (h.symm.trans (by rfl : pz_sh[19]? = some (.inr (.int, 8)))))
  subst h'
  rfl
theorem ct_e20 (L : Nat) (xs : Nat → Int32) (cA : FieldType → ClassId) (ad : Nat → Nat) (e : pz_Ce) (h : pz_sh[20]? = some e) : (ct_W cA ad)[20]? = some (ad 20, pz_ce cA ad (st_0 L xs) 20 e) := by
  have h' : e = (.inr (.int, 200) : pz_Ce) := (Option.some.inj (h.symm.trans (by rfl : pz_sh[20]? = some (.inr (.int, 200)))))
  subst h'
  rfl
theorem ct_e21 (L : Nat) (xs : Nat → Int32) (cA : FieldType → ClassId) (ad : Nat → Nat) (e : pz_Ce) (h : pz_sh[21]? = some e) : (ct_W cA ad)[21]? = some (ad 21, pz_ce cA ad (st_0 L xs) 21 e) := by
  have h' : e = (.inl (5, [none, none, some 22, some 23, some 24, some 25]) : pz_Ce) := (Option.some.inj (h.symm.trans (by rfl : pz_sh[21]? = some (.inl (5, [none, none, some 22, some 23, some 24, some 25])))))
  subst h'
  show _ = some (ad 21, (.inr (5, List.mapIdx (pz_fv ad (st_0 L xs) 21) [none, none, some 22, some 23, some 24, some 25]) : va_E))
  rw [ct_m0]
  rfl
theorem ct_e22 (L : Nat) (xs : Nat → Int32) (cA : FieldType → ClassId) (ad : Nat → Nat) (e : pz_Ce) (h : pz_sh[22]? = some e) : (ct_W cA ad)[22]? = some (ad 22, pz_ce cA ad (st_0 L xs) 22 e) := by
  have h' : e = (.inr (.int, 60) : pz_Ce) := (Option.some.inj (h.symm.trans (by rfl : pz_sh[22]? = some (.inr (.int, 60)))))
  subst h'
  rfl
theorem ct_e23 (L : Nat) (xs : Nat → Int32) (cA : FieldType → ClassId) (ad : Nat → Nat) (e : pz_Ce) (h : pz_sh[23]? = some e) : (ct_W cA ad)[23]? = some (ad 23, pz_ce cA ad (st_0 L xs) 23 e) := by
  have h' : e = (.inr (.int, 960) : pz_Ce) := (Option.some.inj (h.symm.trans (by rfl : pz_sh[23]? = some (.inr (.int, 960)))))
  subst h'
  rfl
theorem ct_e24 (L : Nat) (xs : Nat → Int32) (cA : FieldType → ClassId) (ad : Nat → Nat) (e : pz_Ce) (h : pz_sh[24]? = some e) : (ct_W cA ad)[24]? = some (ad 24, pz_ce cA ad (st_0 L xs) 24 e) := by
  have h' : e = (.inr (.int, 8) : pz_Ce) := (Option.some.inj (h.symm.trans (by rfl : pz_sh[24]? = some (.inr (.int, 8)))))
  subst h'
  rfl
theorem ct_e25 (L : Nat) (xs : Nat → Int32) (cA : FieldType → ClassId) (ad : Nat → Nat) (e : pz_Ce) (h : pz_sh[25]? = some e) : (ct_W cA ad)[25]? = some (ad 25, pz_ce cA ad (st_0 L xs) 25 e) := by
  have h' : e = (.inr (.int, 200) : pz_Ce) := (Option.some.inj (h.symm.trans (by rfl : pz_sh[25]? = some (.inr (.int, 200)))))
  subst h'
  rfl
theorem ct_e26 (L : Nat) (xs : Nat → Int32) (cA : FieldType → ClassId) (ad : Nat → Nat) (e : pz_Ce) (h : pz_sh[26]? = some e) : (ct_W cA ad)[26]? = some (ad 26, pz_ce cA ad (st_0 L xs) 26 e) := by
  have h' : e = (.inl (5, [none, none, some 27, some 28, some 29, some 30]) : pz_Ce) := (Option.some.inj (h.symm.trans (by rfl : pz_sh[26]? = some (.inl (5, [none, none, some 27, some 28, some 29, some 30])))))
  subst h'
  show _ = some (ad 26, (.inr (5, List.mapIdx (pz_fv ad (st_0 L xs) 26) [none, none, some 27, some 28, some 29, some 30]) : va_E))
  rw [ct_m0]
  rfl
theorem ct_e27 (L : Nat) (xs : Nat → Int32) (cA : FieldType → ClassId) (ad : Nat → Nat) (e : pz_Ce) (h : pz_sh[27]? = some e) : (ct_W cA ad)[27]? = some (ad 27, pz_ce cA ad (st_0 L xs) 27 e) := by
  have h' : e = (.inr (.int, 60) : pz_Ce) := (Option.some.inj (h.symm.trans (by rfl : pz_sh[27]? = some (.inr (.int, 60)))))
  subst h'
  rfl
theorem ct_e28 (L : Nat) (xs : Nat → Int32) (cA : FieldType → ClassId) (ad : Nat → Nat) (e : pz_Ce) (h : pz_sh[28]? = some e) : (ct_W cA ad)[28]? = some (ad 28, pz_ce cA ad (st_0 L xs) 28 e) := by
  have h' : e = (.inr (.int, 960) : pz_Ce) := (Option.some.inj (h.symm.trans (by rfl : pz_sh[28]? = some (.inr (.int, 960)))))
  subst h'
  rfl
theorem ct_e29 (L : Nat) (xs : Nat → Int32) (cA : FieldType → ClassId) (ad : Nat → Nat) (e : pz_Ce) (h : pz_sh[29]? = some e) : (ct_W cA ad)[29]? = some (ad 29, pz_ce cA ad (st_0 L xs) 29 e) := by
  have h' : e = (.inr (.int, 8) : pz_Ce) := (Option.some.inj (h.symm.trans (by rfl : pz_sh[29]? = some (.inr (.int, 8)))))
  subst h'
  rfl
theorem ct_e30 (L : Nat) (xs : Nat → Int32) (cA : FieldType → ClassId) (ad : Nat → Nat) (e : pz_Ce) (h : pz_sh[30]? = some e) : (ct_W cA ad)[30]? = some (ad 30, pz_ce cA ad (st_0 L xs) 30 e) := by
  have h' : e = (.inr (.int, 200) : pz_Ce) := (Option.some.inj (h.symm.trans (by rfl : pz_sh[30]? = some (.inr (.int, 200)))))
  subst h'
  rfl
theorem ct_e31 (L : Nat) (xs : Nat → Int32) (cA : FieldType → ClassId) (ad : Nat → Nat) (e : pz_Ce) (h : pz_sh[31]? = some e) : (ct_W cA ad)[31]? = some (ad 31, pz_ce cA ad (st_0 L xs) 31 e) := by
  have h' : e = (.inl (1, [some 1, some 32, some 33, some 34, some 35, some 36, some 37, some 38, none]) : pz_Ce) := (Option.some.inj (h.symm.trans (by rfl : pz_sh[31]? = some (.inl (1, [some 1, some 32, some 33, some 34, some 35, some 36, some 37, some 38, none])))))
  subst h'
  show _ = some (ad 31, (.inr (1, List.mapIdx (pz_fv ad (st_0 L xs) 31) [some 1, some 32, some 33, some 34, some 35, some 36, some 37, some 38, none]) : va_E))
  rw [ct_m0]
  rfl
theorem ct_e32 (L : Nat) (xs : Nat → Int32) (cA : FieldType → ClassId) (ad : Nat → Nat) (e : pz_Ce) (h : pz_sh[32]? = some e) : (ct_W cA ad)[32]? = some (ad 32, pz_ce cA ad (st_0 L xs) 32 e) := by
  have h' : e = (.inr (.long, 240) : pz_Ce) := (Option.some.inj (h.symm.trans (by rfl : pz_sh[32]? = some (.inr (.long, 240)))))
  subst h'
  rfl
theorem ct_e33 (L : Nat) (xs : Nat → Int32) (cA : FieldType → ClassId) (ad : Nat → Nat) (e : pz_Ce) (h : pz_sh[33]? = some e) : (ct_W cA ad)[33]? = some (ad 33, pz_ce cA ad (st_0 L xs) 33 e) := by
  have h' : e = (.inr (.int, 40) : pz_Ce) := (Option.some.inj (h.symm.trans (by rfl : pz_sh[33]? = some (.inr (.int, 40)))))
  subst h'
  rfl
theorem ct_e34 (L : Nat) (xs : Nat → Int32) (cA : FieldType → ClassId) (ad : Nat → Nat) (e : pz_Ce) (h : pz_sh[34]? = some e) : (ct_W cA ad)[34]? = some (ad 34, pz_ce cA ad (st_0 L xs) 34 e) := by
  have h' : e = (.inr (.int, 40) : pz_Ce) := (Option.some.inj (h.symm.trans (by rfl : pz_sh[34]? = some (.inr (.int, 40)))))
  subst h'
  rfl
theorem ct_e35 (L : Nat) (xs : Nat → Int32) (cA : FieldType → ClassId) (ad : Nat → Nat) (e : pz_Ce) (h : pz_sh[35]? = some e) : (ct_W cA ad)[35]? = some (ad 35, pz_ce cA ad (st_0 L xs) 35 e) := by
  have h' : e = (.inr (.int, 10) : pz_Ce) := (Option.some.inj (h.symm.trans (by rfl : pz_sh[35]? = some (.inr (.int, 10)))))
  subst h'
  rfl
theorem ct_e36 (L : Nat) (xs : Nat → Int32) (cA : FieldType → ClassId) (ad : Nat → Nat) (e : pz_Ce) (h : pz_sh[36]? = some e) : (ct_W cA ad)[36]? = some (ad 36, pz_ce cA ad (st_0 L xs) 36 e) := by
  have h' : e = (.inr (.int, 10) : pz_Ce) := (Option.some.inj (h.symm.trans (by rfl : pz_sh[36]? = some (.inr (.int, 10)))))
  subst h'
  rfl
theorem ct_e37 (L : Nat) (xs : Nat → Int32) (cA : FieldType → ClassId) (ad : Nat → Nat) (e : pz_Ce) (h : pz_sh[37]? = some e) : (ct_W cA ad)[37]? = some (ad 37, pz_ce cA ad (st_0 L xs) 37 e) := by
  have h' : e = (.inr (.boolean, 10) : pz_Ce) := (Option.some.inj (h.symm.trans (by rfl : pz_sh[37]? = some (.inr (.boolean, 10)))))
  subst h'
  rfl
theorem ct_e38 (L : Nat) (xs : Nat → Int32) (cA : FieldType → ClassId) (ad : Nat → Nat) (e : pz_Ce) (h : pz_sh[38]? = some e) : (ct_W cA ad)[38]? = some (ad 38, pz_ce cA ad (st_0 L xs) 38 e) := by
  have h' : e = (.inr (.boolean, 10) : pz_Ce) := (Option.some.inj (h.symm.trans (by rfl : pz_sh[38]? = some (.inr (.boolean, 10)))))
  subst h'
  rfl
theorem ct_e39 (L : Nat) (xs : Nat → Int32) (cA : FieldType → ClassId) (ad : Nat → Nat) (e : pz_Ce) (h : pz_sh[39]? = some e) : (ct_W cA ad)[39]? = some (ad 39, pz_ce cA ad (st_0 L xs) 39 e) := by
  have h' : e = (.inl (3, [some 1, some 16, some 31, some 40, some 41, some 42, some 43, some 44, none, none, none, none, some 45]) : pz_Ce) := (Option.some.inj (h.symm.trans (by rfl : pz_sh[39]? = some (.inl (3, [some 1, some 16, some 31, some 40, some 41, some 42, some 43, some 44, none, none, none, none, some 45])))))
  subst h'
  show _ = some (ad 39, (.inr (3, List.mapIdx (pz_fv ad (st_0 L xs) 39) [some 1, some 16, some 31, some 40, some 41, some 42, some 43, some 44, none, none, none, none, some 45]) : va_E))
  rw [ct_m0]
  rfl
theorem ct_e40 (L : Nat) (xs : Nat → Int32) (cA : FieldType → ClassId) (ad : Nat → Nat) (e : pz_Ce) (h : pz_sh[40]? = some e) : (ct_W cA ad)[40]? = some (ad 40, pz_ce cA ad (st_0 L xs) 40 e) := by
  have h' : e = (.inl (0, [none, none, none, none, none, none, none, none]) : pz_Ce) := (Option.some.inj (h.symm.trans (by rfl : pz_sh[40]? = some (.inl (0, [none, none, none, none, none, none, none, none])))))
  subst h'
  show _ = some (ad 40, (.inr (0, List.mapIdx (pz_fv ad (st_0 L xs) 40) [none, none, none, none, none, none, none, none]) : va_E))
  rw [ct_m0]
  rfl
theorem ct_e41 (L : Nat) (xs : Nat → Int32) (cA : FieldType → ClassId) (ad : Nat → Nat) (e : pz_Ce) (h : pz_sh[41]? = some e) : (ct_W cA ad)[41]? = some (ad 41, pz_ce cA ad (st_0 L xs) 41 e) := by
  have h' : e = (.inr (.int, 12) : pz_Ce) := (Option.some.inj (h.symm.trans (by rfl : pz_sh[41]? = some (.inr (.int, 12)))))
  subst h'
  rfl
theorem ct_e42 (L : Nat) (xs : Nat → Int32) (cA : FieldType → ClassId) (ad : Nat → Nat) (e : pz_Ce) (h : pz_sh[42]? = some e) : (ct_W cA ad)[42]? = some (ad 42, pz_ce cA ad (st_0 L xs) 42 e) := by
  have h' : e = (.inr (.int, 12) : pz_Ce) := (Option.some.inj (h.symm.trans (by rfl : pz_sh[42]? = some (.inr (.int, 12)))))
  subst h'
  rfl
theorem ct_e43 (L : Nat) (xs : Nat → Int32) (cA : FieldType → ClassId) (ad : Nat → Nat) (e : pz_Ce) (h : pz_sh[43]? = some e) : (ct_W cA ad)[43]? = some (ad 43, pz_ce cA ad (st_0 L xs) 43 e) := by
  have h' : e = (.inr (.int, 96) : pz_Ce) := (Option.some.inj (h.symm.trans (by rfl : pz_sh[43]? = some (.inr (.int, 96)))))
  subst h'
  rfl
theorem ct_e44 (L : Nat) (xs : Nat → Int32) (cA : FieldType → ClassId) (ad : Nat → Nat) (e : pz_Ce) (h : pz_sh[44]? = some e) : (ct_W cA ad)[44]? = some (ad 44, pz_ce cA ad (st_0 L xs) 44 e) := by
  have h' : e = (.inr (.int, 96) : pz_Ce) := (Option.some.inj (h.symm.trans (by rfl : pz_sh[44]? = some (.inr (.int, 96)))))
  subst h'
  rfl
theorem ct_e45 (L : Nat) (xs : Nat → Int32) (cA : FieldType → ClassId) (ad : Nat → Nat) (e : pz_Ce) (h : pz_sh[45]? = some e) : (ct_W cA ad)[45]? = some (ad 45, pz_ce cA ad (st_0 L xs) 45 e) := by
  have h' : e = (.inr (.int, 3) : pz_Ce) := (Option.some.inj (h.symm.trans (by rfl : pz_sh[45]? = some (.inr (.int, 3)))))
  subst h'
  rfl
theorem ct_e46 (L : Nat) (xs : Nat → Int32) (cA : FieldType → ClassId) (ad : Nat → Nat) (e : pz_Ce) (h : pz_sh[46]? = some e) : (ct_W cA ad)[46]? = some (ad 46, pz_ce cA ad (st_0 L xs) 46 e) := by
  have h' : e = (.inl (2, [some 1, some 26, some 16, some 47, some 48, some 49, some 50, some 51, none, none]) : pz_Ce) := (Option.some.inj (h.symm.trans (by rfl : pz_sh[46]? = some (.inl (2, [some 1, some 26, some 16, some 47, some 48, some 49, some 50, some 51, none, none])))))
  subst h'
  show _ = some (ad 46, (.inr (2, List.mapIdx (pz_fv ad (st_0 L xs) 46) [some 1, some 26, some 16, some 47, some 48, some 49, some 50, some 51, none, none]) : va_E))
  rw [ct_m0]
  rfl
theorem ct_e47 (L : Nat) (xs : Nat → Int32) (cA : FieldType → ClassId) (ad : Nat → Nat) (e : pz_Ce) (h : pz_sh[47]? = some e) : (ct_W cA ad)[47]? = some (ad 47, pz_ce cA ad (st_0 L xs) 47 e) := by
  have h' : e = (.inr (.int, 4) : pz_Ce) := (Option.some.inj (h.symm.trans (by rfl : pz_sh[47]? = some (.inr (.int, 4)))))
  subst h'
  rfl
theorem ct_e48 (L : Nat) (xs : Nat → Int32) (cA : FieldType → ClassId) (ad : Nat → Nat) (e : pz_Ce) (h : pz_sh[48]? = some e) : (ct_W cA ad)[48]? = some (ad 48, pz_ce cA ad (st_0 L xs) 48 e) := by
  have h' : e = (.inr (.int, 4) : pz_Ce) := (Option.some.inj (h.symm.trans (by rfl : pz_sh[48]? = some (.inr (.int, 4)))))
  subst h'
  rfl
theorem ct_e49 (L : Nat) (xs : Nat → Int32) (cA : FieldType → ClassId) (ad : Nat → Nat) (e : pz_Ce) (h : pz_sh[49]? = some e) : (ct_W cA ad)[49]? = some (ad 49, pz_ce cA ad (st_0 L xs) 49 e) := by
  have h' : e = (.inr (.int, 60) : pz_Ce) := (Option.some.inj (h.symm.trans (by rfl : pz_sh[49]? = some (.inr (.int, 60)))))
  subst h'
  rfl
theorem ct_e50 (L : Nat) (xs : Nat → Int32) (cA : FieldType → ClassId) (ad : Nat → Nat) (e : pz_Ce) (h : pz_sh[50]? = some e) : (ct_W cA ad)[50]? = some (ad 50, pz_ce cA ad (st_0 L xs) 50 e) := by
  have h' : e = (.inr (.int, 60) : pz_Ce) := (Option.some.inj (h.symm.trans (by rfl : pz_sh[50]? = some (.inr (.int, 60)))))
  subst h'
  rfl
theorem ct_e51 (L : Nat) (xs : Nat → Int32) (cA : FieldType → ClassId) (ad : Nat → Nat) (e : pz_Ce) (h : pz_sh[51]? = some e) : (ct_W cA ad)[51]? = some (ad 51, pz_ce cA ad (st_0 L xs) 51 e) := by
  have h' : e = (.inr (.int, 60) : pz_Ce) := (Option.some.inj (h.symm.trans (by rfl : pz_sh[51]? = some (.inr (.int, 60)))))
  subst h'
  rfl
theorem ct_e52 (L : Nat) (xs : Nat → Int32) (cA : FieldType → ClassId) (ad : Nat → Nat) (e : pz_Ce) (h : pz_sh[52]? = some e) : (ct_W cA ad)[52]? = some (ad 52, pz_ce cA ad (st_0 L xs) 52 e) := by
  have h' : e = (.inl (0, [none, none, none, none, none, none, none, none]) : pz_Ce) := (Option.some.inj (h.symm.trans (by rfl : pz_sh[52]? = some (.inl (0, [none, none, none, none, none, none, none, none])))))
  subst h'
  show _ = some (ad 52, (.inr (0, List.mapIdx (pz_fv ad (st_0 L xs) 52) [none, none, none, none, none, none, none, none]) : va_E))
  rw [ct_m0]
  rfl
theorem ct_e53 (L : Nat) (xs : Nat → Int32) (cA : FieldType → ClassId) (ad : Nat → Nat) (e : pz_Ce) (h : pz_sh[53]? = some e) : (ct_W cA ad)[53]? = some (ad 53, pz_ce cA ad (st_0 L xs) 53 e) := by
  have h' : e = (.inr (.int, 6) : pz_Ce) := (Option.some.inj (h.symm.trans (by rfl : pz_sh[53]? = some (.inr (.int, 6)))))
  subst h'
  rfl
theorem ct_e54 (L : Nat) (xs : Nat → Int32) (cA : FieldType → ClassId) (ad : Nat → Nat) (e : pz_Ce) (h : pz_sh[54]? = some e) : (ct_W cA ad)[54]? = some (ad 54, pz_ce cA ad (st_0 L xs) 54 e) := by
  have h' : e = (.inr (.int, 6) : pz_Ce) := (Option.some.inj (h.symm.trans (by rfl : pz_sh[54]? = some (.inr (.int, 6)))))
  subst h'
  rfl
theorem ct_e55 (L : Nat) (xs : Nat → Int32) (cA : FieldType → ClassId) (ad : Nat → Nat) (e : pz_Ce) (h : pz_sh[55]? = some e) : (ct_W cA ad)[55]? = some (ad 55, pz_ce cA ad (st_0 L xs) 55 e) := by
  have h' : e = (.inl (7, [none, some 56, none, some 57, some 58, none, some 59, none, some 60, some 61, some 62, some 63, some 64, some 65, some 66, some 67, some 68, some 69, some 70, some 71, some 72, none, none, some 73, some 74, some 75, some 76, none, some 77, some 78, some 79, some 80, some 81, some 82, some 83, some 84, some 85, some 86, some 87, none, some 88, none, some 89, some 90, some 91, some 92, none, none, none, none, none, none, none, none, none, none, some 93, some 94, none, none, some 95, some 96, none, some 97, none, some 98, some 99, some 100, some 101, some 102, none]) : pz_Ce) := (Option.some.inj (h.symm.trans (by rfl : pz_sh[55]? = some (.inl (7, [none, some 56, none, some 57, some 58, none, some 59, none, some 60, some 61, some 62, some 63, some 64, some 65, some 66, some 67, some 68, some 69, some 70, some 71, some 72, none, none, some 73, some 74, some 75, some 76, none, some 77, some 78, some 79, some 80, some 81, some 82, some 83, some 84, some 85, some 86, some 87, none, some 88, none, some 89, some 90, some 91, some 92, none, none, none, none, none, none, none, none, none, none, some 93, some 94, none, none, some 95, some 96, none, some 97, none, some 98, some 99, some 100, some 101, some 102, none])))))
  subst h'
  show _ = some (ad 55, (.inr (7, List.mapIdx (pz_fv ad (st_0 L xs) 55) [none, some 56, none, some 57, some 58, none, some 59, none, some 60, some 61, some 62, some 63, some 64, some 65, some 66, some 67, some 68, some 69, some 70, some 71, some 72, none, none, some 73, some 74, some 75, some 76, none, some 77, some 78, some 79, some 80, some 81, some 82, some 83, some 84, some 85, some 86, some 87, none, some 88, none, some 89, some 90, some 91, some 92, none, none, none, none, none, none, none, none, none, none, some 93, some 94, none, none, some 95, some 96, none, some 97, none, some 98, some 99, some 100, some 101, some 102, none]) : va_E))
  rw [ct_m0]
  rfl
theorem ct_e56 (L : Nat) (xs : Nat → Int32) (cA : FieldType → ClassId) (ad : Nat → Nat) (e : pz_Ce) (h : pz_sh[56]? = some e) : (ct_W cA ad)[56]? = some (ad 56, pz_ce cA ad (st_0 L xs) 56 e) := by
  have h' : e = (.inr (.int, 8) : pz_Ce) := (Option.some.inj (h.symm.trans (by rfl : pz_sh[56]? = some (.inr (.int, 8)))))
  subst h'
  rfl
theorem ct_e57 (L : Nat) (xs : Nat → Int32) (cA : FieldType → ClassId) (ad : Nat → Nat) (e : pz_Ce) (h : pz_sh[57]? = some e) : (ct_W cA ad)[57]? = some (ad 57, pz_ce cA ad (st_0 L xs) 57 e) := by
  have h' : e = (.inr (.int, 16) : pz_Ce) := (Option.some.inj (h.symm.trans (by rfl : pz_sh[57]? = some (.inr (.int, 16)))))
  subst h'
  rfl
theorem ct_e58 (L : Nat) (xs : Nat → Int32) (cA : FieldType → ClassId) (ad : Nat → Nat) (e : pz_Ce) (h : pz_sh[58]? = some e) : (ct_W cA ad)[58]? = some (ad 58, pz_ce cA ad (st_0 L xs) 58 e) := by
  have h' : e = (.inr (.boolean, 16) : pz_Ce) := (Option.some.inj (h.symm.trans (by rfl : pz_sh[58]? = some (.inr (.boolean, 16)))))
  subst h'
  rfl
theorem ct_e59 (L : Nat) (xs : Nat → Int32) (cA : FieldType → ClassId) (ad : Nat → Nat) (e : pz_Ce) (h : pz_sh[59]? = some e) : (ct_W cA ad)[59]? = some (ad 59, pz_ce cA ad (st_0 L xs) 59 e) := by
  have h' : e = (.inr (.boolean, 8) : pz_Ce) := (Option.some.inj (h.symm.trans (by rfl : pz_sh[59]? = some (.inr (.boolean, 8)))))
  subst h'
  rfl
theorem ct_e60 (L : Nat) (xs : Nat → Int32) (cA : FieldType → ClassId) (ad : Nat → Nat) (e : pz_Ce) (h : pz_sh[60]? = some e) : (ct_W cA ad)[60]? = some (ad 60, pz_ce cA ad (st_0 L xs) 60 e) := by
  have h' : e = (.inr (.int, 10) : pz_Ce) := (Option.some.inj (h.symm.trans (by rfl : pz_sh[60]? = some (.inr (.int, 10)))))
  subst h'
  rfl
theorem ct_e61 (L : Nat) (xs : Nat → Int32) (cA : FieldType → ClassId) (ad : Nat → Nat) (e : pz_Ce) (h : pz_sh[61]? = some e) : (ct_W cA ad)[61]? = some (ad 61, pz_ce cA ad (st_0 L xs) 61 e) := by
  have h' : e = (.inr (.int, 10) : pz_Ce) := (Option.some.inj (h.symm.trans (by rfl : pz_sh[61]? = some (.inr (.int, 10)))))
  subst h'
  rfl
theorem ct_e62 (L : Nat) (xs : Nat → Int32) (cA : FieldType → ClassId) (ad : Nat → Nat) (e : pz_Ce) (h : pz_sh[62]? = some e) : (ct_W cA ad)[62]? = some (ad 62, pz_ce cA ad (st_0 L xs) 62 e) := by
  have h' : e = (.inr (.int, 10) : pz_Ce) := (Option.some.inj (h.symm.trans (by rfl : pz_sh[62]? = some (.inr (.int, 10)))))
  subst h'
  rfl
theorem ct_e63 (L : Nat) (xs : Nat → Int32) (cA : FieldType → ClassId) (ad : Nat → Nat) (e : pz_Ce) (h : pz_sh[63]? = some e) : (ct_W cA ad)[63]? = some (ad 63, pz_ce cA ad (st_0 L xs) 63 e) := by
  have h' : e = (.inr (.int, 10) : pz_Ce) := (Option.some.inj (h.symm.trans (by rfl : pz_sh[63]? = some (.inr (.int, 10)))))
  subst h'
  rfl
theorem ct_e64 (L : Nat) (xs : Nat → Int32) (cA : FieldType → ClassId) (ad : Nat → Nat) (e : pz_Ce) (h : pz_sh[64]? = some e) : (ct_W cA ad)[64]? = some (ad 64, pz_ce cA ad (st_0 L xs) 64 e) := by
  have h' : e = (.inr (.int, 240) : pz_Ce) := (Option.some.inj (h.symm.trans (by rfl : pz_sh[64]? = some (.inr (.int, 240)))))
  subst h'
  rfl
theorem ct_e65 (L : Nat) (xs : Nat → Int32) (cA : FieldType → ClassId) (ad : Nat → Nat) (e : pz_Ce) (h : pz_sh[65]? = some e) : (ct_W cA ad)[65]? = some (ad 65, pz_ce cA ad (st_0 L xs) 65 e) := by
  have h' : e = (.inr (.int, 240) : pz_Ce) := (Option.some.inj (h.symm.trans (by rfl : pz_sh[65]? = some (.inr (.int, 240)))))
  subst h'
  rfl
theorem ct_e66 (L : Nat) (xs : Nat → Int32) (cA : FieldType → ClassId) (ad : Nat → Nat) (e : pz_Ce) (h : pz_sh[66]? = some e) : (ct_W cA ad)[66]? = some (ad 66, pz_ce cA ad (st_0 L xs) 66 e) := by
  have h' : e = (.inr (.int, 240) : pz_Ce) := (Option.some.inj (h.symm.trans (by rfl : pz_sh[66]? = some (.inr (.int, 240)))))
  subst h'
  rfl
theorem ct_e67 (L : Nat) (xs : Nat → Int32) (cA : FieldType → ClassId) (ad : Nat → Nat) (e : pz_Ce) (h : pz_sh[67]? = some e) : (ct_W cA ad)[67]? = some (ad 67, pz_ce cA ad (st_0 L xs) 67 e) := by
  have h' : e = (.inr (.int, 240) : pz_Ce) := (Option.some.inj (h.symm.trans (by rfl : pz_sh[67]? = some (.inr (.int, 240)))))
  subst h'
  rfl
theorem ct_e68 (L : Nat) (xs : Nat → Int32) (cA : FieldType → ClassId) (ad : Nat → Nat) (e : pz_Ce) (h : pz_sh[68]? = some e) : (ct_W cA ad)[68]? = some (ad 68, pz_ce cA ad (st_0 L xs) 68 e) := by
  have h' : e = (.inr (.int, 10) : pz_Ce) := (Option.some.inj (h.symm.trans (by rfl : pz_sh[68]? = some (.inr (.int, 10)))))
  subst h'
  rfl
theorem ct_e69 (L : Nat) (xs : Nat → Int32) (cA : FieldType → ClassId) (ad : Nat → Nat) (e : pz_Ce) (h : pz_sh[69]? = some e) : (ct_W cA ad)[69]? = some (ad 69, pz_ce cA ad (st_0 L xs) 69 e) := by
  have h' : e = (.inr (.int, 40) : pz_Ce) := (Option.some.inj (h.symm.trans (by rfl : pz_sh[69]? = some (.inr (.int, 40)))))
  subst h'
  rfl
theorem ct_e70 (L : Nat) (xs : Nat → Int32) (cA : FieldType → ClassId) (ad : Nat → Nat) (e : pz_Ce) (h : pz_sh[70]? = some e) : (ct_W cA ad)[70]? = some (ad 70, pz_ce cA ad (st_0 L xs) 70 e) := by
  have h' : e = (.inr (.int, 40) : pz_Ce) := (Option.some.inj (h.symm.trans (by rfl : pz_sh[70]? = some (.inr (.int, 40)))))
  subst h'
  rfl
theorem ct_e71 (L : Nat) (xs : Nat → Int32) (cA : FieldType → ClassId) (ad : Nat → Nat) (e : pz_Ce) (h : pz_sh[71]? = some e) : (ct_W cA ad)[71]? = some (ad 71, pz_ce cA ad (st_0 L xs) 71 e) := by
  have h' : e = (.inr (.int, 40) : pz_Ce) := (Option.some.inj (h.symm.trans (by rfl : pz_sh[71]? = some (.inr (.int, 40)))))
  subst h'
  rfl
theorem ct_e72 (L : Nat) (xs : Nat → Int32) (cA : FieldType → ClassId) (ad : Nat → Nat) (e : pz_Ce) (h : pz_sh[72]? = some e) : (ct_W cA ad)[72]? = some (ad 72, pz_ce cA ad (st_0 L xs) 72 e) := by
  have h' : e = (.inr (.int, 40) : pz_Ce) := (Option.some.inj (h.symm.trans (by rfl : pz_sh[72]? = some (.inr (.int, 40)))))
  subst h'
  rfl
theorem ct_e73 (L : Nat) (xs : Nat → Int32) (cA : FieldType → ClassId) (ad : Nat → Nat) (e : pz_Ce) (h : pz_sh[73]? = some e) : (ct_W cA ad)[73]? = some (ad 73, pz_ce cA ad (st_0 L xs) 73 e) := by
  have h' : e = (.inr (.int, 60) : pz_Ce) := (Option.some.inj (h.symm.trans (by rfl : pz_sh[73]? = some (.inr (.int, 60)))))
  subst h'
  rfl
theorem ct_e74 (L : Nat) (xs : Nat → Int32) (cA : FieldType → ClassId) (ad : Nat → Nat) (e : pz_Ce) (h : pz_sh[74]? = some e) : (ct_W cA ad)[74]? = some (ad 74, pz_ce cA ad (st_0 L xs) 74 e) := by
  have h' : e = (.inr (.int, 60) : pz_Ce) := (Option.some.inj (h.symm.trans (by rfl : pz_sh[74]? = some (.inr (.int, 60)))))
  subst h'
  rfl
theorem ct_e75 (L : Nat) (xs : Nat → Int32) (cA : FieldType → ClassId) (ad : Nat → Nat) (e : pz_Ce) (h : pz_sh[75]? = some e) : (ct_W cA ad)[75]? = some (ad 75, pz_ce cA ad (st_0 L xs) 75 e) := by
  have h' : e = (.inr (.int, 960) : pz_Ce) := (Option.some.inj (h.symm.trans (by rfl : pz_sh[75]? = some (.inr (.int, 960)))))
  subst h'
  rfl
theorem ct_e76 (L : Nat) (xs : Nat → Int32) (cA : FieldType → ClassId) (ad : Nat → Nat) (e : pz_Ce) (h : pz_sh[76]? = some e) : (ct_W cA ad)[76]? = some (ad 76, pz_ce cA ad (st_0 L xs) 76 e) := by
  have h' : e = (.inr (.int, 8) : pz_Ce) := (Option.some.inj (h.symm.trans (by rfl : pz_sh[76]? = some (.inr (.int, 8)))))
  subst h'
  rfl
theorem ct_e77 (L : Nat) (xs : Nat → Int32) (cA : FieldType → ClassId) (ad : Nat → Nat) (e : pz_Ce) (h : pz_sh[77]? = some e) : (ct_W cA ad)[77]? = some (ad 77, pz_ce cA ad (st_0 L xs) 77 e) := by
  have h' : e = (.inr (.int, 200) : pz_Ce) := (Option.some.inj (h.symm.trans (by rfl : pz_sh[77]? = some (.inr (.int, 200)))))
  subst h'
  rfl
theorem ct_e78 (L : Nat) (xs : Nat → Int32) (cA : FieldType → ClassId) (ad : Nat → Nat) (e : pz_Ce) (h : pz_sh[78]? = some e) : (ct_W cA ad)[78]? = some (ad 78, pz_ce cA ad (st_0 L xs) 78 e) := by
  have h' : e = (.inr (.int, 6) : pz_Ce) := (Option.some.inj (h.symm.trans (by rfl : pz_sh[78]? = some (.inr (.int, 6)))))
  subst h'
  rfl
theorem ct_e79 (L : Nat) (xs : Nat → Int32) (cA : FieldType → ClassId) (ad : Nat → Nat) (e : pz_Ce) (h : pz_sh[79]? = some e) : (ct_W cA ad)[79]? = some (ad 79, pz_ce cA ad (st_0 L xs) 79 e) := by
  have h' : e = (.inr (.int, 6) : pz_Ce) := (Option.some.inj (h.symm.trans (by rfl : pz_sh[79]? = some (.inr (.int, 6)))))
  subst h'
  rfl
theorem ct_e80 (L : Nat) (xs : Nat → Int32) (cA : FieldType → ClassId) (ad : Nat → Nat) (e : pz_Ce) (h : pz_sh[80]? = some e) : (ct_W cA ad)[80]? = some (ad 80, pz_ce cA ad (st_0 L xs) 80 e) := by
  have h' : e = (.inr (.int, 2000) : pz_Ce) := (Option.some.inj (h.symm.trans (by rfl : pz_sh[80]? = some (.inr (.int, 2000)))))
  subst h'
  rfl
theorem ct_e81 (L : Nat) (xs : Nat → Int32) (cA : FieldType → ClassId) (ad : Nat → Nat) (e : pz_Ce) (h : pz_sh[81]? = some e) : (ct_W cA ad)[81]? = some (ad 81, pz_ce cA ad (st_0 L xs) 81 e) := by
  have h' : e = (.inr (.boolean, 250) : pz_Ce) := (Option.some.inj (h.symm.trans (by rfl : pz_sh[81]? = some (.inr (.boolean, 250)))))
  subst h'
  rfl
theorem ct_e82 (L : Nat) (xs : Nat → Int32) (cA : FieldType → ClassId) (ad : Nat → Nat) (e : pz_Ce) (h : pz_sh[82]? = some e) : (ct_W cA ad)[82]? = some (ad 82, pz_ce cA ad (st_0 L xs) 82 e) := by
  have h' : e = (.inr (.boolean, 10) : pz_Ce) := (Option.some.inj (h.symm.trans (by rfl : pz_sh[82]? = some (.inr (.boolean, 10)))))
  subst h'
  rfl
theorem ct_e83 (L : Nat) (xs : Nat → Int32) (cA : FieldType → ClassId) (ad : Nat → Nat) (e : pz_Ce) (h : pz_sh[83]? = some e) : (ct_W cA ad)[83]? = some (ad 83, pz_ce cA ad (st_0 L xs) 83 e) := by
  have h' : e = (.inr (.boolean, 10) : pz_Ce) := (Option.some.inj (h.symm.trans (by rfl : pz_sh[83]? = some (.inr (.boolean, 10)))))
  subst h'
  rfl
theorem ct_e84 (L : Nat) (xs : Nat → Int32) (cA : FieldType → ClassId) (ad : Nat → Nat) (e : pz_Ce) (h : pz_sh[84]? = some e) : (ct_W cA ad)[84]? = some (ad 84, pz_ce cA ad (st_0 L xs) 84 e) := by
  have h' : e = (.inr (.int, 10) : pz_Ce) := (Option.some.inj (h.symm.trans (by rfl : pz_sh[84]? = some (.inr (.int, 10)))))
  subst h'
  rfl
theorem ct_e85 (L : Nat) (xs : Nat → Int32) (cA : FieldType → ClassId) (ad : Nat → Nat) (e : pz_Ce) (h : pz_sh[85]? = some e) : (ct_W cA ad)[85]? = some (ad 85, pz_ce cA ad (st_0 L xs) 85 e) := by
  have h' : e = (.inr (.int, 10) : pz_Ce) := (Option.some.inj (h.symm.trans (by rfl : pz_sh[85]? = some (.inr (.int, 10)))))
  subst h'
  rfl
theorem ct_e86 (L : Nat) (xs : Nat → Int32) (cA : FieldType → ClassId) (ad : Nat → Nat) (e : pz_Ce) (h : pz_sh[86]? = some e) : (ct_W cA ad)[86]? = some (ad 86, pz_ce cA ad (st_0 L xs) 86 e) := by
  have h' : e = (.inr (.int, 40) : pz_Ce) := (Option.some.inj (h.symm.trans (by rfl : pz_sh[86]? = some (.inr (.int, 40)))))
  subst h'
  rfl
theorem ct_e87 (L : Nat) (xs : Nat → Int32) (cA : FieldType → ClassId) (ad : Nat → Nat) (e : pz_Ce) (h : pz_sh[87]? = some e) : (ct_W cA ad)[87]? = some (ad 87, pz_ce cA ad (st_0 L xs) 87 e) := by
  have h' : e = (.inr (.int, 40) : pz_Ce) := (Option.some.inj (h.symm.trans (by rfl : pz_sh[87]? = some (.inr (.int, 40)))))
  subst h'
  rfl
theorem ct_e88 (L : Nat) (xs : Nat → Int32) (cA : FieldType → ClassId) (ad : Nat → Nat) (e : pz_Ce) (h : pz_sh[88]? = some e) : (ct_W cA ad)[88]? = some (ad 88, pz_ce cA ad (st_0 L xs) 88 e) := by
  have h' : e = (.inr (.int, 8) : pz_Ce) := (Option.some.inj (h.symm.trans (by rfl : pz_sh[88]? = some (.inr (.int, 8)))))
  subst h'
  rfl
theorem ct_e89 (L : Nat) (xs : Nat → Int32) (cA : FieldType → ClassId) (ad : Nat → Nat) (e : pz_Ce) (h : pz_sh[89]? = some e) : (ct_W cA ad)[89]? = some (ad 89, pz_ce cA ad (st_0 L xs) 89 e) := by
  have h' : e = (.inr (.int, 12) : pz_Ce) := (Option.some.inj (h.symm.trans (by rfl : pz_sh[89]? = some (.inr (.int, 12)))))
  subst h'
  rfl
theorem ct_e90 (L : Nat) (xs : Nat → Int32) (cA : FieldType → ClassId) (ad : Nat → Nat) (e : pz_Ce) (h : pz_sh[90]? = some e) : (ct_W cA ad)[90]? = some (ad 90, pz_ce cA ad (st_0 L xs) 90 e) := by
  have h' : e = (.inr (.int, 12) : pz_Ce) := (Option.some.inj (h.symm.trans (by rfl : pz_sh[90]? = some (.inr (.int, 12)))))
  subst h'
  rfl
theorem ct_e91 (L : Nat) (xs : Nat → Int32) (cA : FieldType → ClassId) (ad : Nat → Nat) (e : pz_Ce) (h : pz_sh[91]? = some e) : (ct_W cA ad)[91]? = some (ad 91, pz_ce cA ad (st_0 L xs) 91 e) := by
  have h' : e = (.inr (.int, 96) : pz_Ce) := (Option.some.inj (h.symm.trans (by rfl : pz_sh[91]? = some (.inr (.int, 96)))))
  subst h'
  rfl
theorem ct_e92 (L : Nat) (xs : Nat → Int32) (cA : FieldType → ClassId) (ad : Nat → Nat) (e : pz_Ce) (h : pz_sh[92]? = some e) : (ct_W cA ad)[92]? = some (ad 92, pz_ce cA ad (st_0 L xs) 92 e) := by
  have h' : e = (.inr (.int, 96) : pz_Ce) := (Option.some.inj (h.symm.trans (by rfl : pz_sh[92]? = some (.inr (.int, 96)))))
  subst h'
  rfl
theorem ct_e93 (L : Nat) (xs : Nat → Int32) (cA : FieldType → ClassId) (ad : Nat → Nat) (e : pz_Ce) (h : pz_sh[93]? = some e) : (ct_W cA ad)[93]? = some (ad 93, pz_ce cA ad (st_0 L xs) 93 e) := by
  have h' : e = (.inr (.int, 60) : pz_Ce) := (Option.some.inj (h.symm.trans (by rfl : pz_sh[93]? = some (.inr (.int, 60)))))
  subst h'
  rfl
theorem ct_e94 (L : Nat) (xs : Nat → Int32) (cA : FieldType → ClassId) (ad : Nat → Nat) (e : pz_Ce) (h : pz_sh[94]? = some e) : (ct_W cA ad)[94]? = some (ad 94, pz_ce cA ad (st_0 L xs) 94 e) := by
  have h' : e = (.inr (.int, 60) : pz_Ce) := (Option.some.inj (h.symm.trans (by rfl : pz_sh[94]? = some (.inr (.int, 60)))))
  subst h'
  rfl
theorem ct_e95 (L : Nat) (xs : Nat → Int32) (cA : FieldType → ClassId) (ad : Nat → Nat) (e : pz_Ce) (h : pz_sh[95]? = some e) : (ct_W cA ad)[95]? = some (ad 95, pz_ce cA ad (st_0 L xs) 95 e) := by
  have h' : e = (.inr (.int, 1300) : pz_Ce) := (Option.some.inj (h.symm.trans (by rfl : pz_sh[95]? = some (.inr (.int, 1300)))))
  subst h'
  rfl
theorem ct_e96 (L : Nat) (xs : Nat → Int32) (cA : FieldType → ClassId) (ad : Nat → Nat) (e : pz_Ce) (h : pz_sh[96]? = some e) : (ct_W cA ad)[96]? = some (ad 96, pz_ce cA ad (st_0 L xs) 96 e) := by
  have h' : e = (.inr (.int, 1300) : pz_Ce) := (Option.some.inj (h.symm.trans (by rfl : pz_sh[96]? = some (.inr (.int, 1300)))))
  subst h'
  rfl
theorem ct_e97 (L : Nat) (xs : Nat → Int32) (cA : FieldType → ClassId) (ad : Nat → Nat) (e : pz_Ce) (h : pz_sh[97]? = some e) : (ct_W cA ad)[97]? = some (ad 97, pz_ce cA ad (st_0 L xs) 97 e) := by
  have h' : e = (.inr (.int, 6) : pz_Ce) := (Option.some.inj (h.symm.trans (by rfl : pz_sh[97]? = some (.inr (.int, 6)))))
  subst h'
  rfl
theorem ct_e98 (L : Nat) (xs : Nat → Int32) (cA : FieldType → ClassId) (ad : Nat → Nat) (e : pz_Ce) (h : pz_sh[98]? = some e) : (ct_W cA ad)[98]? = some (ad 98, pz_ce cA ad (st_0 L xs) 98 e) := by
  have h' : e = (.inr (.int, 4) : pz_Ce) := (Option.some.inj (h.symm.trans (by rfl : pz_sh[98]? = some (.inr (.int, 4)))))
  subst h'
  rfl
theorem ct_e99 (L : Nat) (xs : Nat → Int32) (cA : FieldType → ClassId) (ad : Nat → Nat) (e : pz_Ce) (h : pz_sh[99]? = some e) : (ct_W cA ad)[99]? = some (ad 99, pz_ce cA ad (st_0 L xs) 99 e) := by
  have h' : e = (.inr (.int, 4) : pz_Ce) := (Option.some.inj (h.symm.trans (by rfl : pz_sh[99]? = some (.inr (.int, 4)))))
  subst h'
  rfl
theorem ct_e100 (L : Nat) (xs : Nat → Int32) (cA : FieldType → ClassId) (ad : Nat → Nat) (e : pz_Ce) (h : pz_sh[100]? = some e) : (ct_W cA ad)[100]? = some (ad 100, pz_ce cA ad (st_0 L xs) 100 e) := by
  have h' : e = (.inr (.int, 60) : pz_Ce) := (Option.some.inj (h.symm.trans (by rfl : pz_sh[100]? = some (.inr (.int, 60)))))
  subst h'
  rfl
theorem ct_e101 (L : Nat) (xs : Nat → Int32) (cA : FieldType → ClassId) (ad : Nat → Nat) (e : pz_Ce) (h : pz_sh[101]? = some e) : (ct_W cA ad)[101]? = some (ad 101, pz_ce cA ad (st_0 L xs) 101 e) := by
  have h' : e = (.inr (.boolean, 60) : pz_Ce) := (Option.some.inj (h.symm.trans (by rfl : pz_sh[101]? = some (.inr (.boolean, 60)))))
  subst h'
  rfl
theorem ct_e102 (L : Nat) (xs : Nat → Int32) (cA : FieldType → ClassId) (ad : Nat → Nat) (e : pz_Ce) (h : pz_sh[102]? = some e) : (ct_W cA ad)[102]? = some (ad 102, pz_ce cA ad (st_0 L xs) 102 e) := by
  have h' : e = (.inr (.int, 60) : pz_Ce) := (Option.some.inj (h.symm.trans (by rfl : pz_sh[102]? = some (.inr (.int, 60)))))
  subst h'
  rfl
theorem ct_ws (L : Nat) (xs : Nat → Int32) (cA : FieldType → ClassId) (ad : Nat → Nat) : ∀ (k : Nat) (e : pz_Ce), pz_sh[k]? = some e → (ct_W cA ad)[k]? = some (ad k, pz_ce cA ad (st_0 L xs) k e) := fun k e h => match k, h with
  | 0, h => ct_e0 L xs cA ad e h
  | 1, h => ct_e1 L xs cA ad e h
  | 2, h => ct_e2 L xs cA ad e h
  | 3, h => ct_e3 L xs cA ad e h
  | 4, h => ct_e4 L xs cA ad e h
  | 5, h => ct_e5 L xs cA ad e h
  | 6, h => ct_e6 L xs cA ad e h
  | 7, h => ct_e7 L xs cA ad e h
  | 8, h => ct_e8 L xs cA ad e h
  | 9, h => ct_e9 L xs cA ad e h
  | 10, h => ct_e10 L xs cA ad e h
  | 11, h => ct_e11 L xs cA ad e h
  | 12, h => ct_e12 L xs cA ad e h
  | 13, h => ct_e13 L xs cA ad e h
  | 14, h => ct_e14 L xs cA ad e h
  | 15, h => ct_e15 L xs cA ad e h
  | 16, h => ct_e16 L xs cA ad e h
  | 17, h => ct_e17 L xs cA ad e h
  | 18, h => ct_e18 L xs cA ad e h
  | 19, h => ct_e19 L xs cA ad e h
  | 20, h => ct_e20 L xs cA ad e h
  | 21, h => ct_e21 L xs cA ad e h
  | 22, h => ct_e22 L xs cA ad e h
  | 23, h => ct_e23 L xs cA ad e h
  | 24, h => ct_e24 L xs cA ad e h
  | 25, h => ct_e25 L xs cA ad e h
  | 26, h => ct_e26 L xs cA ad e h
  | 27, h => ct_e27 L xs cA ad e h
  | 28, h => ct_e28 L xs cA ad e h
  | 29, h => ct_e29 L xs cA ad e h
  | 30, h => ct_e30 L xs cA ad e h
  | 31, h => ct_e31 L xs cA ad e h
  | 32, h => ct_e32 L xs cA ad e h
  | 33, h => ct_e33 L xs cA ad e h
  | 34, h => ct_e34 L xs cA ad e h
  | 35, h => ct_e35 L xs cA ad e h
  | 36, h => ct_e36 L xs cA ad e h
  | 37, h => ct_e37 L xs cA ad e h
  | 38, h => ct_e38 L xs cA ad e h
  | 39, h => ct_e39 L xs cA ad e h
  | 40, h => ct_e40 L xs cA ad e h
  | 41, h => ct_e41 L xs cA ad e h
  | 42, h => ct_e42 L xs cA ad e h
  | 43, h => ct_e43 L xs cA ad e h
  | 44, h => ct_e44 L xs cA ad e h
  | 45, h => ct_e45 L xs cA ad e h
  | 46, h => ct_e46 L xs cA ad e h
  | 47, h => ct_e47 L xs cA ad e h
  | 48, h => ct_e48 L xs cA ad e h
  | 49, h => ct_e49 L xs cA ad e h
  | 50, h => ct_e50 L xs cA ad e h
  | 51, h => ct_e51 L xs cA ad e h
  | 52, h => ct_e52 L xs cA ad e h
  | 53, h => ct_e53 L xs cA ad e h
  | 54, h => ct_e54 L xs cA ad e h
  | 55, h => ct_e55 L xs cA ad e h
  | 56, h => ct_e56 L xs cA ad e h
  | 57, h => ct_e57 L xs cA ad e h
  | 58, h => ct_e58 L xs cA ad e h
  | 59, h => ct_e59 L xs cA ad e h
  | 60, h => ct_e60 L xs cA ad e h
  | 61, h => ct_e61 L xs cA ad e h
  | 62, h => ct_e62 L xs cA ad e h
  | 63, h => ct_e63 L xs cA ad e h
  | 64, h => ct_e64 L xs cA ad e h
  | 65, h => ct_e65 L xs cA ad e h
  | 66, h => ct_e66 L xs cA ad e h
  | 67, h => ct_e67 L xs cA ad e h
  | 68, h => ct_e68 L xs cA ad e h
  | 69, h => ct_e69 L xs cA ad e h
  | 70, h => ct_e70 L xs cA ad e h
  | 71, h => ct_e71 L xs cA ad e h
  | 72, h => ct_e72 L xs cA ad e h
  | 73, h => ct_e73 L xs cA ad e h
  | 74, h => ct_e74 L xs cA ad e h
  | 75, h => ct_e75 L xs cA ad e h
  | 76, h => ct_e76 L xs cA ad e h
  | 77, h => ct_e77 L xs cA ad e h
  | 78, h => ct_e78 L xs cA ad e h
  | 79, h => ct_e79 L xs cA ad e h
  | 80, h => ct_e80 L xs cA ad e h
  | 81, h => ct_e81 L xs cA ad e h
  | 82, h => ct_e82 L xs cA ad e h
  | 83, h => ct_e83 L xs cA ad e h
  | 84, h => ct_e84 L xs cA ad e h
  | 85, h => ct_e85 L xs cA ad e h
  | 86, h => ct_e86 L xs cA ad e h
  | 87, h => ct_e87 L xs cA ad e h
  | 88, h => ct_e88 L xs cA ad e h
  | 89, h => ct_e89 L xs cA ad e h
  | 90, h => ct_e90 L xs cA ad e h
  | 91, h => ct_e91 L xs cA ad e h
  | 92, h => ct_e92 L xs cA ad e h
  | 93, h => ct_e93 L xs cA ad e h
  | 94, h => ct_e94 L xs cA ad e h
  | 95, h => ct_e95 L xs cA ad e h
  | 96, h => ct_e96 L xs cA ad e h
  | 97, h => ct_e97 L xs cA ad e h
  | 98, h => ct_e98 L xs cA ad e h
  | 99, h => ct_e99 L xs cA ad e h
  | 100, h => ct_e100 L xs cA ad e h
  | 101, h => ct_e101 L xs cA ad e h
  | 102, h => ct_e102 L xs cA ad e h
  | n + 103, h => absurd (pz_sh_lt h) (by omega)
