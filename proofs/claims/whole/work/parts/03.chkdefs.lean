/-! what the tables must say of a method -/
def pz_nw : Cond := .fieldLinkNest "PurityEffects$Program" 72 "PurityEffects" "WANTED" "[I" "PurityEffects"
def pz_ci (mi : pz_MI) (pc : Nat) (ins : Instr) (len a1 a2 pos : Nat) : Bool := match ins with
  | .iload _ => len == 2
  | .lload _ => len == 2
  | .aload _ => len == 2
  | .bipush _ => len == 2
  | .istore k => len == 2 && decide (k < mi.1.2.2.1)
  | .astore k => len == 2 && decide (k < mi.1.2.2.1)
  | .istore_n k => len == 1 && decide (k.val < mi.1.2.2.1)
  | .astore_n k => len == 1 && decide (k.val < mi.1.2.2.1)
  | .lstore k => len == 2 && decide (k + 1 < mi.1.2.2.1)
  | .lstore_n k => len == 1 && decide (k.val + 1 < mi.1.2.2.1)
  | .iinc k _ => (len == 3 || len == 6) && decide (k < mi.1.2.2.1)
  | .ldc k => len == 2 && decide (lw_tbl[pos]? = some (.constant (pz_nm mi.2.1.1) k (Int32.ofNat a1)))
  | .ldc2_w k => len == 3 && decide (lw_tbl[pos]? = some (.constantLong (pz_nm mi.2.1.1) k (Int64.ofNat a1)))
  | .sipush _ => len == 3
  | .ifCond _ o => len == 3 && decide ((pc : Int) + o = (a1 : Int))
  | .if_icmp _ o => len == 3 && decide ((pc : Int) + o = (a1 : Int))
  | .goto o => len == 3 && decide ((pc : Int) + o = (a1 : Int))
  | .tableswitch d lo hi offs => decide (0 ≤ (pc : Int) + d) && offs.toList.all (fun o => decide (0 ≤ (pc : Int) + o)) && decide ((offs.toList.length : Int) = hi - lo + 1) && decide (-2147483648 ≤ lo) && decide (hi < 2147483648)
  | .lookupswitch d ps => decide (0 ≤ (pc : Int) + d) && ps.toList.all (fun o => decide (0 ≤ (pc : Int) + o.2) && decide (-2147483648 ≤ o.1) && decide (o.1 < 2147483648)) && (ps.toList.zip (ps.toList.drop 1)).all (fun (a, next) => a.1 < next.1)
  | .getfield k => len == 3 && decide (a1 < 8) && decide (a2 < pz_N a1) && decide ((pz_T a1 a2).1 = pz_nm a1) && decide (lw_tbl[pos]? = some (.fieldLink (pz_nm mi.2.1.1) k (pz_nm a1) (pz_T a1 a2).2.1 (pz_T a1 a2).2.2.1))
  | .putfield k => len == 3 && decide (a1 < 8) && decide (a2 < pz_N a1) && decide ((pz_T a1 a2).1 = pz_nm a1) && decide (lw_tbl[pos]? = some (.fieldLink (pz_nm mi.2.1.1) k (pz_nm a1) (pz_T a1 a2).2.1 (pz_T a1 a2).2.2.1)) && decide ((pz_T a1 a2).2.2.2 = false)
  | .getstatic k => len == 3 && decide (pz_nw = .fieldLinkNest (pz_nm mi.2.1.1) k "PurityEffects" "WANTED" "[I" "PurityEffects")
  | .invokevirtual k => len == 3 && decide (a1 < 180) && decide (a2 = (pz_Mt a1).2.2.2.2) && ((pz_Mt a1).2.1.2.1 == false) && decide ((pz_Mt a1).2.1.2.2.1 + 1 ≤ mi.2.1.2.2.1) && decide (8 + ((pz_Mt a1).1.2.2.1 + 11) + (pz_Mt a1).2.1.2.2.2 ≤ mi.2.1.2.2.2) && decide (lw_tbl[pos]? = some (.methodLink (pz_nm mi.2.1.1) k (pz_Mt a1).1.1))
  | .invokestatic k => len == 3 && (bif a1 == 900 then decide (1 ≤ mi.2.1.2.2.1) && decide (21 ≤ mi.2.1.2.2.2) && decide (lw_tbl[pos]? = some (.methodLink (pz_nm mi.2.1.1) k Lib.Math.min.name))
      else bif a1 == 901 then decide (1 ≤ mi.2.1.2.2.1) && decide (26 ≤ mi.2.1.2.2.2) && decide (lw_tbl[pos]? = some (.methodLink (pz_nm mi.2.1.1) k arraycopyName))
      else decide (a1 < 180) && decide (a2 = (pz_Mt a1).2.2.2.2) && ((pz_Mt a1).2.1.2.1 == true) && decide ((pz_Mt a1).2.1.2.2.1 + 1 ≤ mi.2.1.2.2.1) && decide (8 + ((pz_Mt a1).1.2.2.1 + 11) + (pz_Mt a1).2.1.2.2.2 ≤ mi.2.1.2.2.2) && decide (lw_tbl[pos]? = some (.methodLink (pz_nm mi.2.1.1) k (pz_Mt a1).1.1)))
  | _ => len == 1
def pz_c1i (mi : pz_MI) (i : pz_Ins) : Bool := decide (decode mi.1.2.1 i.1 = .ok (i.2.1, i.2.2.1)) && pz_ci mi i.1 i.2.1 i.2.2.1 i.2.2.2.1 i.2.2.2.2.1 i.2.2.2.2.2
def pz_chk (mid : Nat) : Bool := (pz_Mt mid).2.2.1.all (pz_c1i (pz_Mt mid))
/-- a method that is called: its own words -/
def pz_cal (mid : Nat) : Bool :=
  decide (lw_tbl[(pz_Mt mid).2.2.2.1.2.1]? = some (.initialized (pz_nm (pz_Mt mid).2.1.1)))
  && (bif (pz_Mt mid).2.1.2.1 then decide (lw_tbl[(pz_Mt mid).2.2.2.1.2.2.1]? = some (.static (pz_Mt mid).1.1)) else decide (lw_tbl[(pz_Mt mid).2.2.2.1.2.2.1]? = some (.instanceMethod (pz_Mt mid).1.1)) && decide (lw_tbl[(pz_Mt mid).2.2.2.1.2.2.2]? = some (.selects (pz_nm (pz_Mt mid).2.1.1) (pz_Mt mid).1.1 (pz_Mt mid).1.1)))
  && decide ((pz_Mt mid).1.1.cls = pz_nm (pz_Mt mid).2.1.1) && plainName (pz_Mt mid).1.1.cls && decide ((pz_Mt mid).1.1.cls ≠ "java/lang/invoke/MethodHandle") && decide ((pz_Mt mid).1.1.cls ≠ "java/lang/invoke/VarHandle") && decide ((parseMethodDescriptor (pz_Mt mid).1.1.desc).map (fun d => d.parameters.length) = some (pz_Mt mid).2.2.2.2)
