theorem pz_ok (k : Nat) : pz_chk k = true := sorry
theorem pz_cl (k : Nat) (h : k < 180) : pz_cal k = true := sorry
theorem pz_cw (k : Nat) (h : k < 180) : lw_tbl[(pz_Mt k).2.2.2.1.1]? = some (.code (pz_Mt k).1.1 (pz_Mt k).1.2.1 (pz_Mt k).1.2.2.1 (pz_Mt k).1.2.2.2) := sorry
theorem pz_inq : (List.range 8).all (fun a => (List.range (pz_N a)).all (fun k => decide (lw_tbl[(pz_fp.getD a []).getD k 0]? = some (u_lay (pz_nm a) (pz_T a) k)))) = true := sorry
theorem pz_jw : lw_tbl[100]? = some (.initialized "java/lang/System") ∧ lw_tbl[740]? = some (.static arraycopyName) ∧ lw_tbl[741]? = some (.native arraycopyName) ∧ lw_tbl[101]? = some (.initialized "java/lang/Math") ∧ lw_tbl[743]? = some (.static Lib.Math.min.name) ∧ lw_tbl[744]? = some (.code Lib.Math.min.name Lib.Math.min.code 2 (some .int)) := sorry
