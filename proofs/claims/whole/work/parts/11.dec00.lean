/-! walked by program: X0_kindWith, X0_begins, X0_run, X0_lead, X0_bodyAt, X1_add, X1_weighSet, X1_pack, X6_lastEngine -/
theorem d_X0_kindWith_0 : decode J_X0_kindWith.2.1 0 = .ok (.iload_n 0, 1) := by decide +kernel
theorem d_X0_kindWith_1 : decode J_X0_kindWith.2.1 1 = .ok (.istore_n 2, 1) := by decide +kernel
theorem d_X0_kindWith_2 : decode J_X0_kindWith.2.1 2 = .ok (.iconst 0, 1) := by decide +kernel
theorem d_X0_kindWith_3 : decode J_X0_kindWith.2.1 3 = .ok (.istore_n 3, 1) := by decide +kernel
theorem d_X0_kindWith_4 : decode J_X0_kindWith.2.1 4 = .ok (.iload_n 3, 1) := by decide +kernel
theorem d_X0_kindWith_5 : decode J_X0_kindWith.2.1 5 = .ok (.bipush 6, 2) := by decide +kernel
theorem d_X0_kindWith_7 : decode J_X0_kindWith.2.1 7 = .ok (.if_icmp .ge 31, 3) := by decide +kernel
theorem d_X0_kindWith_10 : decode J_X0_kindWith.2.1 10 = .ok (.iload_n 2, 1) := by decide +kernel
theorem d_X0_kindWith_11 : decode J_X0_kindWith.2.1 11 = .ok (.ifCond .le 27, 3) := by decide +kernel
theorem d_X0_kindWith_14 : decode J_X0_kindWith.2.1 14 = .ok (.getstatic 43, 3) := by decide +kernel
theorem d_X0_kindWith_17 : decode J_X0_kindWith.2.1 17 = .ok (.iload_n 2, 1) := by decide +kernel
theorem d_X0_kindWith_18 : decode J_X0_kindWith.2.1 18 = .ok (.iconst 4, 1) := by decide +kernel
theorem d_X0_kindWith_19 : decode J_X0_kindWith.2.1 19 = .ok (.imul, 1) := by decide +kernel
theorem d_X0_kindWith_20 : decode J_X0_kindWith.2.1 20 = .ok (.iload_n 1, 1) := by decide +kernel
theorem d_X0_kindWith_21 : decode J_X0_kindWith.2.1 21 = .ok (.iadd, 1) := by decide +kernel
theorem d_X0_kindWith_22 : decode J_X0_kindWith.2.1 22 = .ok (.iaload, 1) := by decide +kernel
theorem d_X0_kindWith_23 : decode J_X0_kindWith.2.1 23 = .ok (.ifCond .ne 15, 3) := by decide +kernel
theorem d_X0_kindWith_26 : decode J_X0_kindWith.2.1 26 = .ok (.getstatic 46, 3) := by decide +kernel
theorem d_X0_kindWith_29 : decode J_X0_kindWith.2.1 29 = .ok (.iload_n 2, 1) := by decide +kernel
theorem d_X0_kindWith_30 : decode J_X0_kindWith.2.1 30 = .ok (.iaload, 1) := by decide +kernel
theorem d_X0_kindWith_31 : decode J_X0_kindWith.2.1 31 = .ok (.istore_n 2, 1) := by decide +kernel
theorem d_X0_kindWith_32 : decode J_X0_kindWith.2.1 32 = .ok (.iinc 3 1, 3) := by decide +kernel
theorem d_X0_kindWith_35 : decode J_X0_kindWith.2.1 35 = .ok (.goto (-31), 3) := by decide +kernel
theorem d_X0_kindWith_38 : decode J_X0_kindWith.2.1 38 = .ok (.iconst 0, 1) := by decide +kernel
theorem d_X0_kindWith_39 : decode J_X0_kindWith.2.1 39 = .ok (.iload_n 2, 1) := by decide +kernel
theorem d_X0_kindWith_40 : decode J_X0_kindWith.2.1 40 = .ok (.invokestatic 49, 3) := by decide +kernel
theorem d_X0_kindWith_43 : decode J_X0_kindWith.2.1 43 = .ok (.ireturn, 1) := by decide +kernel
def f_X0_kindWith_38 (N : Nat) (K : oK)  (p2 : Int32) (M : oM) : Option (Int32 × oM) :=
  some ((if (0 : Int32) < p2 then p2 else (0 : Int32)), M)
set_option maxRecDepth 20000 in
theorem v_X0_kindWith_38 {X : oX} {d N : Nat} {K : oK}  {p2 : Int32} {M : oM} {v : Int32} {M' : oM}  (hd : 1 ≤ d) (hK : oSR K)   (h : f_X0_kindWith_38 N K  p2 M = some (v, M')) : oEv X d J_X0_kindWith 38 [none, none, some (.int p2), none] [] K M (some (.int v)) K M' := by
  unfold f_X0_kindWith_38 at h
  refine oe_iconst (pc := 38) (v := 0) d_X0_kindWith_38 rfl ?_
  refine oe_iload_n (pc := 39) d_X0_kindWith_39 rfl ?_
  refine oe_mmax (pc := 40) d_X0_kindWith_40 mm_X0_49 (by omega) (Nat.le_of_ble_eq_true rfl) ?_
  obtain ⟨rfl, rfl⟩ := oRes h
  exact oe_iret (pc := 43) d_X0_kindWith_43 ⟨_, rfl, rfl⟩
def f_X0_kindWith_4 (N : Nat) (K : oK)  : Nat → Int32 → Int32 → Int32 → oM → Option (Int32 × oM)
  | 0, _, _, _, _ => none
  | n + 1, p1, p2, p3, M => (fun r4 => (if 6 ≤ p3 then (f_X0_kindWith_38 N K  p2 M) else (if p2 ≤ 0 then (f_X0_kindWith_38 N K  p2 M) else oIx (((p2 * 4) + p1)) 24 ((if (oTb 3 (((p2 * 4) + p1) : Int32).toNatClampNeg) = 0 then oIx (p2) 6 ((r4 p1 (oTb 2 (p2 : Int32).toNatClampNeg) (p3 + 1) M)) else (f_X0_kindWith_38 N K  p2 M)))))) (f_X0_kindWith_4 N K  n)
set_option maxRecDepth 20000 in
theorem v_X0_kindWith_4_L {X : oX} {d N : Nat} {K : oK}  (hd : 1 ≤ d) (hK : oSR K)  : ∀ (n : Nat) (p1 : Int32) (p2 : Int32) (p3 : Int32) (M : oM) (v : Int32) (M' : oM)  , f_X0_kindWith_4 N K  n p1 p2 p3 M = some (v, M') → oEv X d J_X0_kindWith 4 [none, some (.int p1), some (.int p2), some (.int p3)] [] K M (some (.int v)) K M' := by
  intro n
  induction n with
  | zero =>
    intro p1 p2 p3 M v M'   h
    cases h
  | succ n hr4 =>
    intro p1 p2 p3 M v M'   h
    refine oe_iload_n (pc := 4) d_X0_kindWith_4 rfl ?_
    refine oe_bipush (pc := 5) (v := 6) d_X0_kindWith_5 rfl ?_
    refine oe_icmp_ge (pc := 7) (tgt := 38) d_X0_kindWith_7 (by decide) (fun c1 => ?_) (fun c1 => ?_)
    · replace h := (if_pos c1).symm.trans h
      refine oEv.fg [false, false, true, false] ?_
      exact v_X0_kindWith_38 hd hK   h
    · replace h := (if_neg c1).symm.trans h
      refine oe_iload_n (pc := 10) d_X0_kindWith_10 rfl ?_
      refine oe_if_le (pc := 11) (tgt := 38) d_X0_kindWith_11 (by decide) (fun c2 => ?_) (fun c2 => ?_)
      · replace h := (if_pos c2).symm.trans h
        refine oEv.fg [false, false, true, false] ?_
        exact v_X0_kindWith_38 hd hK   h
      · replace h := (if_neg c2).symm.trans h
        refine oe_gets (pc := 14) (t := 3) d_X0_kindWith_14 (by decide) (by decide) fs_X0_43 ?_
        refine oe_iload_n (pc := 17) d_X0_kindWith_17 rfl ?_
        refine oe_iconst (pc := 18) (v := 4) d_X0_kindWith_18 rfl ?_
        refine oe_imul (pc := 19) d_X0_kindWith_19 ?_
        refine oe_iload_n (pc := 20) d_X0_kindWith_20 rfl ?_
        refine oe_iadd (pc := 21) d_X0_kindWith_21 ?_
        obtain ⟨i3, h⟩ := oIx_some h
        refine oe_tald (pc := 22) (t := 3) d_X0_kindWith_22 (by decide) (by decide) i3 ?_
        refine oe_if_ne (pc := 23) (tgt := 38) d_X0_kindWith_23 (by decide) (fun c4 => ?_) (fun c4 => ?_)
        · replace h := (if_neg c4).symm.trans h
          refine oEv.fg [false, false, true, false] ?_
          exact v_X0_kindWith_38 hd hK   h
        · replace h := (if_pos c4).symm.trans h
          refine oe_getsN (pc := 26) d_X0_kindWith_26 rfl rfl ?_
          refine oe_iload_n (pc := 29) d_X0_kindWith_29 rfl ?_
          obtain ⟨i5, h⟩ := oIx_some h
          refine oe_tald (pc := 30) (t := 2) d_X0_kindWith_30 (by decide) (by decide) i5 ?_
          refine oe_istore_n (pc := 31) (L2 := [_, _, _, _]) d_X0_kindWith_31 rfl rfl (Nat.le_of_ble_eq_true rfl) rfl ?_
          refine oe_iinc (pc := 32) (v := (p3 + 1)) (L2 := [_, _, _, _]) d_X0_kindWith_32 rfl rfl rfl (Nat.le_of_ble_eq_true rfl) rfl ?_
          refine oe_goto (pc := 35) (tgt := 4) d_X0_kindWith_35 (by decide) ?_
          exact hr4 _ _ _ _ _ _ h
theorem v_X0_kindWith_4 {X : oX} {d N : Nat} {K : oK}  {p1 : Int32} {p2 : Int32} {p3 : Int32} {M : oM} {v : Int32} {M' : oM}  (hd : 1 ≤ d) (hK : oSR K)   (h : f_X0_kindWith_4 N K  N p1 p2 p3 M = some (v, M')) : oEv X d J_X0_kindWith 4 [none, some (.int p1), some (.int p2), some (.int p3)] [] K M (some (.int v)) K M' := v_X0_kindWith_4_L hd hK  N p1 p2 p3 M v M'   h
def f_X0_kindWith (N : Nat) (K : oK) (p0 : Int32) (p1 : Int32) (M : oM) : Option (Int32 × oM) :=
  (f_X0_kindWith_4 N K  N p1 p0 0 M)
set_option maxRecDepth 20000 in
theorem v_X0_kindWith {X : oX} {N : Nat} {K : oK} {p0 : Int32} {p1 : Int32} {M : oM} {v : Int32} {M' : oM} (hK : oSR K)  (h : f_X0_kindWith N K p0 p1 M = some (v, M')) : oMet X 1 J_X0_kindWith [(.int p0), (.int p1)] K M (some (.int v)) K M' := by
  unfold f_X0_kindWith at h
  refine oMet_of (L := [some (.int p0), some (.int p1), none, none]) jJ_X0_kindWith.1 rfl (Nat.le_of_ble_eq_true rfl) rfl (Nat.le_refl _) (Nat.le_refl _) ?_
  have hd : 1 ≤ 1 := Nat.le_refl _
  refine oe_iload_n (pc := 0) d_X0_kindWith_0 rfl ?_
  refine oe_istore_n (pc := 1) (L2 := [_, _, _, _]) d_X0_kindWith_1 rfl rfl (Nat.le_of_ble_eq_true rfl) rfl ?_
  refine oe_iconst (pc := 2) (v := 0) d_X0_kindWith_2 rfl ?_
  refine oe_istore_n (pc := 3) (L2 := [_, _, _, _]) d_X0_kindWith_3 rfl rfl (Nat.le_of_ble_eq_true rfl) rfl ?_
  refine oEv.fg [false, true, true, true] ?_
  exact v_X0_kindWith_4 hd hK   h
theorem d_X0_begins_0 : decode J_X0_begins.2.1 0 = .ok (.aload_n 0, 1) := by decide +kernel
theorem d_X0_begins_1 : decode J_X0_begins.2.1 1 = .ok (.getfield 15, 3) := by decide +kernel
theorem d_X0_begins_4 : decode J_X0_begins.2.1 4 = .ok (.bipush 24, 2) := by decide +kernel
theorem d_X0_begins_6 : decode J_X0_begins.2.1 6 = .ok (.if_icmp .ge 13, 3) := by decide +kernel
theorem d_X0_begins_9 : decode J_X0_begins.2.1 9 = .ok (.aload_n 0, 1) := by decide +kernel
theorem d_X0_begins_10 : decode J_X0_begins.2.1 10 = .ok (.getfield 11, 3) := by decide +kernel
theorem d_X0_begins_13 : decode J_X0_begins.2.1 13 = .ok (.aload_n 0, 1) := by decide +kernel
theorem d_X0_begins_14 : decode J_X0_begins.2.1 14 = .ok (.getfield 15, 3) := by decide +kernel
theorem d_X0_begins_17 : decode J_X0_begins.2.1 17 = .ok (.iload_n 1, 1) := by decide +kernel
theorem d_X0_begins_18 : decode J_X0_begins.2.1 18 = .ok (.iastore, 1) := by decide +kernel
theorem d_X0_begins_19 : decode J_X0_begins.2.1 19 = .ok (.aload_n 0, 1) := by decide +kernel
theorem d_X0_begins_20 : decode J_X0_begins.2.1 20 = .ok (.dup, 1) := by decide +kernel
theorem d_X0_begins_21 : decode J_X0_begins.2.1 21 = .ok (.getfield 15, 3) := by decide +kernel
theorem d_X0_begins_24 : decode J_X0_begins.2.1 24 = .ok (.iconst 1, 1) := by decide +kernel
theorem d_X0_begins_25 : decode J_X0_begins.2.1 25 = .ok (.iadd, 1) := by decide +kernel
theorem d_X0_begins_26 : decode J_X0_begins.2.1 26 = .ok (.putfield 15, 3) := by decide +kernel
theorem d_X0_begins_29 : decode J_X0_begins.2.1 29 = .ok (.return_, 1) := by decide +kernel
def f_X0_begins_19 (N : Nat) (K : oK)   (M : oM) : Option (Unit × oM) :=
  some ((), (oUp M 44 1 ((M.1 44 1) + 1)))
set_option maxRecDepth 20000 in
theorem v_X0_begins_19 {X : oX} {d N : Nat} {K : oK}   {M : oM} {v : Unit} {M' : oM}  (hd : 1 ≤ d) (hK : oSR K)   (h : f_X0_begins_19 N K   M = some (v, M')) : oEv X d J_X0_begins 19 [some (.ref 44), none] [] K M none K M' := by
  unfold f_X0_begins_19 at h
  refine oe_aload_n (pc := 19) d_X0_begins_19 rfl ?_
  refine oe_dup (pc := 20) d_X0_begins_20 rfl ?_
  refine oe_getf (pc := 21) d_X0_begins_21 fl_X0_15 ock0 (k := 1) (Nat.le_of_ble_eq_true rfl) rfl (oLt hK (a := 44) (Nat.le_of_ble_eq_true rfl)) (oSho hK (a := 44) (Nat.le_of_ble_eq_true rfl) rfl) ?_
  refine oe_iconst (pc := 24) (v := 1) d_X0_begins_24 rfl ?_
  refine oe_iadd (pc := 25) d_X0_begins_25 ?_
  refine oe_putf (pc := 26) d_X0_begins_26 fl_X0_15 ock0 (k := 1) (Nat.le_of_ble_eq_true rfl) rfl rfl (oLt hK (a := 44) (Nat.le_of_ble_eq_true rfl)) (oSho hK (a := 44) (Nat.le_of_ble_eq_true rfl) rfl) ?_
  obtain ⟨rfl, rfl⟩ := oRes h
  exact oe_vret (pc := 29) d_X0_begins_29 rfl
def f_X0_begins (N : Nat) (K : oK) (p1 : Int32) (M : oM) : Option (Unit × oM) :=
  (if 24 ≤ (M.1 44 1) then (f_X0_begins_19 N K   M) else oIx ((M.1 44 1)) 24 ((f_X0_begins_19 N K   (oUp M 45 ((M.1 44 1) : Int32).toNatClampNeg p1))))
set_option maxRecDepth 20000 in
theorem v_X0_begins {X : oX} {N : Nat} {K : oK} {p1 : Int32} {M : oM} {v : Unit} {M' : oM} (hK : oSR K)  (h : f_X0_begins N K p1 M = some (v, M')) : oMet X 1 J_X0_begins [(.ref 44), (.int p1)] K M none K M' := by
  unfold f_X0_begins at h
  refine oMet_of (L := [some (.ref 44), some (.int p1)]) jJ_X0_begins.1 rfl (Nat.le_of_ble_eq_true rfl) rfl (Nat.le_refl _) (Nat.le_refl _) ?_
  have hd : 1 ≤ 1 := Nat.le_refl _
  refine oe_aload_n (pc := 0) d_X0_begins_0 rfl ?_
  refine oe_getf (pc := 1) d_X0_begins_1 fl_X0_15 ock0 (k := 1) (Nat.le_of_ble_eq_true rfl) rfl (oLt hK (a := 44) (Nat.le_of_ble_eq_true rfl)) (oSho hK (a := 44) (Nat.le_of_ble_eq_true rfl) rfl) ?_
  refine oe_bipush (pc := 4) (v := 24) d_X0_begins_4 rfl ?_
  refine oe_icmp_ge (pc := 6) (tgt := 19) d_X0_begins_6 (by decide) (fun c1 => ?_) (fun c1 => ?_)
  · replace h := (if_pos c1).symm.trans h
    refine oEv.fg [true, false] ?_
    exact v_X0_begins_19 hd hK   h
  · replace h := (if_neg c1).symm.trans h
    refine oe_aload_n (pc := 9) d_X0_begins_9 rfl ?_
    refine oe_getr (pc := 10) d_X0_begins_10 fl_X0_11 ock0 (k := 0) (b := 45) (Nat.le_of_ble_eq_true rfl) (by decide) (oLt hK (a := 44) (Nat.le_of_ble_eq_true rfl)) (oSho hK (a := 44) (Nat.le_of_ble_eq_true rfl) rfl) (oRfK hK rfl) ?_
    refine oe_aload_n (pc := 13) d_X0_begins_13 rfl ?_
    refine oe_getf (pc := 14) d_X0_begins_14 fl_X0_15 ock0 (k := 1) (Nat.le_of_ble_eq_true rfl) rfl (oLt hK (a := 44) (Nat.le_of_ble_eq_true rfl)) (oSho hK (a := 44) (Nat.le_of_ble_eq_true rfl) rfl) ?_
    refine oe_iload_n (pc := 17) d_X0_begins_17 rfl ?_
    obtain ⟨i2, h⟩ := oIx_some h
    refine oe_iast (pc := 18) d_X0_begins_18 (oLt hK (a := 45) (Nat.le_of_ble_eq_true rfl)) (oSha hK (a := 45) (Nat.le_of_ble_eq_true rfl) rfl) i2 ?_
    refine oEv.fg [true, false] ?_
    exact v_X0_begins_19 hd hK   h
theorem d_X0_run_0 : decode J_X0_run.2.1 0 = .ok (.iload 4, 2) := by decide +kernel
theorem d_X0_run_2 : decode J_X0_run.2.1 2 = .ok (.bipush 40, 2) := by decide +kernel
theorem d_X0_run_4 : decode J_X0_run.2.1 4 = .ok (.if_icmp .le 5, 3) := by decide +kernel
theorem d_X0_run_7 : decode J_X0_run.2.1 7 = .ok (.iconst 0, 1) := by decide +kernel
theorem d_X0_run_8 : decode J_X0_run.2.1 8 = .ok (.ireturn, 1) := by decide +kernel
theorem d_X0_run_9 : decode J_X0_run.2.1 9 = .ok (.iload_n 1, 1) := by decide +kernel
theorem d_X0_run_10 : decode J_X0_run.2.1 10 = .ok (.iload_n 2, 1) := by decide +kernel
theorem d_X0_run_11 : decode J_X0_run.2.1 11 = .ok (.invokestatic 55, 3) := by decide +kernel
theorem d_X0_run_14 : decode J_X0_run.2.1 14 = .ok (.istore 5, 2) := by decide +kernel
theorem d_X0_run_16 : decode J_X0_run.2.1 16 = .ok (.getstatic 43, 3) := by decide +kernel
theorem d_X0_run_19 : decode J_X0_run.2.1 19 = .ok (.iload 5, 2) := by decide +kernel
theorem d_X0_run_21 : decode J_X0_run.2.1 21 = .ok (.iconst 4, 1) := by decide +kernel
theorem d_X0_run_22 : decode J_X0_run.2.1 22 = .ok (.imul, 1) := by decide +kernel
theorem d_X0_run_23 : decode J_X0_run.2.1 23 = .ok (.iload_n 2, 1) := by decide +kernel
theorem d_X0_run_24 : decode J_X0_run.2.1 24 = .ok (.iadd, 1) := by decide +kernel
theorem d_X0_run_25 : decode J_X0_run.2.1 25 = .ok (.iaload, 1) := by decide +kernel
theorem d_X0_run_26 : decode J_X0_run.2.1 26 = .ok (.istore 6, 2) := by decide +kernel
theorem d_X0_run_28 : decode J_X0_run.2.1 28 = .ok (.aload_n 0, 1) := by decide +kernel
theorem d_X0_run_29 : decode J_X0_run.2.1 29 = .ok (.getfield 36, 3) := by decide +kernel
theorem d_X0_run_32 : decode J_X0_run.2.1 32 = .ok (.istore 7, 2) := by decide +kernel
theorem d_X0_run_34 : decode J_X0_run.2.1 34 = .ok (.getstatic 46, 3) := by decide +kernel
theorem d_X0_run_37 : decode J_X0_run.2.1 37 = .ok (.iload 5, 2) := by decide +kernel
theorem d_X0_run_39 : decode J_X0_run.2.1 39 = .ok (.iaload, 1) := by decide +kernel
theorem d_X0_run_40 : decode J_X0_run.2.1 40 = .ok (.istore 8, 2) := by decide +kernel
theorem d_X0_run_42 : decode J_X0_run.2.1 42 = .ok (.iload 4, 2) := by decide +kernel
theorem d_X0_run_44 : decode J_X0_run.2.1 44 = .ok (.iconst 1, 1) := by decide +kernel
theorem d_X0_run_45 : decode J_X0_run.2.1 45 = .ok (.iadd, 1) := by decide +kernel
theorem d_X0_run_46 : decode J_X0_run.2.1 46 = .ok (.istore 9, 2) := by decide +kernel
theorem d_X0_run_48 : decode J_X0_run.2.1 48 = .ok (.aload_n 0, 1) := by decide +kernel
theorem d_X0_run_49 : decode J_X0_run.2.1 49 = .ok (.iload 6, 2) := by decide +kernel
theorem d_X0_run_51 : decode J_X0_run.2.1 51 = .ok (.invokevirtual 58, 3) := by decide +kernel
theorem d_X0_run_54 : decode J_X0_run.2.1 54 = .ok (.iload 6, 2) := by decide +kernel
theorem d_X0_run_56 : decode J_X0_run.2.1 56 = .ok (.lookupswitch 260 #[(1, 100), (2, 107), (10, 129), (11, 142), (20, 149), (30, 165), (40, 177), (41, 190), (50, 203), (51, 216), (60, 238)], 100) := by decide +kernel
theorem d_X0_run_156 : decode J_X0_run.2.1 156 = .ok (.iload_n 3, 1) := by decide +kernel
theorem d_X0_run_157 : decode J_X0_run.2.1 157 = .ok (.aload_n 0, 1) := by decide +kernel
theorem d_X0_run_158 : decode J_X0_run.2.1 158 = .ok (.getfield 24, 3) := by decide +kernel
theorem d_X0_run_161 : decode J_X0_run.2.1 161 = .ok (.iadd, 1) := by decide +kernel
theorem d_X0_run_162 : decode J_X0_run.2.1 162 = .ok (.ireturn, 1) := by decide +kernel
theorem d_X0_run_163 : decode J_X0_run.2.1 163 = .ok (.aload_n 0, 1) := by decide +kernel
theorem d_X0_run_164 : decode J_X0_run.2.1 164 = .ok (.iload 7, 2) := by decide +kernel
theorem d_X0_run_166 : decode J_X0_run.2.1 166 = .ok (.iconst 1, 1) := by decide +kernel
theorem d_X0_run_167 : decode J_X0_run.2.1 167 = .ok (.iload_n 3, 1) := by decide +kernel
theorem d_X0_run_168 : decode J_X0_run.2.1 168 = .ok (.iload 9, 2) := by decide +kernel
theorem d_X0_run_170 : decode J_X0_run.2.1 170 = .ok (.invokestatic 39, 3) := by decide +kernel
theorem d_X0_run_173 : decode J_X0_run.2.1 173 = .ok (.aload_n 0, 1) := by decide +kernel
theorem d_X0_run_174 : decode J_X0_run.2.1 174 = .ok (.iload 7, 2) := by decide +kernel
theorem d_X0_run_176 : decode J_X0_run.2.1 176 = .ok (.iconst 2, 1) := by decide +kernel
theorem d_X0_run_177 : decode J_X0_run.2.1 177 = .ok (.iconst 1, 1) := by decide +kernel
theorem d_X0_run_178 : decode J_X0_run.2.1 178 = .ok (.iload 9, 2) := by decide +kernel
theorem d_X0_run_180 : decode J_X0_run.2.1 180 = .ok (.invokestatic 39, 3) := by decide +kernel
theorem d_X0_run_183 : decode J_X0_run.2.1 183 = .ok (.isub, 1) := by decide +kernel
theorem d_X0_run_184 : decode J_X0_run.2.1 184 = .ok (.ireturn, 1) := by decide +kernel
theorem d_X0_run_185 : decode J_X0_run.2.1 185 = .ok (.aload_n 0, 1) := by decide +kernel
theorem d_X0_run_186 : decode J_X0_run.2.1 186 = .ok (.iload 7, 2) := by decide +kernel
theorem d_X0_run_188 : decode J_X0_run.2.1 188 = .ok (.iconst 0, 1) := by decide +kernel
theorem d_X0_run_189 : decode J_X0_run.2.1 189 = .ok (.iload_n 3, 1) := by decide +kernel
theorem d_X0_run_190 : decode J_X0_run.2.1 190 = .ok (.iload 9, 2) := by decide +kernel
theorem d_X0_run_192 : decode J_X0_run.2.1 192 = .ok (.invokestatic 39, 3) := by decide +kernel
theorem d_X0_run_195 : decode J_X0_run.2.1 195 = .ok (.iconst 2, 1) := by decide +kernel
theorem d_X0_run_196 : decode J_X0_run.2.1 196 = .ok (.imul, 1) := by decide +kernel
theorem d_X0_run_197 : decode J_X0_run.2.1 197 = .ok (.ireturn, 1) := by decide +kernel
theorem d_X0_run_198 : decode J_X0_run.2.1 198 = .ok (.iload_n 3, 1) := by decide +kernel
theorem d_X0_run_199 : decode J_X0_run.2.1 199 = .ok (.aload_n 0, 1) := by decide +kernel
theorem d_X0_run_200 : decode J_X0_run.2.1 200 = .ok (.getfield 24, 3) := by decide +kernel
theorem d_X0_run_203 : decode J_X0_run.2.1 203 = .ok (.ixor, 1) := by decide +kernel
theorem d_X0_run_204 : decode J_X0_run.2.1 204 = .ok (.ireturn, 1) := by decide +kernel
theorem d_X0_run_205 : decode J_X0_run.2.1 205 = .ok (.aload_n 0, 1) := by decide +kernel
theorem d_X0_run_206 : decode J_X0_run.2.1 206 = .ok (.iload 8, 2) := by decide +kernel
theorem d_X0_run_208 : decode J_X0_run.2.1 208 = .ok (.iconst 2, 1) := by decide +kernel
theorem d_X0_run_209 : decode J_X0_run.2.1 209 = .ok (.iload_n 3, 1) := by decide +kernel
theorem d_X0_run_210 : decode J_X0_run.2.1 210 = .ok (.iload 9, 2) := by decide +kernel
theorem d_X0_run_212 : decode J_X0_run.2.1 212 = .ok (.invokestatic 39, 3) := by decide +kernel
theorem d_X0_run_215 : decode J_X0_run.2.1 215 = .ok (.aload_n 0, 1) := by decide +kernel
theorem d_X0_run_216 : decode J_X0_run.2.1 216 = .ok (.getfield 30, 3) := by decide +kernel
theorem d_X0_run_219 : decode J_X0_run.2.1 219 = .ok (.iadd, 1) := by decide +kernel
theorem d_X0_run_220 : decode J_X0_run.2.1 220 = .ok (.ireturn, 1) := by decide +kernel
theorem d_X0_run_221 : decode J_X0_run.2.1 221 = .ok (.aload_n 0, 1) := by decide +kernel
theorem d_X0_run_222 : decode J_X0_run.2.1 222 = .ok (.iload 8, 2) := by decide +kernel
theorem d_X0_run_224 : decode J_X0_run.2.1 224 = .ok (.iconst 1, 1) := by decide +kernel
theorem d_X0_run_225 : decode J_X0_run.2.1 225 = .ok (.iload_n 3, 1) := by decide +kernel
theorem d_X0_run_226 : decode J_X0_run.2.1 226 = .ok (.iload 9, 2) := by decide +kernel
theorem d_X0_run_228 : decode J_X0_run.2.1 228 = .ok (.invokestatic 39, 3) := by decide +kernel
theorem d_X0_run_231 : decode J_X0_run.2.1 231 = .ok (.ineg, 1) := by decide +kernel
theorem d_X0_run_232 : decode J_X0_run.2.1 232 = .ok (.ireturn, 1) := by decide +kernel
theorem d_X0_run_233 : decode J_X0_run.2.1 233 = .ok (.aload_n 0, 1) := by decide +kernel
theorem d_X0_run_234 : decode J_X0_run.2.1 234 = .ok (.iload 8, 2) := by decide +kernel
theorem d_X0_run_236 : decode J_X0_run.2.1 236 = .ok (.iconst 0, 1) := by decide +kernel
theorem d_X0_run_237 : decode J_X0_run.2.1 237 = .ok (.iload_n 3, 1) := by decide +kernel
theorem d_X0_run_238 : decode J_X0_run.2.1 238 = .ok (.iload 9, 2) := by decide +kernel
theorem d_X0_run_240 : decode J_X0_run.2.1 240 = .ok (.invokestatic 39, 3) := by decide +kernel
theorem d_X0_run_243 : decode J_X0_run.2.1 243 = .ok (.iconst 3, 1) := by decide +kernel
theorem d_X0_run_244 : decode J_X0_run.2.1 244 = .ok (.imul, 1) := by decide +kernel
theorem d_X0_run_245 : decode J_X0_run.2.1 245 = .ok (.ireturn, 1) := by decide +kernel
theorem d_X0_run_246 : decode J_X0_run.2.1 246 = .ok (.aload_n 0, 1) := by decide +kernel
theorem d_X0_run_247 : decode J_X0_run.2.1 247 = .ok (.iload 8, 2) := by decide +kernel
theorem d_X0_run_249 : decode J_X0_run.2.1 249 = .ok (.iconst 2, 1) := by decide +kernel
theorem d_X0_run_250 : decode J_X0_run.2.1 250 = .ok (.iload_n 3, 1) := by decide +kernel
theorem d_X0_run_251 : decode J_X0_run.2.1 251 = .ok (.iconst 1, 1) := by decide +kernel
theorem d_X0_run_252 : decode J_X0_run.2.1 252 = .ok (.iadd, 1) := by decide +kernel
theorem d_X0_run_253 : decode J_X0_run.2.1 253 = .ok (.iload 9, 2) := by decide +kernel
theorem d_X0_run_255 : decode J_X0_run.2.1 255 = .ok (.invokestatic 39, 3) := by decide +kernel
theorem d_X0_run_258 : decode J_X0_run.2.1 258 = .ok (.ireturn, 1) := by decide +kernel
theorem d_X0_run_259 : decode J_X0_run.2.1 259 = .ok (.aload_n 0, 1) := by decide +kernel
theorem d_X0_run_260 : decode J_X0_run.2.1 260 = .ok (.iload 8, 2) := by decide +kernel
theorem d_X0_run_262 : decode J_X0_run.2.1 262 = .ok (.iconst 3, 1) := by decide +kernel
theorem d_X0_run_263 : decode J_X0_run.2.1 263 = .ok (.iload_n 3, 1) := by decide +kernel
theorem d_X0_run_264 : decode J_X0_run.2.1 264 = .ok (.iload 9, 2) := by decide +kernel
theorem d_X0_run_266 : decode J_X0_run.2.1 266 = .ok (.invokestatic 39, 3) := by decide +kernel
theorem d_X0_run_269 : decode J_X0_run.2.1 269 = .ok (.iconst 5, 1) := by decide +kernel
theorem d_X0_run_270 : decode J_X0_run.2.1 270 = .ok (.ixor, 1) := by decide +kernel
theorem d_X0_run_271 : decode J_X0_run.2.1 271 = .ok (.ireturn, 1) := by decide +kernel
theorem d_X0_run_272 : decode J_X0_run.2.1 272 = .ok (.aload_n 0, 1) := by decide +kernel
theorem d_X0_run_273 : decode J_X0_run.2.1 273 = .ok (.iload 8, 2) := by decide +kernel
theorem d_X0_run_275 : decode J_X0_run.2.1 275 = .ok (.iconst 1, 1) := by decide +kernel
theorem d_X0_run_276 : decode J_X0_run.2.1 276 = .ok (.iload_n 3, 1) := by decide +kernel
theorem d_X0_run_277 : decode J_X0_run.2.1 277 = .ok (.iload 9, 2) := by decide +kernel
theorem d_X0_run_279 : decode J_X0_run.2.1 279 = .ok (.invokestatic 39, 3) := by decide +kernel
theorem d_X0_run_282 : decode J_X0_run.2.1 282 = .ok (.aload_n 0, 1) := by decide +kernel
theorem d_X0_run_283 : decode J_X0_run.2.1 283 = .ok (.iload 7, 2) := by decide +kernel
theorem d_X0_run_285 : decode J_X0_run.2.1 285 = .ok (.iconst 2, 1) := by decide +kernel
theorem d_X0_run_286 : decode J_X0_run.2.1 286 = .ok (.iconst 2, 1) := by decide +kernel
theorem d_X0_run_287 : decode J_X0_run.2.1 287 = .ok (.iload 9, 2) := by decide +kernel
theorem d_X0_run_289 : decode J_X0_run.2.1 289 = .ok (.invokestatic 39, 3) := by decide +kernel
theorem d_X0_run_292 : decode J_X0_run.2.1 292 = .ok (.iadd, 1) := by decide +kernel
theorem d_X0_run_293 : decode J_X0_run.2.1 293 = .ok (.ireturn, 1) := by decide +kernel
theorem d_X0_run_294 : decode J_X0_run.2.1 294 = .ok (.aload_n 0, 1) := by decide +kernel
theorem d_X0_run_295 : decode J_X0_run.2.1 295 = .ok (.iload 8, 2) := by decide +kernel
theorem d_X0_run_297 : decode J_X0_run.2.1 297 = .ok (.iconst 2, 1) := by decide +kernel
theorem d_X0_run_298 : decode J_X0_run.2.1 298 = .ok (.iload_n 3, 1) := by decide +kernel
theorem d_X0_run_299 : decode J_X0_run.2.1 299 = .ok (.iload 9, 2) := by decide +kernel
theorem d_X0_run_301 : decode J_X0_run.2.1 301 = .ok (.invokestatic 39, 3) := by decide +kernel
theorem d_X0_run_304 : decode J_X0_run.2.1 304 = .ok (.aload_n 0, 1) := by decide +kernel
theorem d_X0_run_305 : decode J_X0_run.2.1 305 = .ok (.iload 7, 2) := by decide +kernel
theorem d_X0_run_307 : decode J_X0_run.2.1 307 = .ok (.iconst 0, 1) := by decide +kernel
theorem d_X0_run_308 : decode J_X0_run.2.1 308 = .ok (.iconst 1, 1) := by decide +kernel
theorem d_X0_run_309 : decode J_X0_run.2.1 309 = .ok (.iload 9, 2) := by decide +kernel
theorem d_X0_run_311 : decode J_X0_run.2.1 311 = .ok (.invokestatic 39, 3) := by decide +kernel
theorem d_X0_run_314 : decode J_X0_run.2.1 314 = .ok (.isub, 1) := by decide +kernel
theorem d_X0_run_315 : decode J_X0_run.2.1 315 = .ok (.ireturn, 1) := by decide +kernel
theorem d_X0_run_316 : decode J_X0_run.2.1 316 = .ok (.iconst 0, 1) := by decide +kernel
theorem d_X0_run_317 : decode J_X0_run.2.1 317 = .ok (.ireturn, 1) := by decide +kernel
def f_X0_run (N : Nat) (K : oK) : Nat → Int32 → Int32 → Int32 → Int32 → oM → Option (Int32 × oM)
  | 0, _, _, _, _, _ => none
  | n + 1, p1, p2, p3, p4, M => (fun rS => (if p4 ≤ 40 then oB2 (f_X0_kindWith N K p1 p2 M) (fun v2 M3 => oIx (((v2 * 4) + p2)) 24 (oIx (v2) 6 (oB2 (f_X0_begins N K (oTb 3 (((v2 * 4) + p2) : Int32).toNatClampNeg) M3) (fun v7 M8 => (if (oTb 3 (((v2 * 4) + p2) : Int32).toNatClampNeg) = 1 then some ((p3 + (M8.1 44 2)), M8) else (if (oTb 3 (((v2 * 4) + p2) : Int32).toNatClampNeg) = 2 then oB2 (rS (M3.1 44 4) (1 : Int32) p3 (p4 + 1) M8) (fun v10 M11 => oB2 (rS (M3.1 44 4) (2 : Int32) (1 : Int32) (p4 + 1) M11) (fun v13 M14 => some ((v10 - v13), M14))) else (if (oTb 3 (((v2 * 4) + p2) : Int32).toNatClampNeg) = 10 then oB2 (rS (M3.1 44 4) (0 : Int32) p3 (p4 + 1) M8) (fun v16 M17 => some ((v16 * 2), M17)) else (if (oTb 3 (((v2 * 4) + p2) : Int32).toNatClampNeg) = 11 then some ((p3 ^^^ (M8.1 44 2)), M8) else (if (oTb 3 (((v2 * 4) + p2) : Int32).toNatClampNeg) = 20 then oB2 (rS (oTb 2 (v2 : Int32).toNatClampNeg) (2 : Int32) p3 (p4 + 1) M8) (fun v19 M20 => some ((v19 + (M20.1 44 3)), M20)) else (if (oTb 3 (((v2 * 4) + p2) : Int32).toNatClampNeg) = 30 then oB2 (rS (oTb 2 (v2 : Int32).toNatClampNeg) (1 : Int32) p3 (p4 + 1) M8) (fun v22 M23 => some ((-v22), M23)) else (if (oTb 3 (((v2 * 4) + p2) : Int32).toNatClampNeg) = 40 then oB2 (rS (oTb 2 (v2 : Int32).toNatClampNeg) (0 : Int32) p3 (p4 + 1) M8) (fun v25 M26 => some ((v25 * 3), M26)) else (if (oTb 3 (((v2 * 4) + p2) : Int32).toNatClampNeg) = 41 then oB2 (rS (oTb 2 (v2 : Int32).toNatClampNeg) (2 : Int32) (p3 + 1) (p4 + 1) M8) (fun v28 M29 => some (v28, M29)) else (if (oTb 3 (((v2 * 4) + p2) : Int32).toNatClampNeg) = 50 then oB2 (rS (oTb 2 (v2 : Int32).toNatClampNeg) (3 : Int32) p3 (p4 + 1) M8) (fun v31 M32 => some ((v31 ^^^ 5), M32)) else (if (oTb 3 (((v2 * 4) + p2) : Int32).toNatClampNeg) = 51 then oB2 (rS (oTb 2 (v2 : Int32).toNatClampNeg) (1 : Int32) p3 (p4 + 1) M8) (fun v34 M35 => oB2 (rS (M3.1 44 4) (2 : Int32) (2 : Int32) (p4 + 1) M35) (fun v37 M38 => some ((v34 + v37), M38))) else (if (oTb 3 (((v2 * 4) + p2) : Int32).toNatClampNeg) = 60 then oB2 (rS (oTb 2 (v2 : Int32).toNatClampNeg) (2 : Int32) p3 (p4 + 1) M8) (fun v40 M41 => oB2 (rS (M3.1 44 4) (0 : Int32) (1 : Int32) (p4 + 1) M41) (fun v43 M44 => some ((v40 - v43), M44))) else some (0, M8)))))))))))))))) else some (0, M))) (f_X0_run N K n)
set_option maxRecDepth 20000 in
theorem v_X0_run_R {X : oX} {N : Nat} {K : oK} (hK : oSR K) : ∀ (n : Nat) (p1 : Int32) (p2 : Int32) (p3 : Int32) (p4 : Int32) (M : oM) (v : Int32) (M' : oM) , f_X0_run N K n p1 p2 p3 p4 M = some (v, M') → oMet X (2 + n) J_X0_run [(.ref 44), (.int p1), (.int p2), (.int p3), (.int p4)] K M (some (.int v)) K M' := by
  intro n
  induction n with
  | zero =>
    intro p1 p2 p3 p4 M v M'  h
    cases h
  | succ n hS0 =>
    intro p1 p2 p3 p4 M v M'  h
    refine oMet_of (L := [some (.ref 44), some (.int p1), some (.int p2), some (.int p3), some (.int p4), none, none, none, none, none]) jJ_X0_run.1 rfl (Nat.le_of_ble_eq_true rfl) rfl (Nat.le_refl _) (Nat.le_refl _) ?_
    have hd : 2 ≤ 2 + (n + 1) := Nat.le_add_right _ _
    generalize hde : 2 + (n + 1) = d at hd ⊢
    have hS : ∃ d', d' < d ∧ ∀ (p1 : Int32) (p2 : Int32) (p3 : Int32) (p4 : Int32) (M : oM) (v : Int32) (M' : oM) , f_X0_run N K n p1 p2 p3 p4 M = some (v, M') → oMet X d' J_X0_run [(.ref 44), (.int p1), (.int p2), (.int p3), (.int p4)] K M (some (.int v)) K M' := ⟨2 + n, by omega, hS0⟩
    refine oe_iload (pc := 0) d_X0_run_0 rfl ?_
    refine oe_bipush (pc := 2) (v := 40) d_X0_run_2 rfl ?_
    refine oe_icmp_le (pc := 4) (tgt := 9) d_X0_run_4 (by decide) (fun c1 => ?_) (fun c1 => ?_)
    · replace h := (if_pos c1).symm.trans h
      refine oe_iload_n (pc := 9) d_X0_run_9 rfl ?_
      refine oe_iload_n (pc := 10) d_X0_run_10 rfl ?_
      obtain ⟨v2, M3, q4, h⟩ := oB2_some h
      refine oe_callS (pc := 11) d_X0_run_11 (v_X0_kindWith hK  q4) (by omega) ml_X0_55 jJ_X0_kindWith rfl rfl (Nat.le_of_ble_eq_true rfl) ⟨Nat.le_refl _, Nat.le_refl _⟩ ⟨Nat.le_refl _, Nat.le_refl _⟩ ?_
      refine oe_istore (pc := 14) (L2 := [_, _, _, _, _, _, _, _, _, _]) d_X0_run_14 rfl (Nat.le_of_ble_eq_true rfl) rfl ?_
      refine oe_gets (pc := 16) (t := 3) d_X0_run_16 (by decide) (by decide) fs_X0_43 ?_
      refine oe_iload (pc := 19) d_X0_run_19 rfl ?_
      refine oe_iconst (pc := 21) (v := 4) d_X0_run_21 rfl ?_
      refine oe_imul (pc := 22) d_X0_run_22 ?_
      refine oe_iload_n (pc := 23) d_X0_run_23 rfl ?_
      refine oe_iadd (pc := 24) d_X0_run_24 ?_
      obtain ⟨i5, h⟩ := oIx_some h
      refine oe_tald (pc := 25) (t := 3) d_X0_run_25 (by decide) (by decide) i5 ?_
      refine oe_istore (pc := 26) (L2 := [_, _, _, _, _, _, _, _, _, _]) d_X0_run_26 rfl (Nat.le_of_ble_eq_true rfl) rfl ?_
      refine oe_aload_n (pc := 28) d_X0_run_28 rfl ?_
      refine oe_getf (pc := 29) d_X0_run_29 fl_X0_36 ock0 (k := 4) (Nat.le_of_ble_eq_true rfl) rfl (oLt hK (a := 44) (Nat.le_of_ble_eq_true rfl)) (oSho hK (a := 44) (Nat.le_of_ble_eq_true rfl) rfl) ?_
      refine oe_istore (pc := 32) (L2 := [_, _, _, _, _, _, _, _, _, _]) d_X0_run_32 rfl (Nat.le_of_ble_eq_true rfl) rfl ?_
      refine oe_getsN (pc := 34) d_X0_run_34 rfl rfl ?_
      refine oe_iload (pc := 37) d_X0_run_37 rfl ?_
      obtain ⟨i6, h⟩ := oIx_some h
      refine oe_tald (pc := 39) (t := 2) d_X0_run_39 (by decide) (by decide) i6 ?_
      refine oe_istore (pc := 40) (L2 := [_, _, _, _, _, _, _, _, _, _]) d_X0_run_40 rfl (Nat.le_of_ble_eq_true rfl) rfl ?_
      refine oe_iload (pc := 42) d_X0_run_42 rfl ?_
      refine oe_iconst (pc := 44) (v := 1) d_X0_run_44 rfl ?_
      refine oe_iadd (pc := 45) d_X0_run_45 ?_
      refine oe_istore (pc := 46) (L2 := [_, _, _, _, _, _, _, _, _, _]) d_X0_run_46 rfl (Nat.le_of_ble_eq_true rfl) rfl ?_
      refine oe_aload_n (pc := 48) d_X0_run_48 rfl ?_
      refine oe_iload (pc := 49) d_X0_run_49 rfl ?_
      obtain ⟨v7, M8, q9, h⟩ := oB2_some h
      refine oe_callV (pc := 51) (ci := 0) d_X0_run_51 (v_X0_begins hK  q9) (by omega) ml_X0_58 jJ_X0_begins rfl rfl (oLt hK (a := 44) (Nat.le_of_ble_eq_true rfl)) (oSho hK (a := 44) (Nat.le_of_ble_eq_true rfl) rfl) ock0 rfl (Nat.le_of_ble_eq_true rfl) ⟨Nat.le_refl _, Nat.le_refl _⟩ ⟨Nat.le_refl _, Nat.le_refl _⟩ ?_
      refine oe_iload (pc := 54) d_X0_run_54 rfl ?_
      by_cases c56_0 : (oTb 3 (((v2 * 4) + p2) : Int32).toNatClampNeg) = 1
      · replace h := (if_pos c56_0).symm.trans h
        refine oe_lookup (pc := 56) (tgt := 156) (off := 100) d_X0_run_56 (by decide) (by rw [c56_0]; decide) (by decide) ?_
        refine oe_iload_n (pc := 156) d_X0_run_156 rfl ?_
        refine oe_aload_n (pc := 157) d_X0_run_157 rfl ?_
        refine oe_getf (pc := 158) d_X0_run_158 fl_X0_24 ock0 (k := 2) (Nat.le_of_ble_eq_true rfl) rfl (oLt hK (a := 44) (Nat.le_of_ble_eq_true rfl)) (oSho hK (a := 44) (Nat.le_of_ble_eq_true rfl) rfl) ?_
        refine oe_iadd (pc := 161) d_X0_run_161 ?_
        obtain ⟨rfl, rfl⟩ := oRes h
        exact oe_iret (pc := 162) d_X0_run_162 ⟨_, rfl, rfl⟩
      · replace h := (if_neg c56_0).symm.trans h
        by_cases c56_1 : (oTb 3 (((v2 * 4) + p2) : Int32).toNatClampNeg) = 2
        · replace h := (if_pos c56_1).symm.trans h
          refine oe_lookup (pc := 56) (tgt := 163) (off := 107) d_X0_run_56 (by decide) (by rw [c56_1]; decide) (by decide) ?_
          refine oe_aload_n (pc := 163) d_X0_run_163 rfl ?_
          refine oe_iload (pc := 164) d_X0_run_164 rfl ?_
          refine oe_iconst (pc := 166) (v := 1) d_X0_run_166 rfl ?_
          refine oe_iload_n (pc := 167) d_X0_run_167 rfl ?_
          refine oe_iload (pc := 168) d_X0_run_168 rfl ?_
          obtain ⟨v10, M11, q12, h⟩ := oB2_some h
          obtain ⟨d', hdl, hS9⟩ := id hS
          refine oe_callS (pc := 170) d_X0_run_170 (hS9 _ _ _ _ _ _ _  q12) hdl ml_X0_39 jJ_X0_run rfl rfl (Nat.le_of_ble_eq_true rfl) ⟨Nat.le_refl _, Nat.le_refl _⟩ ⟨Nat.le_refl _, Nat.le_refl _⟩ ?_
          refine oe_aload_n (pc := 173) d_X0_run_173 rfl ?_
          refine oe_iload (pc := 174) d_X0_run_174 rfl ?_
          refine oe_iconst (pc := 176) (v := 2) d_X0_run_176 rfl ?_
          refine oe_iconst (pc := 177) (v := 1) d_X0_run_177 rfl ?_
          refine oe_iload (pc := 178) d_X0_run_178 rfl ?_
          obtain ⟨v13, M14, q15, h⟩ := oB2_some h
          obtain ⟨d', hdl, hS9⟩ := id hS
          refine oe_callS (pc := 180) d_X0_run_180 (hS9 _ _ _ _ _ _ _  q15) hdl ml_X0_39 jJ_X0_run rfl rfl (Nat.le_of_ble_eq_true rfl) ⟨Nat.le_refl _, Nat.le_refl _⟩ ⟨Nat.le_refl _, Nat.le_refl _⟩ ?_
          refine oe_isub (pc := 183) d_X0_run_183 ?_
          obtain ⟨rfl, rfl⟩ := oRes h
          exact oe_iret (pc := 184) d_X0_run_184 ⟨_, rfl, rfl⟩
        · replace h := (if_neg c56_1).symm.trans h
          by_cases c56_2 : (oTb 3 (((v2 * 4) + p2) : Int32).toNatClampNeg) = 10
          · replace h := (if_pos c56_2).symm.trans h
            refine oe_lookup (pc := 56) (tgt := 185) (off := 129) d_X0_run_56 (by decide) (by rw [c56_2]; decide) (by decide) ?_
            refine oe_aload_n (pc := 185) d_X0_run_185 rfl ?_
            refine oe_iload (pc := 186) d_X0_run_186 rfl ?_
            refine oe_iconst (pc := 188) (v := 0) d_X0_run_188 rfl ?_
            refine oe_iload_n (pc := 189) d_X0_run_189 rfl ?_
            refine oe_iload (pc := 190) d_X0_run_190 rfl ?_
            obtain ⟨v16, M17, q18, h⟩ := oB2_some h
            obtain ⟨d', hdl, hS9⟩ := id hS
            refine oe_callS (pc := 192) d_X0_run_192 (hS9 _ _ _ _ _ _ _  q18) hdl ml_X0_39 jJ_X0_run rfl rfl (Nat.le_of_ble_eq_true rfl) ⟨Nat.le_refl _, Nat.le_refl _⟩ ⟨Nat.le_refl _, Nat.le_refl _⟩ ?_
            refine oe_iconst (pc := 195) (v := 2) d_X0_run_195 rfl ?_
            refine oe_imul (pc := 196) d_X0_run_196 ?_
            obtain ⟨rfl, rfl⟩ := oRes h
            exact oe_iret (pc := 197) d_X0_run_197 ⟨_, rfl, rfl⟩
          · replace h := (if_neg c56_2).symm.trans h
            by_cases c56_3 : (oTb 3 (((v2 * 4) + p2) : Int32).toNatClampNeg) = 11
            · replace h := (if_pos c56_3).symm.trans h
              refine oe_lookup (pc := 56) (tgt := 198) (off := 142) d_X0_run_56 (by decide) (by rw [c56_3]; decide) (by decide) ?_
              refine oe_iload_n (pc := 198) d_X0_run_198 rfl ?_
              refine oe_aload_n (pc := 199) d_X0_run_199 rfl ?_
              refine oe_getf (pc := 200) d_X0_run_200 fl_X0_24 ock0 (k := 2) (Nat.le_of_ble_eq_true rfl) rfl (oLt hK (a := 44) (Nat.le_of_ble_eq_true rfl)) (oSho hK (a := 44) (Nat.le_of_ble_eq_true rfl) rfl) ?_
              refine oe_ixor (pc := 203) d_X0_run_203 ?_
              obtain ⟨rfl, rfl⟩ := oRes h
              exact oe_iret (pc := 204) d_X0_run_204 ⟨_, rfl, rfl⟩
            · replace h := (if_neg c56_3).symm.trans h
              by_cases c56_4 : (oTb 3 (((v2 * 4) + p2) : Int32).toNatClampNeg) = 20
              · replace h := (if_pos c56_4).symm.trans h
                refine oe_lookup (pc := 56) (tgt := 205) (off := 149) d_X0_run_56 (by decide) (by rw [c56_4]; decide) (by decide) ?_
                refine oe_aload_n (pc := 205) d_X0_run_205 rfl ?_
                refine oe_iload (pc := 206) d_X0_run_206 rfl ?_
                refine oe_iconst (pc := 208) (v := 2) d_X0_run_208 rfl ?_
                refine oe_iload_n (pc := 209) d_X0_run_209 rfl ?_
                refine oe_iload (pc := 210) d_X0_run_210 rfl ?_
                obtain ⟨v19, M20, q21, h⟩ := oB2_some h
                obtain ⟨d', hdl, hS9⟩ := id hS
                refine oe_callS (pc := 212) d_X0_run_212 (hS9 _ _ _ _ _ _ _  q21) hdl ml_X0_39 jJ_X0_run rfl rfl (Nat.le_of_ble_eq_true rfl) ⟨Nat.le_refl _, Nat.le_refl _⟩ ⟨Nat.le_refl _, Nat.le_refl _⟩ ?_
                refine oe_aload_n (pc := 215) d_X0_run_215 rfl ?_
                refine oe_getf (pc := 216) d_X0_run_216 fl_X0_30 ock0 (k := 3) (Nat.le_of_ble_eq_true rfl) rfl (oLt hK (a := 44) (Nat.le_of_ble_eq_true rfl)) (oSho hK (a := 44) (Nat.le_of_ble_eq_true rfl) rfl) ?_
                refine oe_iadd (pc := 219) d_X0_run_219 ?_
                obtain ⟨rfl, rfl⟩ := oRes h
                exact oe_iret (pc := 220) d_X0_run_220 ⟨_, rfl, rfl⟩
              · replace h := (if_neg c56_4).symm.trans h
                by_cases c56_5 : (oTb 3 (((v2 * 4) + p2) : Int32).toNatClampNeg) = 30
                · replace h := (if_pos c56_5).symm.trans h
                  refine oe_lookup (pc := 56) (tgt := 221) (off := 165) d_X0_run_56 (by decide) (by rw [c56_5]; decide) (by decide) ?_
                  refine oe_aload_n (pc := 221) d_X0_run_221 rfl ?_
                  refine oe_iload (pc := 222) d_X0_run_222 rfl ?_
                  refine oe_iconst (pc := 224) (v := 1) d_X0_run_224 rfl ?_
                  refine oe_iload_n (pc := 225) d_X0_run_225 rfl ?_
                  refine oe_iload (pc := 226) d_X0_run_226 rfl ?_
                  obtain ⟨v22, M23, q24, h⟩ := oB2_some h
                  obtain ⟨d', hdl, hS9⟩ := id hS
                  refine oe_callS (pc := 228) d_X0_run_228 (hS9 _ _ _ _ _ _ _  q24) hdl ml_X0_39 jJ_X0_run rfl rfl (Nat.le_of_ble_eq_true rfl) ⟨Nat.le_refl _, Nat.le_refl _⟩ ⟨Nat.le_refl _, Nat.le_refl _⟩ ?_
                  refine oe_ineg (pc := 231) d_X0_run_231 ?_
                  obtain ⟨rfl, rfl⟩ := oRes h
                  exact oe_iret (pc := 232) d_X0_run_232 ⟨_, rfl, rfl⟩
                · replace h := (if_neg c56_5).symm.trans h
                  by_cases c56_6 : (oTb 3 (((v2 * 4) + p2) : Int32).toNatClampNeg) = 40
                  · replace h := (if_pos c56_6).symm.trans h
                    refine oe_lookup (pc := 56) (tgt := 233) (off := 177) d_X0_run_56 (by decide) (by rw [c56_6]; decide) (by decide) ?_
                    refine oe_aload_n (pc := 233) d_X0_run_233 rfl ?_
                    refine oe_iload (pc := 234) d_X0_run_234 rfl ?_
                    refine oe_iconst (pc := 236) (v := 0) d_X0_run_236 rfl ?_
                    refine oe_iload_n (pc := 237) d_X0_run_237 rfl ?_
                    refine oe_iload (pc := 238) d_X0_run_238 rfl ?_
                    obtain ⟨v25, M26, q27, h⟩ := oB2_some h
                    obtain ⟨d', hdl, hS9⟩ := id hS
                    refine oe_callS (pc := 240) d_X0_run_240 (hS9 _ _ _ _ _ _ _  q27) hdl ml_X0_39 jJ_X0_run rfl rfl (Nat.le_of_ble_eq_true rfl) ⟨Nat.le_refl _, Nat.le_refl _⟩ ⟨Nat.le_refl _, Nat.le_refl _⟩ ?_
                    refine oe_iconst (pc := 243) (v := 3) d_X0_run_243 rfl ?_
                    refine oe_imul (pc := 244) d_X0_run_244 ?_
                    obtain ⟨rfl, rfl⟩ := oRes h
                    exact oe_iret (pc := 245) d_X0_run_245 ⟨_, rfl, rfl⟩
                  · replace h := (if_neg c56_6).symm.trans h
                    by_cases c56_7 : (oTb 3 (((v2 * 4) + p2) : Int32).toNatClampNeg) = 41
                    · replace h := (if_pos c56_7).symm.trans h
                      refine oe_lookup (pc := 56) (tgt := 246) (off := 190) d_X0_run_56 (by decide) (by rw [c56_7]; decide) (by decide) ?_
                      refine oe_aload_n (pc := 246) d_X0_run_246 rfl ?_
                      refine oe_iload (pc := 247) d_X0_run_247 rfl ?_
                      refine oe_iconst (pc := 249) (v := 2) d_X0_run_249 rfl ?_
                      refine oe_iload_n (pc := 250) d_X0_run_250 rfl ?_
                      refine oe_iconst (pc := 251) (v := 1) d_X0_run_251 rfl ?_
                      refine oe_iadd (pc := 252) d_X0_run_252 ?_
                      refine oe_iload (pc := 253) d_X0_run_253 rfl ?_
                      obtain ⟨v28, M29, q30, h⟩ := oB2_some h
                      obtain ⟨d', hdl, hS9⟩ := id hS
                      refine oe_callS (pc := 255) d_X0_run_255 (hS9 _ _ _ _ _ _ _  q30) hdl ml_X0_39 jJ_X0_run rfl rfl (Nat.le_of_ble_eq_true rfl) ⟨Nat.le_refl _, Nat.le_refl _⟩ ⟨Nat.le_refl _, Nat.le_refl _⟩ ?_
                      obtain ⟨rfl, rfl⟩ := oRes h
                      exact oe_iret (pc := 258) d_X0_run_258 ⟨_, rfl, rfl⟩
                    · replace h := (if_neg c56_7).symm.trans h
                      by_cases c56_8 : (oTb 3 (((v2 * 4) + p2) : Int32).toNatClampNeg) = 50
                      · replace h := (if_pos c56_8).symm.trans h
                        refine oe_lookup (pc := 56) (tgt := 259) (off := 203) d_X0_run_56 (by decide) (by rw [c56_8]; decide) (by decide) ?_
                        refine oe_aload_n (pc := 259) d_X0_run_259 rfl ?_
                        refine oe_iload (pc := 260) d_X0_run_260 rfl ?_
                        refine oe_iconst (pc := 262) (v := 3) d_X0_run_262 rfl ?_
                        refine oe_iload_n (pc := 263) d_X0_run_263 rfl ?_
                        refine oe_iload (pc := 264) d_X0_run_264 rfl ?_
                        obtain ⟨v31, M32, q33, h⟩ := oB2_some h
                        obtain ⟨d', hdl, hS9⟩ := id hS
                        refine oe_callS (pc := 266) d_X0_run_266 (hS9 _ _ _ _ _ _ _  q33) hdl ml_X0_39 jJ_X0_run rfl rfl (Nat.le_of_ble_eq_true rfl) ⟨Nat.le_refl _, Nat.le_refl _⟩ ⟨Nat.le_refl _, Nat.le_refl _⟩ ?_
                        refine oe_iconst (pc := 269) (v := 5) d_X0_run_269 rfl ?_
                        refine oe_ixor (pc := 270) d_X0_run_270 ?_
                        obtain ⟨rfl, rfl⟩ := oRes h
                        exact oe_iret (pc := 271) d_X0_run_271 ⟨_, rfl, rfl⟩
                      · replace h := (if_neg c56_8).symm.trans h
                        by_cases c56_9 : (oTb 3 (((v2 * 4) + p2) : Int32).toNatClampNeg) = 51
                        · replace h := (if_pos c56_9).symm.trans h
                          refine oe_lookup (pc := 56) (tgt := 272) (off := 216) d_X0_run_56 (by decide) (by rw [c56_9]; decide) (by decide) ?_
                          refine oe_aload_n (pc := 272) d_X0_run_272 rfl ?_
                          refine oe_iload (pc := 273) d_X0_run_273 rfl ?_
                          refine oe_iconst (pc := 275) (v := 1) d_X0_run_275 rfl ?_
                          refine oe_iload_n (pc := 276) d_X0_run_276 rfl ?_
                          refine oe_iload (pc := 277) d_X0_run_277 rfl ?_
                          obtain ⟨v34, M35, q36, h⟩ := oB2_some h
                          obtain ⟨d', hdl, hS9⟩ := id hS
                          refine oe_callS (pc := 279) d_X0_run_279 (hS9 _ _ _ _ _ _ _  q36) hdl ml_X0_39 jJ_X0_run rfl rfl (Nat.le_of_ble_eq_true rfl) ⟨Nat.le_refl _, Nat.le_refl _⟩ ⟨Nat.le_refl _, Nat.le_refl _⟩ ?_
                          refine oe_aload_n (pc := 282) d_X0_run_282 rfl ?_
                          refine oe_iload (pc := 283) d_X0_run_283 rfl ?_
                          refine oe_iconst (pc := 285) (v := 2) d_X0_run_285 rfl ?_
                          refine oe_iconst (pc := 286) (v := 2) d_X0_run_286 rfl ?_
                          refine oe_iload (pc := 287) d_X0_run_287 rfl ?_
                          obtain ⟨v37, M38, q39, h⟩ := oB2_some h
                          obtain ⟨d', hdl, hS9⟩ := id hS
                          refine oe_callS (pc := 289) d_X0_run_289 (hS9 _ _ _ _ _ _ _  q39) hdl ml_X0_39 jJ_X0_run rfl rfl (Nat.le_of_ble_eq_true rfl) ⟨Nat.le_refl _, Nat.le_refl _⟩ ⟨Nat.le_refl _, Nat.le_refl _⟩ ?_
                          refine oe_iadd (pc := 292) d_X0_run_292 ?_
                          obtain ⟨rfl, rfl⟩ := oRes h
                          exact oe_iret (pc := 293) d_X0_run_293 ⟨_, rfl, rfl⟩
                        · replace h := (if_neg c56_9).symm.trans h
                          by_cases c56_10 : (oTb 3 (((v2 * 4) + p2) : Int32).toNatClampNeg) = 60
                          · replace h := (if_pos c56_10).symm.trans h
                            refine oe_lookup (pc := 56) (tgt := 294) (off := 238) d_X0_run_56 (by decide) (by rw [c56_10]; decide) (by decide) ?_
                            refine oe_aload_n (pc := 294) d_X0_run_294 rfl ?_
                            refine oe_iload (pc := 295) d_X0_run_295 rfl ?_
                            refine oe_iconst (pc := 297) (v := 2) d_X0_run_297 rfl ?_
                            refine oe_iload_n (pc := 298) d_X0_run_298 rfl ?_
                            refine oe_iload (pc := 299) d_X0_run_299 rfl ?_
                            obtain ⟨v40, M41, q42, h⟩ := oB2_some h
                            obtain ⟨d', hdl, hS9⟩ := id hS
                            refine oe_callS (pc := 301) d_X0_run_301 (hS9 _ _ _ _ _ _ _  q42) hdl ml_X0_39 jJ_X0_run rfl rfl (Nat.le_of_ble_eq_true rfl) ⟨Nat.le_refl _, Nat.le_refl _⟩ ⟨Nat.le_refl _, Nat.le_refl _⟩ ?_
                            refine oe_aload_n (pc := 304) d_X0_run_304 rfl ?_
                            refine oe_iload (pc := 305) d_X0_run_305 rfl ?_
                            refine oe_iconst (pc := 307) (v := 0) d_X0_run_307 rfl ?_
                            refine oe_iconst (pc := 308) (v := 1) d_X0_run_308 rfl ?_
                            refine oe_iload (pc := 309) d_X0_run_309 rfl ?_
                            obtain ⟨v43, M44, q45, h⟩ := oB2_some h
                            obtain ⟨d', hdl, hS9⟩ := id hS
                            refine oe_callS (pc := 311) d_X0_run_311 (hS9 _ _ _ _ _ _ _  q45) hdl ml_X0_39 jJ_X0_run rfl rfl (Nat.le_of_ble_eq_true rfl) ⟨Nat.le_refl _, Nat.le_refl _⟩ ⟨Nat.le_refl _, Nat.le_refl _⟩ ?_
                            refine oe_isub (pc := 314) d_X0_run_314 ?_
                            obtain ⟨rfl, rfl⟩ := oRes h
                            exact oe_iret (pc := 315) d_X0_run_315 ⟨_, rfl, rfl⟩
                          · replace h := (if_neg c56_10).symm.trans h
                            refine oe_lookup (pc := 56) (tgt := 316) (off := 260) d_X0_run_56 (by decide) (by have e0 : ¬ ((1 : Int) = ((oTb 3 (((v2 * 4) + p2) : Int32).toNatClampNeg)).toInt) := fun q => oNe (k := 1) c56_0 rfl q.symm; have e1 : ¬ ((2 : Int) = ((oTb 3 (((v2 * 4) + p2) : Int32).toNatClampNeg)).toInt) := fun q => oNe (k := 2) c56_1 rfl q.symm; have e2 : ¬ ((10 : Int) = ((oTb 3 (((v2 * 4) + p2) : Int32).toNatClampNeg)).toInt) := fun q => oNe (k := 10) c56_2 rfl q.symm; have e3 : ¬ ((11 : Int) = ((oTb 3 (((v2 * 4) + p2) : Int32).toNatClampNeg)).toInt) := fun q => oNe (k := 11) c56_3 rfl q.symm; have e4 : ¬ ((20 : Int) = ((oTb 3 (((v2 * 4) + p2) : Int32).toNatClampNeg)).toInt) := fun q => oNe (k := 20) c56_4 rfl q.symm; have e5 : ¬ ((30 : Int) = ((oTb 3 (((v2 * 4) + p2) : Int32).toNatClampNeg)).toInt) := fun q => oNe (k := 30) c56_5 rfl q.symm; have e6 : ¬ ((40 : Int) = ((oTb 3 (((v2 * 4) + p2) : Int32).toNatClampNeg)).toInt) := fun q => oNe (k := 40) c56_6 rfl q.symm; have e7 : ¬ ((41 : Int) = ((oTb 3 (((v2 * 4) + p2) : Int32).toNatClampNeg)).toInt) := fun q => oNe (k := 41) c56_7 rfl q.symm; have e8 : ¬ ((50 : Int) = ((oTb 3 (((v2 * 4) + p2) : Int32).toNatClampNeg)).toInt) := fun q => oNe (k := 50) c56_8 rfl q.symm; have e9 : ¬ ((51 : Int) = ((oTb 3 (((v2 * 4) + p2) : Int32).toNatClampNeg)).toInt) := fun q => oNe (k := 51) c56_9 rfl q.symm; have e10 : ¬ ((60 : Int) = ((oTb 3 (((v2 * 4) + p2) : Int32).toNatClampNeg)).toInt) := fun q => oNe (k := 60) c56_10 rfl q.symm; simp [Op.lookupswitch.offset, *]) (by decide) ?_
                            refine oe_iconst (pc := 316) (v := 0) d_X0_run_316 rfl ?_
                            obtain ⟨rfl, rfl⟩ := oRes h
                            exact oe_iret (pc := 317) d_X0_run_317 ⟨_, rfl, rfl⟩
    · replace h := (if_neg c1).symm.trans h
      refine oe_iconst (pc := 7) (v := 0) d_X0_run_7 rfl ?_
      obtain ⟨rfl, rfl⟩ := oRes h
      exact oe_iret (pc := 8) d_X0_run_8 ⟨_, rfl, rfl⟩
theorem d_X0_lead_0 : decode J_X0_lead.2.1 0 = .ok (.aload_n 0, 1) := by decide +kernel
theorem d_X0_lead_1 : decode J_X0_lead.2.1 1 = .ok (.iconst 0, 1) := by decide +kernel
theorem d_X0_lead_2 : decode J_X0_lead.2.1 2 = .ok (.putfield 15, 3) := by decide +kernel
theorem d_X0_lead_5 : decode J_X0_lead.2.1 5 = .ok (.aload_n 0, 1) := by decide +kernel
theorem d_X0_lead_6 : decode J_X0_lead.2.1 6 = .ok (.aload_n 1, 1) := by decide +kernel
theorem d_X0_lead_7 : decode J_X0_lead.2.1 7 = .ok (.getfield 19, 3) := by decide +kernel
theorem d_X0_lead_10 : decode J_X0_lead.2.1 10 = .ok (.putfield 24, 3) := by decide +kernel
theorem d_X0_lead_13 : decode J_X0_lead.2.1 13 = .ok (.aload_n 0, 1) := by decide +kernel
theorem d_X0_lead_14 : decode J_X0_lead.2.1 14 = .ok (.aload_n 1, 1) := by decide +kernel
theorem d_X0_lead_15 : decode J_X0_lead.2.1 15 = .ok (.getfield 27, 3) := by decide +kernel
theorem d_X0_lead_18 : decode J_X0_lead.2.1 18 = .ok (.putfield 30, 3) := by decide +kernel
theorem d_X0_lead_21 : decode J_X0_lead.2.1 21 = .ok (.aload_n 0, 1) := by decide +kernel
theorem d_X0_lead_22 : decode J_X0_lead.2.1 22 = .ok (.aload_n 1, 1) := by decide +kernel
theorem d_X0_lead_23 : decode J_X0_lead.2.1 23 = .ok (.getfield 33, 3) := by decide +kernel
theorem d_X0_lead_26 : decode J_X0_lead.2.1 26 = .ok (.putfield 36, 3) := by decide +kernel
theorem d_X0_lead_29 : decode J_X0_lead.2.1 29 = .ok (.aload_n 0, 1) := by decide +kernel
theorem d_X0_lead_30 : decode J_X0_lead.2.1 30 = .ok (.aload_n 0, 1) := by decide +kernel
theorem d_X0_lead_31 : decode J_X0_lead.2.1 31 = .ok (.getfield 36, 3) := by decide +kernel
theorem d_X0_lead_34 : decode J_X0_lead.2.1 34 = .ok (.iload_n 2, 1) := by decide +kernel
theorem d_X0_lead_35 : decode J_X0_lead.2.1 35 = .ok (.iload_n 3, 1) := by decide +kernel
theorem d_X0_lead_36 : decode J_X0_lead.2.1 36 = .ok (.iconst 0, 1) := by decide +kernel
theorem d_X0_lead_37 : decode J_X0_lead.2.1 37 = .ok (.invokestatic 39, 3) := by decide +kernel
theorem d_X0_lead_40 : decode J_X0_lead.2.1 40 = .ok (.ireturn, 1) := by decide +kernel
def f_X0_lead (N : Nat) (K : oK) (p1 : Nat) (p2 : Int32) (p3 : Int32) (M : oM) : Option (Int32 × oM) :=
  oB2 (f_X0_run N K 20 ((oUp (oUp (oUp (oUp M 44 1 (0 : Int32)) 44 2 ((oUp M 44 1 (0 : Int32)).1 p1 0)) 44 3 ((oUp (oUp M 44 1 (0 : Int32)) 44 2 ((oUp M 44 1 (0 : Int32)).1 p1 0)).1 p1 7)) 44 4 ((oUp (oUp (oUp M 44 1 (0 : Int32)) 44 2 ((oUp M 44 1 (0 : Int32)).1 p1 0)) 44 3 ((oUp (oUp M 44 1 (0 : Int32)) 44 2 ((oUp M 44 1 (0 : Int32)).1 p1 0)).1 p1 7)).1 p1 1)).1 44 4) p2 p3 (0 : Int32) (oUp (oUp (oUp (oUp M 44 1 (0 : Int32)) 44 2 ((oUp M 44 1 (0 : Int32)).1 p1 0)) 44 3 ((oUp (oUp M 44 1 (0 : Int32)) 44 2 ((oUp M 44 1 (0 : Int32)).1 p1 0)).1 p1 7)) 44 4 ((oUp (oUp (oUp M 44 1 (0 : Int32)) 44 2 ((oUp M 44 1 (0 : Int32)).1 p1 0)) 44 3 ((oUp (oUp M 44 1 (0 : Int32)) 44 2 ((oUp M 44 1 (0 : Int32)).1 p1 0)).1 p1 7)).1 p1 1))) (fun v1 M2 => some (v1, M2))
set_option maxRecDepth 20000 in
theorem v_X0_lead {X : oX} {N : Nat} {K : oK} {p1 : Nat} {p2 : Int32} {p3 : Int32} {M : oM} {v : Int32} {M' : oM} (hK : oSR K) (hh_p1 : oLS K p1) (h : f_X0_lead N K p1 p2 p3 M = some (v, M')) : oMet X 23 J_X0_lead [(.ref 44), (.ref p1), (.int p2), (.int p3)] K M (some (.int v)) K M' := by
  unfold f_X0_lead at h
  refine oMet_of (L := [some (.ref 44), some (.ref p1), some (.int p2), some (.int p3)]) jJ_X0_lead.1 rfl (Nat.le_of_ble_eq_true rfl) rfl (Nat.le_refl _) (Nat.le_refl _) ?_
  have hd : 23 ≤ 23 := Nat.le_refl _
  refine oe_aload_n (pc := 0) d_X0_lead_0 rfl ?_
  refine oe_iconst (pc := 1) (v := 0) d_X0_lead_1 rfl ?_
  refine oe_putf (pc := 2) d_X0_lead_2 fl_X0_15 ock0 (k := 1) (Nat.le_of_ble_eq_true rfl) rfl rfl (oLt hK (a := 44) (Nat.le_of_ble_eq_true rfl)) (oSho hK (a := 44) (Nat.le_of_ble_eq_true rfl) rfl) ?_
  refine oe_aload_n (pc := 5) d_X0_lead_5 rfl ?_
  refine oe_aload_n (pc := 6) d_X0_lead_6 rfl ?_
  refine oe_getf (pc := 7) d_X0_lead_7 fl_X0_19 ock6 (k := 0) (Nat.le_of_ble_eq_true rfl) rfl (oLSa hh_p1 (j := 0) (Nat.le_of_ble_eq_true rfl)) (oLSo hh_p1) ?_
  refine oe_putf (pc := 10) d_X0_lead_10 fl_X0_24 ock0 (k := 2) (Nat.le_of_ble_eq_true rfl) rfl rfl (oLt hK (a := 44) (Nat.le_of_ble_eq_true rfl)) (oSho hK (a := 44) (Nat.le_of_ble_eq_true rfl) rfl) ?_
  refine oe_aload_n (pc := 13) d_X0_lead_13 rfl ?_
  refine oe_aload_n (pc := 14) d_X0_lead_14 rfl ?_
  refine oe_getf (pc := 15) d_X0_lead_15 fl_X0_27 ock6 (k := 7) (Nat.le_of_ble_eq_true rfl) rfl (oLSa hh_p1 (j := 0) (Nat.le_of_ble_eq_true rfl)) (oLSo hh_p1) ?_
  refine oe_putf (pc := 18) d_X0_lead_18 fl_X0_30 ock0 (k := 3) (Nat.le_of_ble_eq_true rfl) rfl rfl (oLt hK (a := 44) (Nat.le_of_ble_eq_true rfl)) (oSho hK (a := 44) (Nat.le_of_ble_eq_true rfl) rfl) ?_
  refine oe_aload_n (pc := 21) d_X0_lead_21 rfl ?_
  refine oe_aload_n (pc := 22) d_X0_lead_22 rfl ?_
  refine oe_getf (pc := 23) d_X0_lead_23 fl_X0_33 ock6 (k := 1) (Nat.le_of_ble_eq_true rfl) rfl (oLSa hh_p1 (j := 0) (Nat.le_of_ble_eq_true rfl)) (oLSo hh_p1) ?_
  refine oe_putf (pc := 26) d_X0_lead_26 fl_X0_36 ock0 (k := 4) (Nat.le_of_ble_eq_true rfl) rfl rfl (oLt hK (a := 44) (Nat.le_of_ble_eq_true rfl)) (oSho hK (a := 44) (Nat.le_of_ble_eq_true rfl) rfl) ?_
  refine oe_aload_n (pc := 29) d_X0_lead_29 rfl ?_
  refine oe_aload_n (pc := 30) d_X0_lead_30 rfl ?_
  refine oe_getf (pc := 31) d_X0_lead_31 fl_X0_36 ock0 (k := 4) (Nat.le_of_ble_eq_true rfl) rfl (oLt hK (a := 44) (Nat.le_of_ble_eq_true rfl)) (oSho hK (a := 44) (Nat.le_of_ble_eq_true rfl) rfl) ?_
  refine oe_iload_n (pc := 34) d_X0_lead_34 rfl ?_
  refine oe_iload_n (pc := 35) d_X0_lead_35 rfl ?_
  refine oe_iconst (pc := 36) (v := 0) d_X0_lead_36 rfl ?_
  obtain ⟨v1, M2, q3, h⟩ := oB2_some h
  refine oe_callS (pc := 37) d_X0_lead_37 (v_X0_run_R hK 20 _ _ _ _ _ _ _  q3) (by omega) ml_X0_39 jJ_X0_run rfl rfl (Nat.le_of_ble_eq_true rfl) ⟨Nat.le_refl _, Nat.le_refl _⟩ ⟨Nat.le_refl _, Nat.le_refl _⟩ ?_
  obtain ⟨rfl, rfl⟩ := oRes h
  exact oe_iret (pc := 40) d_X0_lead_40 ⟨_, rfl, rfl⟩
theorem d_X0_bodyAt_0 : decode J_X0_bodyAt.2.1 0 = .ok (.iload_n 1, 1) := by decide +kernel
theorem d_X0_bodyAt_1 : decode J_X0_bodyAt.2.1 1 = .ok (.ifCond .lt 26, 3) := by decide +kernel
theorem d_X0_bodyAt_4 : decode J_X0_bodyAt.2.1 4 = .ok (.iload_n 1, 1) := by decide +kernel
theorem d_X0_bodyAt_5 : decode J_X0_bodyAt.2.1 5 = .ok (.aload_n 0, 1) := by decide +kernel
theorem d_X0_bodyAt_6 : decode J_X0_bodyAt.2.1 6 = .ok (.getfield 15, 3) := by decide +kernel
theorem d_X0_bodyAt_9 : decode J_X0_bodyAt.2.1 9 = .ok (.if_icmp .ge 18, 3) := by decide +kernel
theorem d_X0_bodyAt_12 : decode J_X0_bodyAt.2.1 12 = .ok (.iload_n 1, 1) := by decide +kernel
theorem d_X0_bodyAt_13 : decode J_X0_bodyAt.2.1 13 = .ok (.bipush 24, 2) := by decide +kernel
theorem d_X0_bodyAt_15 : decode J_X0_bodyAt.2.1 15 = .ok (.if_icmp .ge 12, 3) := by decide +kernel
theorem d_X0_bodyAt_18 : decode J_X0_bodyAt.2.1 18 = .ok (.aload_n 0, 1) := by decide +kernel
theorem d_X0_bodyAt_19 : decode J_X0_bodyAt.2.1 19 = .ok (.getfield 11, 3) := by decide +kernel
theorem d_X0_bodyAt_22 : decode J_X0_bodyAt.2.1 22 = .ok (.iload_n 1, 1) := by decide +kernel
theorem d_X0_bodyAt_23 : decode J_X0_bodyAt.2.1 23 = .ok (.iaload, 1) := by decide +kernel
theorem d_X0_bodyAt_24 : decode J_X0_bodyAt.2.1 24 = .ok (.goto 4, 3) := by decide +kernel
theorem d_X0_bodyAt_27 : decode J_X0_bodyAt.2.1 27 = .ok (.iconst (-1), 1) := by decide +kernel
theorem d_X0_bodyAt_28 : decode J_X0_bodyAt.2.1 28 = .ok (.ireturn, 1) := by decide +kernel
def f_X0_bodyAt (N : Nat) (K : oK) (p1 : Int32) (M : oM) : Option (Int32 × oM) :=
  (if p1 < 0 then some ((-1), M) else (if (M.1 44 1) ≤ p1 then some ((-1), M) else (if 24 ≤ p1 then some ((-1), M) else oIx (p1) 24 (some ((M.1 45 (p1 : Int32).toNatClampNeg), M)))))
set_option maxRecDepth 20000 in
theorem v_X0_bodyAt {X : oX} {N : Nat} {K : oK} {p1 : Int32} {M : oM} {v : Int32} {M' : oM} (hK : oSR K)  (h : f_X0_bodyAt N K p1 M = some (v, M')) : oMet X 1 J_X0_bodyAt [(.ref 44), (.int p1)] K M (some (.int v)) K M' := by
  unfold f_X0_bodyAt at h
  refine oMet_of (L := [some (.ref 44), some (.int p1)]) jJ_X0_bodyAt.1 rfl (Nat.le_of_ble_eq_true rfl) rfl (Nat.le_refl _) (Nat.le_refl _) ?_
  have hd : 1 ≤ 1 := Nat.le_refl _
  refine oe_iload_n (pc := 0) d_X0_bodyAt_0 rfl ?_
  refine oe_if_lt (pc := 1) (tgt := 27) d_X0_bodyAt_1 (by decide) (fun c1 => ?_) (fun c1 => ?_)
  · replace h := (if_pos c1).symm.trans h
    refine oe_iconst (pc := 27) (v := (-1)) d_X0_bodyAt_27 rfl ?_
    obtain ⟨rfl, rfl⟩ := oRes h
    exact oe_iret (pc := 28) d_X0_bodyAt_28 ⟨_, rfl, rfl⟩
  · replace h := (if_neg c1).symm.trans h
    refine oe_iload_n (pc := 4) d_X0_bodyAt_4 rfl ?_
    refine oe_aload_n (pc := 5) d_X0_bodyAt_5 rfl ?_
    refine oe_getf (pc := 6) d_X0_bodyAt_6 fl_X0_15 ock0 (k := 1) (Nat.le_of_ble_eq_true rfl) rfl (oLt hK (a := 44) (Nat.le_of_ble_eq_true rfl)) (oSho hK (a := 44) (Nat.le_of_ble_eq_true rfl) rfl) ?_
    refine oe_icmp_ge (pc := 9) (tgt := 27) d_X0_bodyAt_9 (by decide) (fun c2 => ?_) (fun c2 => ?_)
    · replace h := (if_pos c2).symm.trans h
      refine oe_iconst (pc := 27) (v := (-1)) d_X0_bodyAt_27 rfl ?_
      obtain ⟨rfl, rfl⟩ := oRes h
      exact oe_iret (pc := 28) d_X0_bodyAt_28 ⟨_, rfl, rfl⟩
    · replace h := (if_neg c2).symm.trans h
      refine oe_iload_n (pc := 12) d_X0_bodyAt_12 rfl ?_
      refine oe_bipush (pc := 13) (v := 24) d_X0_bodyAt_13 rfl ?_
      refine oe_icmp_ge (pc := 15) (tgt := 27) d_X0_bodyAt_15 (by decide) (fun c3 => ?_) (fun c3 => ?_)
      · replace h := (if_pos c3).symm.trans h
        refine oe_iconst (pc := 27) (v := (-1)) d_X0_bodyAt_27 rfl ?_
        obtain ⟨rfl, rfl⟩ := oRes h
        exact oe_iret (pc := 28) d_X0_bodyAt_28 ⟨_, rfl, rfl⟩
      · replace h := (if_neg c3).symm.trans h
        refine oe_aload_n (pc := 18) d_X0_bodyAt_18 rfl ?_
        refine oe_getr (pc := 19) d_X0_bodyAt_19 fl_X0_11 ock0 (k := 0) (b := 45) (Nat.le_of_ble_eq_true rfl) (by decide) (oLt hK (a := 44) (Nat.le_of_ble_eq_true rfl)) (oSho hK (a := 44) (Nat.le_of_ble_eq_true rfl) rfl) (oRfK hK rfl) ?_
        refine oe_iload_n (pc := 22) d_X0_bodyAt_22 rfl ?_
        obtain ⟨i4, h⟩ := oIx_some h
        refine oe_iald (pc := 23) d_X0_bodyAt_23 (oLt hK (a := 45) (Nat.le_of_ble_eq_true rfl)) (oSha hK (a := 45) (Nat.le_of_ble_eq_true rfl) rfl) i4 ?_
        refine oe_goto (pc := 24) (tgt := 28) d_X0_bodyAt_24 (by decide) ?_
        obtain ⟨rfl, rfl⟩ := oRes h
        exact oe_iret (pc := 28) d_X0_bodyAt_28 ⟨_, rfl, rfl⟩
theorem d_X1_add_0 : decode J_X1_add.2.1 0 = .ok (.aload_n 0, 1) := by decide +kernel
theorem d_X1_add_1 : decode J_X1_add.2.1 1 = .ok (.getfield 21, 3) := by decide +kernel
theorem d_X1_add_4 : decode J_X1_add.2.1 4 = .ok (.bipush 9, 2) := by decide +kernel
theorem d_X1_add_6 : decode J_X1_add.2.1 6 = .ok (.if_icmp .lt 6, 3) := by decide +kernel
theorem d_X1_add_9 : decode J_X1_add.2.1 9 = .ok (.bipush (-3), 2) := by decide +kernel
theorem d_X1_add_11 : decode J_X1_add.2.1 11 = .ok (.ireturn, 1) := by decide +kernel
theorem d_X1_add_12 : decode J_X1_add.2.1 12 = .ok (.aload_n 0, 1) := by decide +kernel
theorem d_X1_add_13 : decode J_X1_add.2.1 13 = .ok (.getfield 11, 3) := by decide +kernel
theorem d_X1_add_16 : decode J_X1_add.2.1 16 = .ok (.aload_n 0, 1) := by decide +kernel
theorem d_X1_add_17 : decode J_X1_add.2.1 17 = .ok (.getfield 21, 3) := by decide +kernel
theorem d_X1_add_20 : decode J_X1_add.2.1 20 = .ok (.iload_n 1, 1) := by decide +kernel
theorem d_X1_add_21 : decode J_X1_add.2.1 21 = .ok (.iastore, 1) := by decide +kernel
theorem d_X1_add_22 : decode J_X1_add.2.1 22 = .ok (.aload_n 0, 1) := by decide +kernel
theorem d_X1_add_23 : decode J_X1_add.2.1 23 = .ok (.getfield 15, 3) := by decide +kernel
theorem d_X1_add_26 : decode J_X1_add.2.1 26 = .ok (.aload_n 0, 1) := by decide +kernel
theorem d_X1_add_27 : decode J_X1_add.2.1 27 = .ok (.getfield 21, 3) := by decide +kernel
theorem d_X1_add_30 : decode J_X1_add.2.1 30 = .ok (.iload_n 2, 1) := by decide +kernel
theorem d_X1_add_31 : decode J_X1_add.2.1 31 = .ok (.iastore, 1) := by decide +kernel
theorem d_X1_add_32 : decode J_X1_add.2.1 32 = .ok (.aload_n 0, 1) := by decide +kernel
theorem d_X1_add_33 : decode J_X1_add.2.1 33 = .ok (.dup, 1) := by decide +kernel
theorem d_X1_add_34 : decode J_X1_add.2.1 34 = .ok (.getfield 21, 3) := by decide +kernel
theorem d_X1_add_37 : decode J_X1_add.2.1 37 = .ok (.iconst 1, 1) := by decide +kernel
theorem d_X1_add_38 : decode J_X1_add.2.1 38 = .ok (.iadd, 1) := by decide +kernel
theorem d_X1_add_39 : decode J_X1_add.2.1 39 = .ok (.putfield 21, 3) := by decide +kernel
theorem d_X1_add_42 : decode J_X1_add.2.1 42 = .ok (.aload_n 0, 1) := by decide +kernel
theorem d_X1_add_43 : decode J_X1_add.2.1 43 = .ok (.getfield 21, 3) := by decide +kernel
theorem d_X1_add_46 : decode J_X1_add.2.1 46 = .ok (.ireturn, 1) := by decide +kernel
def f_X1_add (N : Nat) (K : oK) (p1 : Int32) (p2 : Int32) (M : oM) : Option (Int32 × oM) :=
  (if (M.1 40 3) < 9 then oIx ((M.1 40 3)) 9 (oIx (((oUp M 41 ((M.1 40 3) : Int32).toNatClampNeg p1).1 40 3)) 9 (some (((oUp (oUp (oUp M 41 ((M.1 40 3) : Int32).toNatClampNeg p1) 42 (((oUp M 41 ((M.1 40 3) : Int32).toNatClampNeg p1).1 40 3) : Int32).toNatClampNeg p2) 40 3 (((oUp (oUp M 41 ((M.1 40 3) : Int32).toNatClampNeg p1) 42 (((oUp M 41 ((M.1 40 3) : Int32).toNatClampNeg p1).1 40 3) : Int32).toNatClampNeg p2).1 40 3) + 1)).1 40 3), (oUp (oUp (oUp M 41 ((M.1 40 3) : Int32).toNatClampNeg p1) 42 (((oUp M 41 ((M.1 40 3) : Int32).toNatClampNeg p1).1 40 3) : Int32).toNatClampNeg p2) 40 3 (((oUp (oUp M 41 ((M.1 40 3) : Int32).toNatClampNeg p1) 42 (((oUp M 41 ((M.1 40 3) : Int32).toNatClampNeg p1).1 40 3) : Int32).toNatClampNeg p2).1 40 3) + 1))))) else some ((-3), M))
set_option maxRecDepth 20000 in
theorem v_X1_add {X : oX} {N : Nat} {K : oK} {p1 : Int32} {p2 : Int32} {M : oM} {v : Int32} {M' : oM} (hK : oSR K)  (h : f_X1_add N K p1 p2 M = some (v, M')) : oMet X 1 J_X1_add [(.ref 40), (.int p1), (.int p2)] K M (some (.int v)) K M' := by
  unfold f_X1_add at h
  refine oMet_of (L := [some (.ref 40), some (.int p1), some (.int p2)]) jJ_X1_add.1 rfl (Nat.le_of_ble_eq_true rfl) rfl (Nat.le_refl _) (Nat.le_refl _) ?_
  have hd : 1 ≤ 1 := Nat.le_refl _
  refine oe_aload_n (pc := 0) d_X1_add_0 rfl ?_
  refine oe_getf (pc := 1) d_X1_add_1 fl_X1_21 ock1 (k := 3) (Nat.le_of_ble_eq_true rfl) rfl (oLt hK (a := 40) (Nat.le_of_ble_eq_true rfl)) (oSho hK (a := 40) (Nat.le_of_ble_eq_true rfl) rfl) ?_
  refine oe_bipush (pc := 4) (v := 9) d_X1_add_4 rfl ?_
  refine oe_icmp_lt (pc := 6) (tgt := 12) d_X1_add_6 (by decide) (fun c1 => ?_) (fun c1 => ?_)
  · replace h := (if_pos c1).symm.trans h
    refine oe_aload_n (pc := 12) d_X1_add_12 rfl ?_
    refine oe_getr (pc := 13) d_X1_add_13 fl_X1_11 ock1 (k := 0) (b := 41) (Nat.le_of_ble_eq_true rfl) (by decide) (oLt hK (a := 40) (Nat.le_of_ble_eq_true rfl)) (oSho hK (a := 40) (Nat.le_of_ble_eq_true rfl) rfl) (oRfK hK rfl) ?_
    refine oe_aload_n (pc := 16) d_X1_add_16 rfl ?_
    refine oe_getf (pc := 17) d_X1_add_17 fl_X1_21 ock1 (k := 3) (Nat.le_of_ble_eq_true rfl) rfl (oLt hK (a := 40) (Nat.le_of_ble_eq_true rfl)) (oSho hK (a := 40) (Nat.le_of_ble_eq_true rfl) rfl) ?_
    refine oe_iload_n (pc := 20) d_X1_add_20 rfl ?_
    obtain ⟨i2, h⟩ := oIx_some h
    refine oe_iast (pc := 21) d_X1_add_21 (oLt hK (a := 41) (Nat.le_of_ble_eq_true rfl)) (oSha hK (a := 41) (Nat.le_of_ble_eq_true rfl) rfl) i2 ?_
    refine oe_aload_n (pc := 22) d_X1_add_22 rfl ?_
    refine oe_getr (pc := 23) d_X1_add_23 fl_X1_15 ock1 (k := 1) (b := 42) (Nat.le_of_ble_eq_true rfl) (by decide) (oLt hK (a := 40) (Nat.le_of_ble_eq_true rfl)) (oSho hK (a := 40) (Nat.le_of_ble_eq_true rfl) rfl) (oRfK hK rfl) ?_
    refine oe_aload_n (pc := 26) d_X1_add_26 rfl ?_
    refine oe_getf (pc := 27) d_X1_add_27 fl_X1_21 ock1 (k := 3) (Nat.le_of_ble_eq_true rfl) rfl (oLt hK (a := 40) (Nat.le_of_ble_eq_true rfl)) (oSho hK (a := 40) (Nat.le_of_ble_eq_true rfl) rfl) ?_
    refine oe_iload_n (pc := 30) d_X1_add_30 rfl ?_
    obtain ⟨i3, h⟩ := oIx_some h
    refine oe_iast (pc := 31) d_X1_add_31 (oLt hK (a := 42) (Nat.le_of_ble_eq_true rfl)) (oSha hK (a := 42) (Nat.le_of_ble_eq_true rfl) rfl) i3 ?_
    refine oe_aload_n (pc := 32) d_X1_add_32 rfl ?_
    refine oe_dup (pc := 33) d_X1_add_33 rfl ?_
    refine oe_getf (pc := 34) d_X1_add_34 fl_X1_21 ock1 (k := 3) (Nat.le_of_ble_eq_true rfl) rfl (oLt hK (a := 40) (Nat.le_of_ble_eq_true rfl)) (oSho hK (a := 40) (Nat.le_of_ble_eq_true rfl) rfl) ?_
    refine oe_iconst (pc := 37) (v := 1) d_X1_add_37 rfl ?_
    refine oe_iadd (pc := 38) d_X1_add_38 ?_
    refine oe_putf (pc := 39) d_X1_add_39 fl_X1_21 ock1 (k := 3) (Nat.le_of_ble_eq_true rfl) rfl rfl (oLt hK (a := 40) (Nat.le_of_ble_eq_true rfl)) (oSho hK (a := 40) (Nat.le_of_ble_eq_true rfl) rfl) ?_
    refine oe_aload_n (pc := 42) d_X1_add_42 rfl ?_
    refine oe_getf (pc := 43) d_X1_add_43 fl_X1_21 ock1 (k := 3) (Nat.le_of_ble_eq_true rfl) rfl (oLt hK (a := 40) (Nat.le_of_ble_eq_true rfl)) (oSho hK (a := 40) (Nat.le_of_ble_eq_true rfl) rfl) ?_
    obtain ⟨rfl, rfl⟩ := oRes h
    exact oe_iret (pc := 46) d_X1_add_46 ⟨_, rfl, rfl⟩
  · replace h := (if_neg c1).symm.trans h
    refine oe_bipush (pc := 9) (v := (-3)) d_X1_add_9 rfl ?_
    obtain ⟨rfl, rfl⟩ := oRes h
    exact oe_iret (pc := 11) d_X1_add_11 ⟨_, rfl, rfl⟩
theorem d_X1_weighSet_0 : decode J_X1_weighSet.2.1 0 = .ok (.iconst 0, 1) := by decide +kernel
theorem d_X1_weighSet_1 : decode J_X1_weighSet.2.1 1 = .ok (.istore_n 3, 1) := by decide +kernel
theorem d_X1_weighSet_2 : decode J_X1_weighSet.2.1 2 = .ok (.iconst 0, 1) := by decide +kernel
theorem d_X1_weighSet_3 : decode J_X1_weighSet.2.1 3 = .ok (.istore 4, 2) := by decide +kernel
theorem d_X1_weighSet_5 : decode J_X1_weighSet.2.1 5 = .ok (.iconst 0, 1) := by decide +kernel
theorem d_X1_weighSet_6 : decode J_X1_weighSet.2.1 6 = .ok (.istore 5, 2) := by decide +kernel
theorem d_X1_weighSet_8 : decode J_X1_weighSet.2.1 8 = .ok (.iload 5, 2) := by decide +kernel
theorem d_X1_weighSet_10 : decode J_X1_weighSet.2.1 10 = .ok (.aload_n 0, 1) := by decide +kernel
theorem d_X1_weighSet_11 : decode J_X1_weighSet.2.1 11 = .ok (.getfield 21, 3) := by decide +kernel
theorem d_X1_weighSet_14 : decode J_X1_weighSet.2.1 14 = .ok (.if_icmp .ge 41, 3) := by decide +kernel
theorem d_X1_weighSet_17 : decode J_X1_weighSet.2.1 17 = .ok (.iload_n 1, 1) := by decide +kernel
theorem d_X1_weighSet_18 : decode J_X1_weighSet.2.1 18 = .ok (.iload 5, 2) := by decide +kernel
theorem d_X1_weighSet_20 : decode J_X1_weighSet.2.1 20 = .ok (.ishr, 1) := by decide +kernel
theorem d_X1_weighSet_21 : decode J_X1_weighSet.2.1 21 = .ok (.iconst 1, 1) := by decide +kernel
theorem d_X1_weighSet_22 : decode J_X1_weighSet.2.1 22 = .ok (.iand, 1) := by decide +kernel
theorem d_X1_weighSet_23 : decode J_X1_weighSet.2.1 23 = .ok (.iconst 1, 1) := by decide +kernel
theorem d_X1_weighSet_24 : decode J_X1_weighSet.2.1 24 = .ok (.if_icmp .ne 25, 3) := by decide +kernel
theorem d_X1_weighSet_27 : decode J_X1_weighSet.2.1 27 = .ok (.iload_n 3, 1) := by decide +kernel
theorem d_X1_weighSet_28 : decode J_X1_weighSet.2.1 28 = .ok (.aload_n 0, 1) := by decide +kernel
theorem d_X1_weighSet_29 : decode J_X1_weighSet.2.1 29 = .ok (.getfield 11, 3) := by decide +kernel
theorem d_X1_weighSet_32 : decode J_X1_weighSet.2.1 32 = .ok (.iload 5, 2) := by decide +kernel
theorem d_X1_weighSet_34 : decode J_X1_weighSet.2.1 34 = .ok (.iaload, 1) := by decide +kernel
theorem d_X1_weighSet_35 : decode J_X1_weighSet.2.1 35 = .ok (.iadd, 1) := by decide +kernel
theorem d_X1_weighSet_36 : decode J_X1_weighSet.2.1 36 = .ok (.istore_n 3, 1) := by decide +kernel
theorem d_X1_weighSet_37 : decode J_X1_weighSet.2.1 37 = .ok (.iload 4, 2) := by decide +kernel
theorem d_X1_weighSet_39 : decode J_X1_weighSet.2.1 39 = .ok (.aload_n 0, 1) := by decide +kernel
theorem d_X1_weighSet_40 : decode J_X1_weighSet.2.1 40 = .ok (.getfield 18, 3) := by decide +kernel
theorem d_X1_weighSet_43 : decode J_X1_weighSet.2.1 43 = .ok (.iload 5, 2) := by decide +kernel
theorem d_X1_weighSet_45 : decode J_X1_weighSet.2.1 45 = .ok (.iaload, 1) := by decide +kernel
theorem d_X1_weighSet_46 : decode J_X1_weighSet.2.1 46 = .ok (.iadd, 1) := by decide +kernel
theorem d_X1_weighSet_47 : decode J_X1_weighSet.2.1 47 = .ok (.istore 4, 2) := by decide +kernel
theorem d_X1_weighSet_49 : decode J_X1_weighSet.2.1 49 = .ok (.iinc 5 1, 3) := by decide +kernel
theorem d_X1_weighSet_52 : decode J_X1_weighSet.2.1 52 = .ok (.goto (-44), 3) := by decide +kernel
theorem d_X1_weighSet_55 : decode J_X1_weighSet.2.1 55 = .ok (.iload_n 3, 1) := by decide +kernel
theorem d_X1_weighSet_56 : decode J_X1_weighSet.2.1 56 = .ok (.iload_n 2, 1) := by decide +kernel
theorem d_X1_weighSet_57 : decode J_X1_weighSet.2.1 57 = .ok (.if_icmp .gt 45, 3) := by decide +kernel
theorem d_X1_weighSet_60 : decode J_X1_weighSet.2.1 60 = .ok (.iload 4, 2) := by decide +kernel
theorem d_X1_weighSet_62 : decode J_X1_weighSet.2.1 62 = .ok (.aload_n 0, 1) := by decide +kernel
theorem d_X1_weighSet_63 : decode J_X1_weighSet.2.1 63 = .ok (.getfield 25, 3) := by decide +kernel
theorem d_X1_weighSet_66 : decode J_X1_weighSet.2.1 66 = .ok (.if_icmp .gt 20, 3) := by decide +kernel
theorem d_X1_weighSet_69 : decode J_X1_weighSet.2.1 69 = .ok (.iload 4, 2) := by decide +kernel
theorem d_X1_weighSet_71 : decode J_X1_weighSet.2.1 71 = .ok (.aload_n 0, 1) := by decide +kernel
theorem d_X1_weighSet_72 : decode J_X1_weighSet.2.1 72 = .ok (.getfield 25, 3) := by decide +kernel
theorem d_X1_weighSet_75 : decode J_X1_weighSet.2.1 75 = .ok (.if_icmp .ne 27, 3) := by decide +kernel
theorem d_X1_weighSet_78 : decode J_X1_weighSet.2.1 78 = .ok (.iload_n 3, 1) := by decide +kernel
theorem d_X1_weighSet_79 : decode J_X1_weighSet.2.1 79 = .ok (.aload_n 0, 1) := by decide +kernel
theorem d_X1_weighSet_80 : decode J_X1_weighSet.2.1 80 = .ok (.getfield 31, 3) := by decide +kernel
theorem d_X1_weighSet_83 : decode J_X1_weighSet.2.1 83 = .ok (.if_icmp .ge 19, 3) := by decide +kernel
theorem d_X1_weighSet_86 : decode J_X1_weighSet.2.1 86 = .ok (.aload_n 0, 1) := by decide +kernel
theorem d_X1_weighSet_87 : decode J_X1_weighSet.2.1 87 = .ok (.iload 4, 2) := by decide +kernel
theorem d_X1_weighSet_89 : decode J_X1_weighSet.2.1 89 = .ok (.putfield 25, 3) := by decide +kernel
theorem d_X1_weighSet_92 : decode J_X1_weighSet.2.1 92 = .ok (.aload_n 0, 1) := by decide +kernel
theorem d_X1_weighSet_93 : decode J_X1_weighSet.2.1 93 = .ok (.iload_n 1, 1) := by decide +kernel
theorem d_X1_weighSet_94 : decode J_X1_weighSet.2.1 94 = .ok (.putfield 28, 3) := by decide +kernel
theorem d_X1_weighSet_97 : decode J_X1_weighSet.2.1 97 = .ok (.aload_n 0, 1) := by decide +kernel
theorem d_X1_weighSet_98 : decode J_X1_weighSet.2.1 98 = .ok (.iload_n 3, 1) := by decide +kernel
theorem d_X1_weighSet_99 : decode J_X1_weighSet.2.1 99 = .ok (.putfield 31, 3) := by decide +kernel
theorem d_X1_weighSet_102 : decode J_X1_weighSet.2.1 102 = .ok (.return_, 1) := by decide +kernel
def f_X1_weighSet_86 (N : Nat) (K : oK)  (p1 : Int32) (p3 : Int32) (p4 : Int32) (M : oM) : Option (Unit × oM) :=
  some ((), (oUp (oUp (oUp M 40 4 p4) 40 5 p1) 40 6 p3))
set_option maxRecDepth 20000 in
theorem v_X1_weighSet_86 {X : oX} {d N : Nat} {K : oK}  {p1 : Int32} {p3 : Int32} {p4 : Int32} {M : oM} {v : Unit} {M' : oM}  (hd : 1 ≤ d) (hK : oSR K)   (h : f_X1_weighSet_86 N K  p1 p3 p4 M = some (v, M')) : oEv X d J_X1_weighSet 86 [some (.ref 40), some (.int p1), none, some (.int p3), some (.int p4), none] [] K M none K M' := by
  unfold f_X1_weighSet_86 at h
  refine oe_aload_n (pc := 86) d_X1_weighSet_86 rfl ?_
  refine oe_iload (pc := 87) d_X1_weighSet_87 rfl ?_
  refine oe_putf (pc := 89) d_X1_weighSet_89 fl_X1_25 ock1 (k := 4) (Nat.le_of_ble_eq_true rfl) rfl rfl (oLt hK (a := 40) (Nat.le_of_ble_eq_true rfl)) (oSho hK (a := 40) (Nat.le_of_ble_eq_true rfl) rfl) ?_
  refine oe_aload_n (pc := 92) d_X1_weighSet_92 rfl ?_
  refine oe_iload_n (pc := 93) d_X1_weighSet_93 rfl ?_
  refine oe_putf (pc := 94) d_X1_weighSet_94 fl_X1_28 ock1 (k := 5) (Nat.le_of_ble_eq_true rfl) rfl rfl (oLt hK (a := 40) (Nat.le_of_ble_eq_true rfl)) (oSho hK (a := 40) (Nat.le_of_ble_eq_true rfl) rfl) ?_
  refine oe_aload_n (pc := 97) d_X1_weighSet_97 rfl ?_
  refine oe_iload_n (pc := 98) d_X1_weighSet_98 rfl ?_
  refine oe_putf (pc := 99) d_X1_weighSet_99 fl_X1_31 ock1 (k := 6) (Nat.le_of_ble_eq_true rfl) rfl rfl (oLt hK (a := 40) (Nat.le_of_ble_eq_true rfl)) (oSho hK (a := 40) (Nat.le_of_ble_eq_true rfl) rfl) ?_
  obtain ⟨rfl, rfl⟩ := oRes h
  exact oe_vret (pc := 102) d_X1_weighSet_102 rfl
def f_X1_weighSet_49 (N : Nat) (K : oK) (r8 : (Int32 → Int32 → Int32 → Int32 → Int32 → oM → Option (Unit × oM))) (p1 : Int32) (p2 : Int32) (p3 : Int32) (p4 : Int32) (p5 : Int32) (M : oM) : Option (Unit × oM) :=
  (r8 p1 p2 p3 p4 (p5 + 1) M)
set_option maxRecDepth 20000 in
theorem v_X1_weighSet_49 {X : oX} {d N : Nat} {K : oK} {r8 : (Int32 → Int32 → Int32 → Int32 → Int32 → oM → Option (Unit × oM))} {p1 : Int32} {p2 : Int32} {p3 : Int32} {p4 : Int32} {p5 : Int32} {M : oM} {v : Unit} {M' : oM}  (hd : 1 ≤ d) (hK : oSR K)  (hr8 : ∀ (p1 : Int32) (p2 : Int32) (p3 : Int32) (p4 : Int32) (p5 : Int32) (M : oM) (v : Unit) (M' : oM) , r8 p1 p2 p3 p4 p5 M = some (v, M') → oEv X d J_X1_weighSet 8 [some (.ref 40), some (.int p1), some (.int p2), some (.int p3), some (.int p4), some (.int p5)] [] K M none K M') (h : f_X1_weighSet_49 N K r8 p1 p2 p3 p4 p5 M = some (v, M')) : oEv X d J_X1_weighSet 49 [some (.ref 40), some (.int p1), some (.int p2), some (.int p3), some (.int p4), some (.int p5)] [] K M none K M' := by
  unfold f_X1_weighSet_49 at h
  refine oe_iinc (pc := 49) (v := (p5 + 1)) (L2 := [_, _, _, _, _, _]) d_X1_weighSet_49 rfl rfl rfl (Nat.le_of_ble_eq_true rfl) rfl ?_
  refine oe_goto (pc := 52) (tgt := 8) d_X1_weighSet_52 (by decide) ?_
  exact hr8 _ _ _ _ _ _ _ _ h
def f_X1_weighSet_8 (N : Nat) (K : oK)  : Nat → Int32 → Int32 → Int32 → Int32 → Int32 → oM → Option (Unit × oM)
  | 0, _, _, _, _, _, _ => none
  | n + 1, p1, p2, p3, p4, p5, M => (fun r8 => (if (M.1 40 3) ≤ p5 then (if p2 < p3 then some ((), M) else (if (M.1 40 4) < p4 then (f_X1_weighSet_86 N K  p1 p3 p4 M) else (if p4 = (M.1 40 4) then (if (M.1 40 6) ≤ p3 then some ((), M) else (f_X1_weighSet_86 N K  p1 p3 p4 M)) else some ((), M)))) else (if ((p1 >>> (p5 &&& 31)) &&& 1) = 1 then oIx (p5) 9 (oIx (p5) 9 ((f_X1_weighSet_49 N K r8 p1 p2 (p3 + (M.1 41 (p5 : Int32).toNatClampNeg)) (p4 + (M.1 43 (p5 : Int32).toNatClampNeg)) p5 M))) else (f_X1_weighSet_49 N K r8 p1 p2 p3 p4 p5 M)))) (f_X1_weighSet_8 N K  n)
set_option maxRecDepth 20000 in
theorem v_X1_weighSet_8_L {X : oX} {d N : Nat} {K : oK}  (hd : 1 ≤ d) (hK : oSR K)  : ∀ (n : Nat) (p1 : Int32) (p2 : Int32) (p3 : Int32) (p4 : Int32) (p5 : Int32) (M : oM) (v : Unit) (M' : oM)  , f_X1_weighSet_8 N K  n p1 p2 p3 p4 p5 M = some (v, M') → oEv X d J_X1_weighSet 8 [some (.ref 40), some (.int p1), some (.int p2), some (.int p3), some (.int p4), some (.int p5)] [] K M none K M' := by
  intro n
  induction n with
  | zero =>
    intro p1 p2 p3 p4 p5 M v M'   h
    cases h
  | succ n hr8 =>
    intro p1 p2 p3 p4 p5 M v M'   h
    refine oe_iload (pc := 8) d_X1_weighSet_8 rfl ?_
    refine oe_aload_n (pc := 10) d_X1_weighSet_10 rfl ?_
    refine oe_getf (pc := 11) d_X1_weighSet_11 fl_X1_21 ock1 (k := 3) (Nat.le_of_ble_eq_true rfl) rfl (oLt hK (a := 40) (Nat.le_of_ble_eq_true rfl)) (oSho hK (a := 40) (Nat.le_of_ble_eq_true rfl) rfl) ?_
    refine oe_icmp_ge (pc := 14) (tgt := 55) d_X1_weighSet_14 (by decide) (fun c1 => ?_) (fun c1 => ?_)
    · replace h := (if_pos c1).symm.trans h
      refine oe_iload_n (pc := 55) d_X1_weighSet_55 rfl ?_
      refine oe_iload_n (pc := 56) d_X1_weighSet_56 rfl ?_
      refine oe_icmp_gt (pc := 57) (tgt := 102) d_X1_weighSet_57 (by decide) (fun c2 => ?_) (fun c2 => ?_)
      · replace h := (if_pos c2).symm.trans h
        obtain ⟨rfl, rfl⟩ := oRes h
        exact oe_vret (pc := 102) d_X1_weighSet_102 rfl
      · replace h := (if_neg c2).symm.trans h
        refine oe_iload (pc := 60) d_X1_weighSet_60 rfl ?_
        refine oe_aload_n (pc := 62) d_X1_weighSet_62 rfl ?_
        refine oe_getf (pc := 63) d_X1_weighSet_63 fl_X1_25 ock1 (k := 4) (Nat.le_of_ble_eq_true rfl) rfl (oLt hK (a := 40) (Nat.le_of_ble_eq_true rfl)) (oSho hK (a := 40) (Nat.le_of_ble_eq_true rfl) rfl) ?_
        refine oe_icmp_gt (pc := 66) (tgt := 86) d_X1_weighSet_66 (by decide) (fun c3 => ?_) (fun c3 => ?_)
        · replace h := (if_pos c3).symm.trans h
          refine oEv.fg [true, true, false, true, true, false] ?_
          exact v_X1_weighSet_86 hd hK   h
        · replace h := (if_neg c3).symm.trans h
          refine oe_iload (pc := 69) d_X1_weighSet_69 rfl ?_
          refine oe_aload_n (pc := 71) d_X1_weighSet_71 rfl ?_
          refine oe_getf (pc := 72) d_X1_weighSet_72 fl_X1_25 ock1 (k := 4) (Nat.le_of_ble_eq_true rfl) rfl (oLt hK (a := 40) (Nat.le_of_ble_eq_true rfl)) (oSho hK (a := 40) (Nat.le_of_ble_eq_true rfl) rfl) ?_
          refine oe_icmp_ne (pc := 75) (tgt := 102) d_X1_weighSet_75 (by decide) (fun c4 => ?_) (fun c4 => ?_)
          · replace h := (if_neg c4).symm.trans h
            obtain ⟨rfl, rfl⟩ := oRes h
            exact oe_vret (pc := 102) d_X1_weighSet_102 rfl
          · replace h := (if_pos c4).symm.trans h
            refine oe_iload_n (pc := 78) d_X1_weighSet_78 rfl ?_
            refine oe_aload_n (pc := 79) d_X1_weighSet_79 rfl ?_
            refine oe_getf (pc := 80) d_X1_weighSet_80 fl_X1_31 ock1 (k := 6) (Nat.le_of_ble_eq_true rfl) rfl (oLt hK (a := 40) (Nat.le_of_ble_eq_true rfl)) (oSho hK (a := 40) (Nat.le_of_ble_eq_true rfl) rfl) ?_
            refine oe_icmp_ge (pc := 83) (tgt := 102) d_X1_weighSet_83 (by decide) (fun c5 => ?_) (fun c5 => ?_)
            · replace h := (if_pos c5).symm.trans h
              obtain ⟨rfl, rfl⟩ := oRes h
              exact oe_vret (pc := 102) d_X1_weighSet_102 rfl
            · replace h := (if_neg c5).symm.trans h
              refine oEv.fg [true, true, false, true, true, false] ?_
              exact v_X1_weighSet_86 hd hK   h
    · replace h := (if_neg c1).symm.trans h
      refine oe_iload_n (pc := 17) d_X1_weighSet_17 rfl ?_
      refine oe_iload (pc := 18) d_X1_weighSet_18 rfl ?_
      refine oe_ishr (pc := 20) d_X1_weighSet_20 ?_
      refine oe_iconst (pc := 21) (v := 1) d_X1_weighSet_21 rfl ?_
      refine oe_iand (pc := 22) d_X1_weighSet_22 ?_
      refine oe_iconst (pc := 23) (v := 1) d_X1_weighSet_23 rfl ?_
      refine oe_icmp_ne (pc := 24) (tgt := 49) d_X1_weighSet_24 (by decide) (fun c6 => ?_) (fun c6 => ?_)
      · replace h := (if_neg c6).symm.trans h
        exact v_X1_weighSet_49 hd hK  hr8 h
      · replace h := (if_pos c6).symm.trans h
        refine oe_iload_n (pc := 27) d_X1_weighSet_27 rfl ?_
        refine oe_aload_n (pc := 28) d_X1_weighSet_28 rfl ?_
        refine oe_getr (pc := 29) d_X1_weighSet_29 fl_X1_11 ock1 (k := 0) (b := 41) (Nat.le_of_ble_eq_true rfl) (by decide) (oLt hK (a := 40) (Nat.le_of_ble_eq_true rfl)) (oSho hK (a := 40) (Nat.le_of_ble_eq_true rfl) rfl) (oRfK hK rfl) ?_
        refine oe_iload (pc := 32) d_X1_weighSet_32 rfl ?_
        obtain ⟨i7, h⟩ := oIx_some h
        refine oe_iald (pc := 34) d_X1_weighSet_34 (oLt hK (a := 41) (Nat.le_of_ble_eq_true rfl)) (oSha hK (a := 41) (Nat.le_of_ble_eq_true rfl) rfl) i7 ?_
        refine oe_iadd (pc := 35) d_X1_weighSet_35 ?_
        refine oe_istore_n (pc := 36) (L2 := [_, _, _, _, _, _]) d_X1_weighSet_36 rfl rfl (Nat.le_of_ble_eq_true rfl) rfl ?_
        refine oe_iload (pc := 37) d_X1_weighSet_37 rfl ?_
        refine oe_aload_n (pc := 39) d_X1_weighSet_39 rfl ?_
        refine oe_getr (pc := 40) d_X1_weighSet_40 fl_X1_18 ock1 (k := 2) (b := 43) (Nat.le_of_ble_eq_true rfl) (by decide) (oLt hK (a := 40) (Nat.le_of_ble_eq_true rfl)) (oSho hK (a := 40) (Nat.le_of_ble_eq_true rfl) rfl) (oRfK hK rfl) ?_
        refine oe_iload (pc := 43) d_X1_weighSet_43 rfl ?_
        obtain ⟨i8, h⟩ := oIx_some h
        refine oe_iald (pc := 45) d_X1_weighSet_45 (oLt hK (a := 43) (Nat.le_of_ble_eq_true rfl)) (oSha hK (a := 43) (Nat.le_of_ble_eq_true rfl) rfl) i8 ?_
        refine oe_iadd (pc := 46) d_X1_weighSet_46 ?_
        refine oe_istore (pc := 47) (L2 := [_, _, _, _, _, _]) d_X1_weighSet_47 rfl (Nat.le_of_ble_eq_true rfl) rfl ?_
        exact v_X1_weighSet_49 hd hK  hr8 h
theorem v_X1_weighSet_8 {X : oX} {d N : Nat} {K : oK}  {p1 : Int32} {p2 : Int32} {p3 : Int32} {p4 : Int32} {p5 : Int32} {M : oM} {v : Unit} {M' : oM}  (hd : 1 ≤ d) (hK : oSR K)   (h : f_X1_weighSet_8 N K  N p1 p2 p3 p4 p5 M = some (v, M')) : oEv X d J_X1_weighSet 8 [some (.ref 40), some (.int p1), some (.int p2), some (.int p3), some (.int p4), some (.int p5)] [] K M none K M' := v_X1_weighSet_8_L hd hK  N p1 p2 p3 p4 p5 M v M'   h
def f_X1_weighSet (N : Nat) (K : oK) (p1 : Int32) (p2 : Int32) (M : oM) : Option (Unit × oM) :=
  (f_X1_weighSet_8 N K  N p1 p2 0 0 0 M)
set_option maxRecDepth 20000 in
theorem v_X1_weighSet {X : oX} {N : Nat} {K : oK} {p1 : Int32} {p2 : Int32} {M : oM} {v : Unit} {M' : oM} (hK : oSR K)  (h : f_X1_weighSet N K p1 p2 M = some (v, M')) : oMet X 1 J_X1_weighSet [(.ref 40), (.int p1), (.int p2)] K M none K M' := by
  unfold f_X1_weighSet at h
  refine oMet_of (L := [some (.ref 40), some (.int p1), some (.int p2), none, none, none]) jJ_X1_weighSet.1 rfl (Nat.le_of_ble_eq_true rfl) rfl (Nat.le_refl _) (Nat.le_refl _) ?_
  have hd : 1 ≤ 1 := Nat.le_refl _
  refine oe_iconst (pc := 0) (v := 0) d_X1_weighSet_0 rfl ?_
  refine oe_istore_n (pc := 1) (L2 := [_, _, _, _, _, _]) d_X1_weighSet_1 rfl rfl (Nat.le_of_ble_eq_true rfl) rfl ?_
  refine oe_iconst (pc := 2) (v := 0) d_X1_weighSet_2 rfl ?_
  refine oe_istore (pc := 3) (L2 := [_, _, _, _, _, _]) d_X1_weighSet_3 rfl (Nat.le_of_ble_eq_true rfl) rfl ?_
  refine oe_iconst (pc := 5) (v := 0) d_X1_weighSet_5 rfl ?_
  refine oe_istore (pc := 6) (L2 := [_, _, _, _, _, _]) d_X1_weighSet_6 rfl (Nat.le_of_ble_eq_true rfl) rfl ?_
  exact v_X1_weighSet_8 hd hK   h
theorem d_X1_pack_0 : decode J_X1_pack.2.1 0 = .ok (.iconst 0, 1) := by decide +kernel
theorem d_X1_pack_1 : decode J_X1_pack.2.1 1 = .ok (.istore_n 3, 1) := by decide +kernel
theorem d_X1_pack_2 : decode J_X1_pack.2.1 2 = .ok (.iload_n 3, 1) := by decide +kernel
theorem d_X1_pack_3 : decode J_X1_pack.2.1 3 = .ok (.aload_n 0, 1) := by decide +kernel
theorem d_X1_pack_4 : decode J_X1_pack.2.1 4 = .ok (.getfield 21, 3) := by decide +kernel
theorem d_X1_pack_7 : decode J_X1_pack.2.1 7 = .ok (.if_icmp .ge 67, 3) := by decide +kernel
theorem d_X1_pack_10 : decode J_X1_pack.2.1 10 = .ok (.aload_n 0, 1) := by decide +kernel
theorem d_X1_pack_11 : decode J_X1_pack.2.1 11 = .ok (.getfield 18, 3) := by decide +kernel
theorem d_X1_pack_14 : decode J_X1_pack.2.1 14 = .ok (.iload_n 3, 1) := by decide +kernel
theorem d_X1_pack_15 : decode J_X1_pack.2.1 15 = .ok (.iload_n 2, 1) := by decide +kernel
theorem d_X1_pack_16 : decode J_X1_pack.2.1 16 = .ok (.sipush 10201, 3) := by decide +kernel
theorem d_X1_pack_19 : decode J_X1_pack.2.1 19 = .ok (.idiv, 1) := by decide +kernel
theorem d_X1_pack_20 : decode J_X1_pack.2.1 20 = .ok (.aload_n 0, 1) := by decide +kernel
theorem d_X1_pack_21 : decode J_X1_pack.2.1 21 = .ok (.getfield 15, 3) := by decide +kernel
theorem d_X1_pack_24 : decode J_X1_pack.2.1 24 = .ok (.iload_n 3, 1) := by decide +kernel
theorem d_X1_pack_25 : decode J_X1_pack.2.1 25 = .ok (.iaload, 1) := by decide +kernel
theorem d_X1_pack_26 : decode J_X1_pack.2.1 26 = .ok (.sipush 10000, 3) := by decide +kernel
theorem d_X1_pack_29 : decode J_X1_pack.2.1 29 = .ok (.idiv, 1) := by decide +kernel
theorem d_X1_pack_30 : decode J_X1_pack.2.1 30 = .ok (.imul, 1) := by decide +kernel
theorem d_X1_pack_31 : decode J_X1_pack.2.1 31 = .ok (.iload_n 2, 1) := by decide +kernel
theorem d_X1_pack_32 : decode J_X1_pack.2.1 32 = .ok (.bipush 101, 2) := by decide +kernel
theorem d_X1_pack_34 : decode J_X1_pack.2.1 34 = .ok (.idiv, 1) := by decide +kernel
theorem d_X1_pack_35 : decode J_X1_pack.2.1 35 = .ok (.bipush 101, 2) := by decide +kernel
theorem d_X1_pack_37 : decode J_X1_pack.2.1 37 = .ok (.irem, 1) := by decide +kernel
theorem d_X1_pack_38 : decode J_X1_pack.2.1 38 = .ok (.aload_n 0, 1) := by decide +kernel
theorem d_X1_pack_39 : decode J_X1_pack.2.1 39 = .ok (.getfield 15, 3) := by decide +kernel
theorem d_X1_pack_42 : decode J_X1_pack.2.1 42 = .ok (.iload_n 3, 1) := by decide +kernel
theorem d_X1_pack_43 : decode J_X1_pack.2.1 43 = .ok (.iaload, 1) := by decide +kernel
theorem d_X1_pack_44 : decode J_X1_pack.2.1 44 = .ok (.bipush 100, 2) := by decide +kernel
theorem d_X1_pack_46 : decode J_X1_pack.2.1 46 = .ok (.idiv, 1) := by decide +kernel
theorem d_X1_pack_47 : decode J_X1_pack.2.1 47 = .ok (.bipush 100, 2) := by decide +kernel
theorem d_X1_pack_49 : decode J_X1_pack.2.1 49 = .ok (.irem, 1) := by decide +kernel
theorem d_X1_pack_50 : decode J_X1_pack.2.1 50 = .ok (.imul, 1) := by decide +kernel
theorem d_X1_pack_51 : decode J_X1_pack.2.1 51 = .ok (.iadd, 1) := by decide +kernel
theorem d_X1_pack_52 : decode J_X1_pack.2.1 52 = .ok (.iload_n 2, 1) := by decide +kernel
theorem d_X1_pack_53 : decode J_X1_pack.2.1 53 = .ok (.bipush 101, 2) := by decide +kernel
theorem d_X1_pack_55 : decode J_X1_pack.2.1 55 = .ok (.irem, 1) := by decide +kernel
theorem d_X1_pack_56 : decode J_X1_pack.2.1 56 = .ok (.aload_n 0, 1) := by decide +kernel
theorem d_X1_pack_57 : decode J_X1_pack.2.1 57 = .ok (.getfield 15, 3) := by decide +kernel
theorem d_X1_pack_60 : decode J_X1_pack.2.1 60 = .ok (.iload_n 3, 1) := by decide +kernel
theorem d_X1_pack_61 : decode J_X1_pack.2.1 61 = .ok (.iaload, 1) := by decide +kernel
theorem d_X1_pack_62 : decode J_X1_pack.2.1 62 = .ok (.bipush 100, 2) := by decide +kernel
theorem d_X1_pack_64 : decode J_X1_pack.2.1 64 = .ok (.irem, 1) := by decide +kernel
theorem d_X1_pack_65 : decode J_X1_pack.2.1 65 = .ok (.imul, 1) := by decide +kernel
theorem d_X1_pack_66 : decode J_X1_pack.2.1 66 = .ok (.iadd, 1) := by decide +kernel
theorem d_X1_pack_67 : decode J_X1_pack.2.1 67 = .ok (.iastore, 1) := by decide +kernel
theorem d_X1_pack_68 : decode J_X1_pack.2.1 68 = .ok (.iinc 3 1, 3) := by decide +kernel
theorem d_X1_pack_71 : decode J_X1_pack.2.1 71 = .ok (.goto (-69), 3) := by decide +kernel
theorem d_X1_pack_74 : decode J_X1_pack.2.1 74 = .ok (.aload_n 0, 1) := by decide +kernel
theorem d_X1_pack_75 : decode J_X1_pack.2.1 75 = .ok (.iconst 0, 1) := by decide +kernel
theorem d_X1_pack_76 : decode J_X1_pack.2.1 76 = .ok (.putfield 25, 3) := by decide +kernel
theorem d_X1_pack_79 : decode J_X1_pack.2.1 79 = .ok (.aload_n 0, 1) := by decide +kernel
theorem d_X1_pack_80 : decode J_X1_pack.2.1 80 = .ok (.iconst 0, 1) := by decide +kernel
theorem d_X1_pack_81 : decode J_X1_pack.2.1 81 = .ok (.putfield 28, 3) := by decide +kernel
theorem d_X1_pack_84 : decode J_X1_pack.2.1 84 = .ok (.aload_n 0, 1) := by decide +kernel
theorem d_X1_pack_85 : decode J_X1_pack.2.1 85 = .ok (.iconst 0, 1) := by decide +kernel
theorem d_X1_pack_86 : decode J_X1_pack.2.1 86 = .ok (.putfield 31, 3) := by decide +kernel
theorem d_X1_pack_89 : decode J_X1_pack.2.1 89 = .ok (.iconst 1, 1) := by decide +kernel
theorem d_X1_pack_90 : decode J_X1_pack.2.1 90 = .ok (.istore_n 3, 1) := by decide +kernel
theorem d_X1_pack_91 : decode J_X1_pack.2.1 91 = .ok (.iload_n 3, 1) := by decide +kernel
theorem d_X1_pack_92 : decode J_X1_pack.2.1 92 = .ok (.iconst 1, 1) := by decide +kernel
theorem d_X1_pack_93 : decode J_X1_pack.2.1 93 = .ok (.aload_n 0, 1) := by decide +kernel
theorem d_X1_pack_94 : decode J_X1_pack.2.1 94 = .ok (.getfield 21, 3) := by decide +kernel
theorem d_X1_pack_97 : decode J_X1_pack.2.1 97 = .ok (.ishl, 1) := by decide +kernel
theorem d_X1_pack_98 : decode J_X1_pack.2.1 98 = .ok (.if_icmp .ge 15, 3) := by decide +kernel
theorem d_X1_pack_101 : decode J_X1_pack.2.1 101 = .ok (.aload_n 0, 1) := by decide +kernel
theorem d_X1_pack_102 : decode J_X1_pack.2.1 102 = .ok (.iload_n 3, 1) := by decide +kernel
theorem d_X1_pack_103 : decode J_X1_pack.2.1 103 = .ok (.iload_n 1, 1) := by decide +kernel
theorem d_X1_pack_104 : decode J_X1_pack.2.1 104 = .ok (.invokevirtual 34, 3) := by decide +kernel
theorem d_X1_pack_107 : decode J_X1_pack.2.1 107 = .ok (.iinc 3 1, 3) := by decide +kernel
theorem d_X1_pack_110 : decode J_X1_pack.2.1 110 = .ok (.goto (-19), 3) := by decide +kernel
theorem d_X1_pack_113 : decode J_X1_pack.2.1 113 = .ok (.return_, 1) := by decide +kernel
def f_X1_pack_91 (N : Nat) (K : oK)  : Nat → Int32 → Int32 → oM → Option (Unit × oM)
  | 0, _, _, _ => none
  | n + 1, p1, p3, M => (fun r91 => (if ((1 : Int32) <<< ((M.1 40 3) &&& 31)) ≤ p3 then some ((), M) else oB2 (f_X1_weighSet N K p3 p1 M) (fun v3 M4 => (r91 p1 (p3 + 1) M4)))) (f_X1_pack_91 N K  n)
set_option maxRecDepth 20000 in
theorem v_X1_pack_91_L {X : oX} {d N : Nat} {K : oK}  (hd : 2 ≤ d) (hK : oSR K)  : ∀ (n : Nat) (p1 : Int32) (p3 : Int32) (M : oM) (v : Unit) (M' : oM)  , f_X1_pack_91 N K  n p1 p3 M = some (v, M') → oEv X d J_X1_pack 91 [some (.ref 40), some (.int p1), none, some (.int p3)] [] K M none K M' := by
  intro n
  induction n with
  | zero =>
    intro p1 p3 M v M'   h
    cases h
  | succ n hr91 =>
    intro p1 p3 M v M'   h
    refine oe_iload_n (pc := 91) d_X1_pack_91 rfl ?_
    refine oe_iconst (pc := 92) (v := 1) d_X1_pack_92 rfl ?_
    refine oe_aload_n (pc := 93) d_X1_pack_93 rfl ?_
    refine oe_getf (pc := 94) d_X1_pack_94 fl_X1_21 ock1 (k := 3) (Nat.le_of_ble_eq_true rfl) rfl (oLt hK (a := 40) (Nat.le_of_ble_eq_true rfl)) (oSho hK (a := 40) (Nat.le_of_ble_eq_true rfl) rfl) ?_
    refine oe_ishl (pc := 97) d_X1_pack_97 ?_
    refine oe_icmp_ge (pc := 98) (tgt := 113) d_X1_pack_98 (by decide) (fun c2 => ?_) (fun c2 => ?_)
    · replace h := (if_pos c2).symm.trans h
      obtain ⟨rfl, rfl⟩ := oRes h
      exact oe_vret (pc := 113) d_X1_pack_113 rfl
    · replace h := (if_neg c2).symm.trans h
      refine oe_aload_n (pc := 101) d_X1_pack_101 rfl ?_
      refine oe_iload_n (pc := 102) d_X1_pack_102 rfl ?_
      refine oe_iload_n (pc := 103) d_X1_pack_103 rfl ?_
      obtain ⟨v3, M4, q5, h⟩ := oB2_some h
      refine oe_callV (pc := 104) (ci := 1) d_X1_pack_104 (v_X1_weighSet hK  q5) (by omega) ml_X1_34 jJ_X1_weighSet rfl rfl (oLt hK (a := 40) (Nat.le_of_ble_eq_true rfl)) (oSho hK (a := 40) (Nat.le_of_ble_eq_true rfl) rfl) ock1 rfl (Nat.le_of_ble_eq_true rfl) ⟨Nat.le_refl _, Nat.le_refl _⟩ ⟨Nat.le_refl _, Nat.le_refl _⟩ ?_
      refine oe_iinc (pc := 107) (v := (p3 + 1)) (L2 := [_, _, _, _]) d_X1_pack_107 rfl rfl rfl (Nat.le_of_ble_eq_true rfl) rfl ?_
      refine oe_goto (pc := 110) (tgt := 91) d_X1_pack_110 (by decide) ?_
      exact hr91 _ _ _ _ _ h
theorem v_X1_pack_91 {X : oX} {d N : Nat} {K : oK}  {p1 : Int32} {p3 : Int32} {M : oM} {v : Unit} {M' : oM}  (hd : 2 ≤ d) (hK : oSR K)   (h : f_X1_pack_91 N K  N p1 p3 M = some (v, M')) : oEv X d J_X1_pack 91 [some (.ref 40), some (.int p1), none, some (.int p3)] [] K M none K M' := v_X1_pack_91_L hd hK  N p1 p3 M v M'   h
def f_X1_pack_2 (N : Nat) (K : oK)  : Nat → Int32 → Int32 → Int32 → oM → Option (Unit × oM)
  | 0, _, _, _, _ => none
  | n + 1, p1, p2, p3, M => (fun r2 => (if (M.1 40 3) ≤ p3 then (f_X1_pack_91 N K  N p1 1 (oUp (oUp (oUp M 40 4 (0 : Int32)) 40 5 (0 : Int32)) 40 6 (0 : Int32))) else oIx (p3) 9 (oIx (p3) 9 (oIx (p3) 9 (oIx (p3) 9 ((r2 p1 p2 (p3 + 1) (oUp M 43 (p3 : Int32).toNatClampNeg ((((p2 / 10201) * ((M.1 42 (p3 : Int32).toNatClampNeg) / 10000)) + (((p2 / 101) - (p2 / 101) / 101 * 101) * (((M.1 42 (p3 : Int32).toNatClampNeg) / 100) - ((M.1 42 (p3 : Int32).toNatClampNeg) / 100) / 100 * 100))) + ((p2 - p2 / 101 * 101) * ((M.1 42 (p3 : Int32).toNatClampNeg) - (M.1 42 (p3 : Int32).toNatClampNeg) / 100 * 100))))))))))) (f_X1_pack_2 N K  n)
set_option maxRecDepth 20000 in
theorem v_X1_pack_2_L {X : oX} {d N : Nat} {K : oK}  (hd : 2 ≤ d) (hK : oSR K)  : ∀ (n : Nat) (p1 : Int32) (p2 : Int32) (p3 : Int32) (M : oM) (v : Unit) (M' : oM)  , f_X1_pack_2 N K  n p1 p2 p3 M = some (v, M') → oEv X d J_X1_pack 2 [some (.ref 40), some (.int p1), some (.int p2), some (.int p3)] [] K M none K M' := by
  intro n
  induction n with
  | zero =>
    intro p1 p2 p3 M v M'   h
    cases h
  | succ n hr2 =>
    intro p1 p2 p3 M v M'   h
    refine oe_iload_n (pc := 2) d_X1_pack_2 rfl ?_
    refine oe_aload_n (pc := 3) d_X1_pack_3 rfl ?_
    refine oe_getf (pc := 4) d_X1_pack_4 fl_X1_21 ock1 (k := 3) (Nat.le_of_ble_eq_true rfl) rfl (oLt hK (a := 40) (Nat.le_of_ble_eq_true rfl)) (oSho hK (a := 40) (Nat.le_of_ble_eq_true rfl) rfl) ?_
    refine oe_icmp_ge (pc := 7) (tgt := 74) d_X1_pack_7 (by decide) (fun c1 => ?_) (fun c1 => ?_)
    · replace h := (if_pos c1).symm.trans h
      refine oe_aload_n (pc := 74) d_X1_pack_74 rfl ?_
      refine oe_iconst (pc := 75) (v := 0) d_X1_pack_75 rfl ?_
      refine oe_putf (pc := 76) d_X1_pack_76 fl_X1_25 ock1 (k := 4) (Nat.le_of_ble_eq_true rfl) rfl rfl (oLt hK (a := 40) (Nat.le_of_ble_eq_true rfl)) (oSho hK (a := 40) (Nat.le_of_ble_eq_true rfl) rfl) ?_
      refine oe_aload_n (pc := 79) d_X1_pack_79 rfl ?_
      refine oe_iconst (pc := 80) (v := 0) d_X1_pack_80 rfl ?_
      refine oe_putf (pc := 81) d_X1_pack_81 fl_X1_28 ock1 (k := 5) (Nat.le_of_ble_eq_true rfl) rfl rfl (oLt hK (a := 40) (Nat.le_of_ble_eq_true rfl)) (oSho hK (a := 40) (Nat.le_of_ble_eq_true rfl) rfl) ?_
      refine oe_aload_n (pc := 84) d_X1_pack_84 rfl ?_
      refine oe_iconst (pc := 85) (v := 0) d_X1_pack_85 rfl ?_
      refine oe_putf (pc := 86) d_X1_pack_86 fl_X1_31 ock1 (k := 6) (Nat.le_of_ble_eq_true rfl) rfl rfl (oLt hK (a := 40) (Nat.le_of_ble_eq_true rfl)) (oSho hK (a := 40) (Nat.le_of_ble_eq_true rfl) rfl) ?_
      refine oe_iconst (pc := 89) (v := 1) d_X1_pack_89 rfl ?_
      refine oe_istore_n (pc := 90) (L2 := [_, _, _, _]) d_X1_pack_90 rfl rfl (Nat.le_of_ble_eq_true rfl) rfl ?_
      refine oEv.fg [true, true, false, true] ?_
      exact v_X1_pack_91 hd hK   h
    · replace h := (if_neg c1).symm.trans h
      refine oe_aload_n (pc := 10) d_X1_pack_10 rfl ?_
      refine oe_getr (pc := 11) d_X1_pack_11 fl_X1_18 ock1 (k := 2) (b := 43) (Nat.le_of_ble_eq_true rfl) (by decide) (oLt hK (a := 40) (Nat.le_of_ble_eq_true rfl)) (oSho hK (a := 40) (Nat.le_of_ble_eq_true rfl) rfl) (oRfK hK rfl) ?_
      refine oe_iload_n (pc := 14) d_X1_pack_14 rfl ?_
      refine oe_iload_n (pc := 15) d_X1_pack_15 rfl ?_
      refine oe_sipush (pc := 16) (v := 10201) d_X1_pack_16 rfl ?_
      refine oe_idiv (pc := 19) d_X1_pack_19 (by decide) ?_
      refine oe_aload_n (pc := 20) d_X1_pack_20 rfl ?_
      refine oe_getr (pc := 21) d_X1_pack_21 fl_X1_15 ock1 (k := 1) (b := 42) (Nat.le_of_ble_eq_true rfl) (by decide) (oLt hK (a := 40) (Nat.le_of_ble_eq_true rfl)) (oSho hK (a := 40) (Nat.le_of_ble_eq_true rfl) rfl) (oRfK hK rfl) ?_
      refine oe_iload_n (pc := 24) d_X1_pack_24 rfl ?_
      obtain ⟨i6, h⟩ := oIx_some h
      refine oe_iald (pc := 25) d_X1_pack_25 (oLt hK (a := 42) (Nat.le_of_ble_eq_true rfl)) (oSha hK (a := 42) (Nat.le_of_ble_eq_true rfl) rfl) i6 ?_
      refine oe_sipush (pc := 26) (v := 10000) d_X1_pack_26 rfl ?_
      refine oe_idiv (pc := 29) d_X1_pack_29 (by decide) ?_
      refine oe_imul (pc := 30) d_X1_pack_30 ?_
      refine oe_iload_n (pc := 31) d_X1_pack_31 rfl ?_
      refine oe_bipush (pc := 32) (v := 101) d_X1_pack_32 rfl ?_
      refine oe_idiv (pc := 34) d_X1_pack_34 (by decide) ?_
      refine oe_bipush (pc := 35) (v := 101) d_X1_pack_35 rfl ?_
      refine oe_irem (pc := 37) d_X1_pack_37 (by decide) ?_
      refine oe_aload_n (pc := 38) d_X1_pack_38 rfl ?_
      refine oe_getr (pc := 39) d_X1_pack_39 fl_X1_15 ock1 (k := 1) (b := 42) (Nat.le_of_ble_eq_true rfl) (by decide) (oLt hK (a := 40) (Nat.le_of_ble_eq_true rfl)) (oSho hK (a := 40) (Nat.le_of_ble_eq_true rfl) rfl) (oRfK hK rfl) ?_
      refine oe_iload_n (pc := 42) d_X1_pack_42 rfl ?_
      obtain ⟨i7, h⟩ := oIx_some h
      refine oe_iald (pc := 43) d_X1_pack_43 (oLt hK (a := 42) (Nat.le_of_ble_eq_true rfl)) (oSha hK (a := 42) (Nat.le_of_ble_eq_true rfl) rfl) i7 ?_
      refine oe_bipush (pc := 44) (v := 100) d_X1_pack_44 rfl ?_
      refine oe_idiv (pc := 46) d_X1_pack_46 (by decide) ?_
      refine oe_bipush (pc := 47) (v := 100) d_X1_pack_47 rfl ?_
      refine oe_irem (pc := 49) d_X1_pack_49 (by decide) ?_
      refine oe_imul (pc := 50) d_X1_pack_50 ?_
      refine oe_iadd (pc := 51) d_X1_pack_51 ?_
      refine oe_iload_n (pc := 52) d_X1_pack_52 rfl ?_
      refine oe_bipush (pc := 53) (v := 101) d_X1_pack_53 rfl ?_
      refine oe_irem (pc := 55) d_X1_pack_55 (by decide) ?_
      refine oe_aload_n (pc := 56) d_X1_pack_56 rfl ?_
      refine oe_getr (pc := 57) d_X1_pack_57 fl_X1_15 ock1 (k := 1) (b := 42) (Nat.le_of_ble_eq_true rfl) (by decide) (oLt hK (a := 40) (Nat.le_of_ble_eq_true rfl)) (oSho hK (a := 40) (Nat.le_of_ble_eq_true rfl) rfl) (oRfK hK rfl) ?_
      refine oe_iload_n (pc := 60) d_X1_pack_60 rfl ?_
      obtain ⟨i8, h⟩ := oIx_some h
      refine oe_iald (pc := 61) d_X1_pack_61 (oLt hK (a := 42) (Nat.le_of_ble_eq_true rfl)) (oSha hK (a := 42) (Nat.le_of_ble_eq_true rfl) rfl) i8 ?_
      refine oe_bipush (pc := 62) (v := 100) d_X1_pack_62 rfl ?_
      refine oe_irem (pc := 64) d_X1_pack_64 (by decide) ?_
      refine oe_imul (pc := 65) d_X1_pack_65 ?_
      refine oe_iadd (pc := 66) d_X1_pack_66 ?_
      obtain ⟨i9, h⟩ := oIx_some h
      refine oe_iast (pc := 67) d_X1_pack_67 (oLt hK (a := 43) (Nat.le_of_ble_eq_true rfl)) (oSha hK (a := 43) (Nat.le_of_ble_eq_true rfl) rfl) i9 ?_
      refine oe_iinc (pc := 68) (v := (p3 + 1)) (L2 := [_, _, _, _]) d_X1_pack_68 rfl rfl rfl (Nat.le_of_ble_eq_true rfl) rfl ?_
      refine oe_goto (pc := 71) (tgt := 2) d_X1_pack_71 (by decide) ?_
      exact hr2 _ _ _ _ _ _ h
theorem v_X1_pack_2 {X : oX} {d N : Nat} {K : oK}  {p1 : Int32} {p2 : Int32} {p3 : Int32} {M : oM} {v : Unit} {M' : oM}  (hd : 2 ≤ d) (hK : oSR K)   (h : f_X1_pack_2 N K  N p1 p2 p3 M = some (v, M')) : oEv X d J_X1_pack 2 [some (.ref 40), some (.int p1), some (.int p2), some (.int p3)] [] K M none K M' := v_X1_pack_2_L hd hK  N p1 p2 p3 M v M'   h
def f_X1_pack (N : Nat) (K : oK) (p1 : Int32) (p2 : Int32) (M : oM) : Option (Unit × oM) :=
  (f_X1_pack_2 N K  N p1 p2 0 M)
set_option maxRecDepth 20000 in
theorem v_X1_pack {X : oX} {N : Nat} {K : oK} {p1 : Int32} {p2 : Int32} {M : oM} {v : Unit} {M' : oM} (hK : oSR K)  (h : f_X1_pack N K p1 p2 M = some (v, M')) : oMet X 2 J_X1_pack [(.ref 40), (.int p1), (.int p2)] K M none K M' := by
  unfold f_X1_pack at h
  refine oMet_of (L := [some (.ref 40), some (.int p1), some (.int p2), none]) jJ_X1_pack.1 rfl (Nat.le_of_ble_eq_true rfl) rfl (Nat.le_refl _) (Nat.le_refl _) ?_
  have hd : 2 ≤ 2 := Nat.le_refl _
  refine oe_iconst (pc := 0) (v := 0) d_X1_pack_0 rfl ?_
  refine oe_istore_n (pc := 1) (L2 := [_, _, _, _]) d_X1_pack_1 rfl rfl (Nat.le_of_ble_eq_true rfl) rfl ?_
  exact v_X1_pack_2 hd hK   h
theorem d_X6_lastEngine_0 : decode J_X6_lastEngine.2.1 0 = .ok (.aload_n 0, 1) := by decide +kernel
theorem d_X6_lastEngine_1 : decode J_X6_lastEngine.2.1 1 = .ok (.getfield 34, 3) := by decide +kernel
theorem d_X6_lastEngine_4 : decode J_X6_lastEngine.2.1 4 = .ok (.iconst 1, 1) := by decide +kernel
theorem d_X6_lastEngine_5 : decode J_X6_lastEngine.2.1 5 = .ok (.isub, 1) := by decide +kernel
theorem d_X6_lastEngine_6 : decode J_X6_lastEngine.2.1 6 = .ok (.istore_n 2, 1) := by decide +kernel
theorem d_X6_lastEngine_7 : decode J_X6_lastEngine.2.1 7 = .ok (.iload_n 2, 1) := by decide +kernel
theorem d_X6_lastEngine_8 : decode J_X6_lastEngine.2.1 8 = .ok (.ifCond .lt 25, 3) := by decide +kernel
theorem d_X6_lastEngine_11 : decode J_X6_lastEngine.2.1 11 = .ok (.aload_n 0, 1) := by decide +kernel
theorem d_X6_lastEngine_12 : decode J_X6_lastEngine.2.1 12 = .ok (.getfield 9, 3) := by decide +kernel
theorem d_X6_lastEngine_15 : decode J_X6_lastEngine.2.1 15 = .ok (.iload_n 2, 1) := by decide +kernel
theorem d_X6_lastEngine_16 : decode J_X6_lastEngine.2.1 16 = .ok (.iaload, 1) := by decide +kernel
theorem d_X6_lastEngine_17 : decode J_X6_lastEngine.2.1 17 = .ok (.ifCond .ne 10, 3) := by decide +kernel
theorem d_X6_lastEngine_20 : decode J_X6_lastEngine.2.1 20 = .ok (.iload_n 2, 1) := by decide +kernel
theorem d_X6_lastEngine_21 : decode J_X6_lastEngine.2.1 21 = .ok (.iload_n 1, 1) := by decide +kernel
theorem d_X6_lastEngine_22 : decode J_X6_lastEngine.2.1 22 = .ok (.if_icmp .eq 5, 3) := by decide +kernel
theorem d_X6_lastEngine_25 : decode J_X6_lastEngine.2.1 25 = .ok (.iload_n 2, 1) := by decide +kernel
theorem d_X6_lastEngine_26 : decode J_X6_lastEngine.2.1 26 = .ok (.ireturn, 1) := by decide +kernel
theorem d_X6_lastEngine_27 : decode J_X6_lastEngine.2.1 27 = .ok (.iinc 2 (-1), 3) := by decide +kernel
theorem d_X6_lastEngine_30 : decode J_X6_lastEngine.2.1 30 = .ok (.goto (-23), 3) := by decide +kernel
theorem d_X6_lastEngine_33 : decode J_X6_lastEngine.2.1 33 = .ok (.iconst (-1), 1) := by decide +kernel
theorem d_X6_lastEngine_34 : decode J_X6_lastEngine.2.1 34 = .ok (.ireturn, 1) := by decide +kernel
def f_X6_lastEngine_27 (N : Nat) (K : oK) (r7 : (Nat → Int32 → Int32 → oM → Option (Int32 × oM))) (p0 : Nat) (p1 : Int32) (p2 : Int32) (M : oM) : Option (Int32 × oM) :=
  (r7 p0 p1 (p2 + (-1)) M)
set_option maxRecDepth 20000 in
theorem v_X6_lastEngine_27 {X : oX} {d N : Nat} {K : oK} {r7 : (Nat → Int32 → Int32 → oM → Option (Int32 × oM))} {p0 : Nat} {p1 : Int32} {p2 : Int32} {M : oM} {v : Int32} {M' : oM}  (hd : 1 ≤ d) (hK : oSR K) (hh_p0 : oLS K p0) (hr7 : ∀ (p0 : Nat) (p1 : Int32) (p2 : Int32) (M : oM) (v : Int32) (M' : oM)  (hh_p0 : oLS K p0), r7 p0 p1 p2 M = some (v, M') → oEv X d J_X6_lastEngine 7 [some (.ref p0), some (.int p1), some (.int p2)] [] K M (some (.int v)) K M') (h : f_X6_lastEngine_27 N K r7 p0 p1 p2 M = some (v, M')) : oEv X d J_X6_lastEngine 27 [some (.ref p0), some (.int p1), some (.int p2)] [] K M (some (.int v)) K M' := by
  unfold f_X6_lastEngine_27 at h
  refine oe_iinc (pc := 27) (v := (p2 + (-1))) (L2 := [_, _, _]) d_X6_lastEngine_27 rfl rfl rfl (Nat.le_of_ble_eq_true rfl) rfl ?_
  refine oe_goto (pc := 30) (tgt := 7) d_X6_lastEngine_30 (by decide) ?_
  exact hr7 _ _ _ _ _ _ hh_p0 h
def f_X6_lastEngine_7 (N : Nat) (K : oK)  : Nat → Nat → Int32 → Int32 → oM → Option (Int32 × oM)
  | 0, _, _, _, _ => none
  | n + 1, p0, p1, p2, M => (fun r7 => (if p2 < 0 then some ((-1), M) else oIx (p2) 24 ((if (M.1 (p0 + 1) (p2 : Int32).toNatClampNeg) = 0 then (if p2 = p1 then (f_X6_lastEngine_27 N K r7 p0 p1 p2 M) else some (p2, M)) else (f_X6_lastEngine_27 N K r7 p0 p1 p2 M))))) (f_X6_lastEngine_7 N K  n)
set_option maxRecDepth 20000 in
theorem v_X6_lastEngine_7_L {X : oX} {d N : Nat} {K : oK}  (hd : 1 ≤ d) (hK : oSR K)  : ∀ (n : Nat) (p0 : Nat) (p1 : Int32) (p2 : Int32) (M : oM) (v : Int32) (M' : oM)  (hh_p0 : oLS K p0), f_X6_lastEngine_7 N K  n p0 p1 p2 M = some (v, M') → oEv X d J_X6_lastEngine 7 [some (.ref p0), some (.int p1), some (.int p2)] [] K M (some (.int v)) K M' := by
  intro n
  induction n with
  | zero =>
    intro p0 p1 p2 M v M'  hh_p0 h
    cases h
  | succ n hr7 =>
    intro p0 p1 p2 M v M'  hh_p0 h
    refine oe_iload_n (pc := 7) d_X6_lastEngine_7 rfl ?_
    refine oe_if_lt (pc := 8) (tgt := 33) d_X6_lastEngine_8 (by decide) (fun c1 => ?_) (fun c1 => ?_)
    · replace h := (if_pos c1).symm.trans h
      refine oe_iconst (pc := 33) (v := (-1)) d_X6_lastEngine_33 rfl ?_
      obtain ⟨rfl, rfl⟩ := oRes h
      exact oe_iret (pc := 34) d_X6_lastEngine_34 ⟨_, rfl, rfl⟩
    · replace h := (if_neg c1).symm.trans h
      refine oe_aload_n (pc := 11) d_X6_lastEngine_11 rfl ?_
      refine oe_getr (pc := 12) d_X6_lastEngine_12 fl_X6_9 ock6 (k := 3) (b := p0 + 1) (Nat.le_of_ble_eq_true rfl) (by decide) (oLSa hh_p0 (j := 0) (Nat.le_of_ble_eq_true rfl)) (oLSo hh_p0) (oLSf hh_p0 (j := 1) (by decide) (by decide)) ?_
      refine oe_iload_n (pc := 15) d_X6_lastEngine_15 rfl ?_
      obtain ⟨i2, h⟩ := oIx_some h
      refine oe_iald (pc := 16) d_X6_lastEngine_16 (oLSa hh_p0 (j := 1) (Nat.le_of_ble_eq_true rfl)) (oLSr hh_p0 (j := 1) (by decide) (Nat.le_of_ble_eq_true rfl)) i2 ?_
      refine oe_if_ne (pc := 17) (tgt := 27) d_X6_lastEngine_17 (by decide) (fun c3 => ?_) (fun c3 => ?_)
      · replace h := (if_neg c3).symm.trans h
        exact v_X6_lastEngine_27 hd hK hh_p0 hr7 h
      · replace h := (if_pos c3).symm.trans h
        refine oe_iload_n (pc := 20) d_X6_lastEngine_20 rfl ?_
        refine oe_iload_n (pc := 21) d_X6_lastEngine_21 rfl ?_
        refine oe_icmp_eq (pc := 22) (tgt := 27) d_X6_lastEngine_22 (by decide) (fun c4 => ?_) (fun c4 => ?_)
        · replace h := (if_pos c4).symm.trans h
          exact v_X6_lastEngine_27 hd hK hh_p0 hr7 h
        · replace h := (if_neg c4).symm.trans h
          refine oe_iload_n (pc := 25) d_X6_lastEngine_25 rfl ?_
          obtain ⟨rfl, rfl⟩ := oRes h
          exact oe_iret (pc := 26) d_X6_lastEngine_26 ⟨_, rfl, rfl⟩
theorem v_X6_lastEngine_7 {X : oX} {d N : Nat} {K : oK}  {p0 : Nat} {p1 : Int32} {p2 : Int32} {M : oM} {v : Int32} {M' : oM}  (hd : 1 ≤ d) (hK : oSR K) (hh_p0 : oLS K p0)  (h : f_X6_lastEngine_7 N K  N p0 p1 p2 M = some (v, M')) : oEv X d J_X6_lastEngine 7 [some (.ref p0), some (.int p1), some (.int p2)] [] K M (some (.int v)) K M' := v_X6_lastEngine_7_L hd hK  N p0 p1 p2 M v M'  hh_p0 h
def f_X6_lastEngine (N : Nat) (K : oK) (p0 : Nat) (p1 : Int32) (M : oM) : Option (Int32 × oM) :=
  (f_X6_lastEngine_7 N K  N p0 p1 ((M.1 p0 7) - 1) M)
set_option maxRecDepth 20000 in
theorem v_X6_lastEngine {X : oX} {N : Nat} {K : oK} {p0 : Nat} {p1 : Int32} {M : oM} {v : Int32} {M' : oM} (hK : oSR K) (hh_p0 : oLS K p0) (h : f_X6_lastEngine N K p0 p1 M = some (v, M')) : oMet X 1 J_X6_lastEngine [(.ref p0), (.int p1)] K M (some (.int v)) K M' := by
  unfold f_X6_lastEngine at h
  refine oMet_of (L := [some (.ref p0), some (.int p1), none]) jJ_X6_lastEngine.1 rfl (Nat.le_of_ble_eq_true rfl) rfl (Nat.le_refl _) (Nat.le_refl _) ?_
  have hd : 1 ≤ 1 := Nat.le_refl _
  refine oe_aload_n (pc := 0) d_X6_lastEngine_0 rfl ?_
  refine oe_getf (pc := 1) d_X6_lastEngine_1 fl_X6_34 ock6 (k := 7) (Nat.le_of_ble_eq_true rfl) rfl (oLSa hh_p0 (j := 0) (Nat.le_of_ble_eq_true rfl)) (oLSo hh_p0) ?_
  refine oe_iconst (pc := 4) (v := 1) d_X6_lastEngine_4 rfl ?_
  refine oe_isub (pc := 5) d_X6_lastEngine_5 ?_
  refine oe_istore_n (pc := 6) (L2 := [_, _, _]) d_X6_lastEngine_6 rfl rfl (Nat.le_of_ble_eq_true rfl) rfl ?_
  exact v_X6_lastEngine_7 hd hK hh_p0  h
